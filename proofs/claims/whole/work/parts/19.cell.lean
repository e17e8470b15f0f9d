theorem sw_faultOfRow {k : Nat} {x : Int32} {σ : sw_St} (hk : k < 4) : fX7_faultOfRow (nI k) x σ = some (if σ 2 k = -1 then 1 else if σ 2 k = x then 0 else 2, σ) := by
  rw [fX7_faultOfRow, sw_isNothing hk, sw_bs]
  by_cases h : σ 2 k = -1
  · rw [if_pos h, if_pos h, if_neg (by decide)]
  · rw [if_neg h, if_neg h, if_pos rfl, if_pos (sw_k4 hk), nI_clamp (show k < 2 ^ 31 by omega)]
    by_cases h2 : σ 2 k = x
    · rw [if_pos h2, if_pos h2]
    · rw [if_neg h2, if_neg h2]
theorem sw_flL (f : Int32) (σ : sw_St) : fX10_failedLong f σ = some (-9223372036854775808, sw_up σ 37 0 f) := rfl
theorem sw_c53n {σ : sw_St} {k : Nat} {a1 : Int32} (hk : k < 4) (q2 : σ 59 k = -1) : fX10_cell_B53 (nI k) a1 σ = some (-9223372036854775808, sw_up σ 37 0 1) := by
  rw [fX10_cell_B53, sw_noCell0 hk q2, sw_bs, sw_if1, sw_noCell0 hk q2, sw_bs, sw_flL, sw_bs]
theorem sw_c53i {σ : sw_St} {k N : Nat} {a1 : Int32} (hk : k < 4) (q1 : N ≤ 80) (q3 : σ 59 k = nI N) (c1 : ¬ sw_ok a1 N = true) : fX10_cell_B53 (nI k) a1 σ = some (-9223372036854775808, sw_up σ 37 0 3) := by
  rw [fX10_cell_B53, sw_noCell hk q1 q3, if_neg c1, sw_bs, sw_if3, sw_noCell hk q1 q3, if_neg c1, sw_bs, sw_flL, sw_bs]
theorem sw_c53o {σ : sw_St} {k N i : Nat} (hk : k < 4) (q1 : N ≤ 80) (q3 : σ 59 k = nI N) (hi : i < N) : fX10_cell_B53 (nI k) (nI i) σ = some (Int32.toInt64 (σ 61 (80 * k + i)), σ) := by
  rw [fX10_cell_B53, sw_noCell hk q1 q3, if_pos (sw_ok_nI hi (by omega)), sw_bs, sw_if0, sw_ix08, if_pos (sw_ok_nI (show 80 * k + i < 320 by omega) (by decide)), nI_clamp (show 80 * k + i < 2 ^ 31 by omega)]
theorem sw_cell_u {σ : sw_St} {a1 a2 : Int32} {k : Nat} (hk : k < 4) (c1 : 0 ≤ a2 ∧ a2 ≤ 2) : fX10_cell (nI k) a1 a2 σ = (if (sw_up σ 37 0 0) 59 k < 0 then fX10_cell_B53 (nI k) a1 (sw_up σ 37 0 0) else if (sw_up σ 37 0 0) 60 k = a2 then fX10_cell_B53 (nI k) a1 (sw_up σ 37 0 0) else some (-9223372036854775808, sw_up (sw_up σ 37 0 0) 37 0 2)) := by
  rw [fX10_cell, sw_le, sw_noSheet, if_pos (sw_k4 hk), sw_bs, if_pos rfl, sw_in32 (l := 0) (h := 2) (l' := 0) (h' := 2) rfl rfl, if_pos c1, sw_bs, if_neg (by decide), if_pos (sw_k4 hk), if_pos (sw_k4 hk), nI_clamp (show k < 2 ^ 31 by omega), sw_flL, sw_bs]
theorem sw_cell_r {σ : sw_St} {a0 a1 a2 : Int32} (h : ¬ (sw_ok a0 4 = true ∧ 0 ≤ a2 ∧ a2 ≤ 2)) : fX10_cell a0 a1 a2 σ = some (-9223372036854775808, sw_up σ 37 0 0) := by
  rw [fX10_cell, sw_le, sw_noSheet]
  by_cases h1 : sw_ok a0 4 = true
  · have c1 : ¬ (0 ≤ a2 ∧ a2 ≤ 2) := fun q => h ⟨h1, q⟩
    rw [if_pos h1, sw_bs, if_pos rfl, sw_in32 (l := 0) (h := 2) (l' := 0) (h' := 2) rfl rfl, if_neg c1, sw_bs, if_pos rfl]
    rfl
  · rw [if_neg h1, sw_bs, if_neg (by decide)]
    rfl
/-- the class's cell -/
theorem sw_xc60 {σ : sw_St} {a0 a1 : Int32} (h : ¬ σ 0 13 = 0) : fX9_cell_B60 a0 a1 σ = some (-9223372036854775808, σ) := by
  rw [fX9_cell_B60, if_neg h]
theorem sw_xcell_r {σ : sw_St} {a0 a1 a2 : Int32} (h : ¬ (sw_ok a0 4 = true ∧ 0 ≤ a2 ∧ a2 ≤ 2)) : fX9_cell a0 a1 a2 σ = some (-9223372036854775808, sw_up σ 0 13 0) := by
  rw [fX9_cell, sw_le, sw_isSheet]
  by_cases h1 : sw_ok a0 4 = true
  · have c1 : ¬ (0 ≤ a2 ∧ a2 ≤ 2) := fun q => h ⟨h1, q⟩
    rw [if_pos h1, sw_bs, if_neg (by decide), sw_isLane, if_neg c1, sw_bs, if_pos rfl]
  · rw [if_neg h1, sw_bs, if_pos rfl]
theorem sw_xcell_u {σ : sw_St} {a1 a2 f : Int32} {k : Nat} (hk : k < 4) (c1 : 0 ≤ a2 ∧ a2 ≤ 2) (hf : f = if σ 2 k = -1 then 1 else if σ 2 k = a2 then 0 else 2) : fX9_cell (nI k) a1 a2 σ = (if f = 0 then sw_bind (fX7_hasCell (nI k) a1 (sw_up σ 0 13 f)) (fun r9 σ10 => (if r9 = 0 then fX9_cell_B60 (nI k) a1 (sw_up σ10 0 13 3) else fX9_cell_B60 (nI k) a1 σ10)) else fX9_cell_B60 (nI k) a1 (sw_up σ 0 13 f)) := by
  rw [fX9_cell, sw_le, sw_isSheet, if_pos (sw_k4 hk), sw_bs, if_neg (by decide), sw_isLane, if_pos c1, sw_bs, if_neg (by decide), sw_faultOfRow hk, sw_up_ne (show 2 ≠ 0 by decide), ← hf, sw_bs, sw_le, sw_up_up, sw_up_eq, sw_ue]
  rfl
theorem sim_cell (a0 a1 a2 : Int32) : sw_sim (fX9_cell a0 a1 a2) (fX10_cell a0 a1 a2) := by
  intro σ hR
  obtain ⟨hT, hB, hH, hF, hRd, hS, ⟨hZ1, hZ2⟩⟩ := id hR
  have f0 := sw_fault_rel hR
  by_cases hh : sw_ok a0 4 = true ∧ 0 ≤ a2 ∧ a2 ≤ 2
  · obtain ⟨h, c1⟩ := hh
    obtain ⟨k, hk, rfl⟩ := (sw_okE (by decide)).mp h
    have m59 : ∀ b d : Int32, (sw_up (sw_up σ 0 13 b) 37 0 d) 59 k = σ 59 k := fun b d => by rw [sw_up_ne (by decide), sw_up_ne (by decide)]
    have m60 : ∀ b d : Int32, (sw_up (sw_up σ 0 13 b) 37 0 d) 60 k = σ 60 k := fun b d => by rw [sw_up_ne (by decide), sw_up_ne (by decide)]
    have m61 : ∀ b d : Int32, (sw_up (sw_up σ 0 13 b) 37 0 d) 61 = σ 61 := fun b d => by rw [sw_up_ne (by decide), sw_up_ne (by decide)]
    rcases hS k hk with ⟨q1, q2⟩ | ⟨N, q1, q2, q3, q4, q5, q6⟩
    · refine ⟨-9223372036854775808, sw_up σ 0 13 1, sw_up (sw_up σ 0 13 1) 37 0 1, ?_, ?_, f0 1⟩
      · rw [sw_xcell_u (f := 1) hk c1 (by rw [if_pos q1]), if_neg (by decide), sw_xc60 (by rw [sw_up_eq, sw_ue]; decide)]
      · rw [sw_cell_u hk c1, m59, q2, if_pos (by decide), sw_c53n hk (by rw [m59]; exact q2), sw_up_up]
    · have hl : ¬ σ 2 k = -1 := sw_lane_ne q5
      have hl0 : ∀ b : Int32, ¬ (sw_up σ 0 13 b) 2 k = -1 := fun b => by rw [sw_up_ne (by decide)]; exact hl
      have hs0 : ∀ b : Int32, (sw_up σ 0 13 b) 3 k = nI N := fun b => by rw [sw_up_ne (by decide)]; exact q2
      have np : ¬ nI N < 0 := nI_pos (by omega)
      by_cases c2 : σ 2 k = a2
      · have X := sw_xcell_u (a1 := a1) (f := 0) hk c1 (by rw [if_neg hl, if_pos c2])
        rw [if_pos rfl, sw_hasCell hk q1 (hl0 0) (hs0 0), sw_bs] at X
        by_cases c3 : sw_ok a1 N = true
        · obtain ⟨i, hi, rfl⟩ := (sw_okE (by omega)).mp c3
          rw [if_pos c3, if_neg (by decide), fX9_cell_B60, if_pos (by rw [sw_up_eq, sw_ue]), sw_at hk q1 (hl0 0) (hs0 0) hi, sw_bs] at X
          refine ⟨_, _, sw_up (sw_up σ 0 13 0) 37 0 0, X, ?_, f0 0⟩
          rw [sw_cell_u hk c1, m59, q3, if_neg np, m60, q4, if_pos c2, sw_c53o hk q1 (by rw [m59]; exact q3) hi, m61, q6 i hi, sw_up_ne (show 4 ≠ 0 by decide)]
        · rw [if_neg c3, if_pos rfl, sw_up_up, sw_xc60 (by rw [sw_up_eq, sw_ue]; decide)] at X
          refine ⟨_, _, sw_up (sw_up σ 0 13 3) 37 0 3, X, ?_, f0 3⟩
          rw [sw_cell_u hk c1, m59, q3, if_neg np, m60, q4, if_pos c2, sw_c53i hk q1 (by rw [m59]; exact q3) c3, sw_up_up]
      · have X := sw_xcell_u (a1 := a1) (f := 2) hk c1 (by rw [if_neg hl, if_neg c2])
        rw [if_neg (by decide), sw_xc60 (by rw [sw_up_eq, sw_ue]; decide)] at X
        refine ⟨_, _, sw_up (sw_up σ 0 13 2) 37 0 2, X, ?_, f0 2⟩
        rw [sw_cell_u hk c1, m59, q3, if_neg np, m60, q4, if_neg c2, sw_up_up]
  · exact ⟨_, _, _, sw_xcell_r hh, sw_cell_r hh, f0 0⟩
