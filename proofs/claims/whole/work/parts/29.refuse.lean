/-! What saw, board, log refuse alike. -/
theorem sw_cmp_ge0 (v : Int64) : (0 ≤ lg_cmp v 0) ↔ 0 ≤ v.toInt := by
  rw [lg_cmp_ge, Int64.le_iff_toInt_le]
  exact Iff.rfl
theorem sw_m10 : ¬ 0 ≤ (-10 - 1 : Int32) ∧ ¬ (-10 - 1 : Int32) = 0 ∧ ¬ 0 ≤ (-10 - 2 : Int32) ∧ ¬ (-10 - 2 : Int32) = 0 ∧ ¬ 0 ≤ (-10 - 3 : Int32) ∧ ¬ (-10 - 3 : Int32) = 0 ∧ ¬ 0 ≤ (-10 - 4 : Int32) ∧ ¬ (-10 - 4 : Int32) = 0 := by decide +kernel
theorem sw_refuse {σ : sw_St} (hR : sw_Rel σ) (a0 a1 a2 a3 : Int32) : (∃ r f : Int32, ¬ 0 ≤ r ∧ ¬ r = 0 ∧ fX9_refusalOfCells a0 a1 a2 a3 σ = some (r, sw_up σ 0 13 f) ∧ ∀ τ : sw_St, τ 59 = σ 59 → τ 60 = σ 60 → fX10_barred a0 a1 a2 a3.toInt64 τ = some (r, sw_up τ 37 0 f)) ∨ ∃ k N i n : Nat, k < 4 ∧ N ≤ 80 ∧ a0 = nI k ∧ a2 = nI i ∧ a3 = nI n ∧ i + n ≤ N ∧ ¬ σ 2 k = -1 ∧ σ 3 k = nI N ∧ σ 59 k = nI N ∧ (∀ y : Nat, y < N → σ 61 (80 * k + y) = σ 4 (80 * k + y)) ∧ fX9_refusalOfCells a0 a1 a2 a3 σ = some (0, sw_up σ 0 13 0) ∧ ∀ τ : sw_St, τ 59 = σ 59 → τ 60 = σ 60 → fX10_barred a0 a1 a2 a3.toInt64 τ = some (0, τ) := by
  obtain ⟨hT, hB, hH, hF, hRd, hS, ⟨hZ1, hZ2⟩⟩ := id hR
  by_cases h : sw_ok a0 4 = true
  · by_cases c1 : 0 ≤ a1 ∧ a1 ≤ 2
    · obtain ⟨k, hk, rfl⟩ := (sw_okE (by decide)).mp h
      have ck : (nI k).toNatClampNeg = k := nI_clamp (by omega)
      have u2 : (sw_up σ 0 13 0) 2 = σ 2 := sw_up_ne (by decide)
      have u3 : (sw_up σ 0 13 0) 3 = σ 3 := sw_up_ne (by decide)
      have X : fX9_refusalOfCells (nI k) a1 a2 a3 σ = (if (if σ 2 k = -1 then (1 : Int32) else if σ 2 k = a1 then 0 else 2) = 0 then (if 0 ≤ a3 then sw_bind (fX7_hasCells (nI k) a2 a3 (sw_up σ 0 13 0)) (fun r8 σ9 => (if r8 = 0 then sw_bind (fX9_answerOfFault 3 σ9) (fun r10 σ11 => some (r10, σ11)) else some (0, σ9))) else some (-10 - 4, sw_up σ 0 13 4)) else some (-10 - (if σ 2 k = -1 then (1 : Int32) else if σ 2 k = a1 then 0 else 2), sw_up σ 0 13 (if σ 2 k = -1 then (1 : Int32) else if σ 2 k = a1 then 0 else 2))) := by
        rw [fX9_refusalOfCells, sw_le, sw_isSheet, if_pos h, sw_bs, if_neg (by decide), sw_isLane, if_pos c1, sw_bs, if_neg (by decide), sw_faultOfRow hk, u2, sw_bs, sw_xfail, sw_xfail, sw_up_up, sw_up_up]
      have Y : ∀ τ : sw_St, fX10_barred (nI k) a1 a2 a3.toInt64 τ = (if τ 59 k < 0 then fX10_barred_B57 (nI k) a2 a3.toInt64 τ else if τ 60 k = a1 then fX10_barred_B57 (nI k) a2 a3.toInt64 τ else some (-10 - 2, sw_up τ 37 0 2)) := by
        intro τ
        rw [fX10_barred, sw_noSheet, if_pos h, sw_bs, if_pos rfl, sw_in32 (l := 0) (h := 2) (l' := 0) (h' := 2) rfl rfl, if_pos c1, sw_bs, if_neg (by decide), if_pos h, if_pos h, ck, sw_mfail]
      have Z : ∀ τ : sw_St, fX10_barred_B57 (nI k) a2 a3.toInt64 τ = (if 0 ≤ τ 59 k then (if 0 ≤ a3.toInt then sw_bind (fX10_isBeyond a2 a3.toInt64 (τ 59 k) τ) (fun r11 σ12 => (if r11 = 0 then some (0, σ12) else sw_bind (fX10_failed 3 σ12) (fun r13 σ14 => some (r13, σ14)))) else some (-10 - 4, sw_up τ 37 0 4)) else some (-10 - 1, sw_up τ 37 0 1)) := by
        intro τ
        rw [fX10_barred_B57, if_pos h, ck, if_pos h, sw_mfail, sw_mfail]
        by_cases q : 0 ≤ a3.toInt
        · rw [if_pos q, if_pos ((sw_cmp_ge0 _).mpr (by rw [Int32.toInt_toInt64]; exact q))]
        · have hq : ¬ 0 ≤ lg_cmp a3.toInt64 0 := fun p => q (by have := (sw_cmp_ge0 _).mp p; rw [Int32.toInt_toInt64] at this; exact this)
          rw [if_neg q, if_neg hq]
      rcases hS k hk with ⟨q1, q2⟩ | ⟨N, q1, q2, q3, q4, q5, q6⟩
      · refine Or.inl ⟨-10 - 1, 1, sw_m10.1, sw_m10.2.1, ?_, fun τ h1 h2 => ?_⟩
        · rw [X, if_pos q1, if_neg (by decide)]
        · rw [Y, h1, q2, if_pos (by decide), Z, h1, q2, if_neg (by decide)]
      · have hl : ¬ σ 2 k = -1 := sw_lane_ne q5
        have np : ¬ nI N < 0 := nI_pos (by omega)
        have pp : 0 ≤ nI N := nI_pos' (by omega)
        rw [if_neg hl] at X
        by_cases c2 : σ 2 k = a1
        · rw [if_pos c2, if_pos rfl, sw_hasCells hk q1 (by rw [u2]; exact hl) (by rw [u3]; exact q2), sw_bs] at X
          by_cases c3 : 0 ≤ a3
          · have c3' : 0 ≤ a3.toInt := by rw [Int32.le_iff_toInt_le] at c3; exact c3
            rw [if_pos c3] at X
            by_cases c4 : sw_cs N a2 a3 = true
            · obtain ⟨i, n, e1, e2, hin⟩ := sw_csE q1 c4
              refine Or.inr ⟨k, N, i, n, hk, q1, rfl, e1, e2, hin, hl, q2, q3, q6, ?_, fun τ h1 h2 => ?_⟩
              · rw [X, if_pos c4, if_neg (by decide)]
              · rw [Y, h1, h2, q3, if_neg np, q4, if_pos c2, Z, h1, q3, if_pos pp, if_pos c3', sw_isBeyond q1, if_pos c4, sw_bs, if_pos rfl]
            · refine Or.inl ⟨-10 - 3, 3, sw_m10.2.2.2.2.1, sw_m10.2.2.2.2.2.1, ?_, fun τ h1 h2 => ?_⟩
              · rw [X, if_neg c4, if_pos rfl, sw_xfail, sw_up_up]
              · rw [Y, h1, h2, q3, if_neg np, q4, if_pos c2, Z, h1, q3, if_pos pp, if_pos c3', sw_isBeyond q1, if_neg c4, sw_bs, if_neg (by decide), sw_mfail]
          · have c3' : ¬ 0 ≤ a3.toInt := fun q => c3 (by rw [Int32.le_iff_toInt_le]; exact q)
            refine Or.inl ⟨-10 - 4, 4, sw_m10.2.2.2.2.2.2.1, sw_m10.2.2.2.2.2.2.2, ?_, fun τ h1 h2 => ?_⟩
            · rw [X, if_neg c3]
            · rw [Y, h1, h2, q3, if_neg np, q4, if_pos c2, Z, h1, q3, if_pos pp, if_neg c3']
        · rw [if_neg c2, if_neg (by decide)] at X
          refine Or.inl ⟨-10 - 2, 2, sw_m10.2.2.1, sw_m10.2.2.2.1, X, fun τ h1 h2 => ?_⟩
          rw [Y, h1, h2, q3, if_neg np, q4, if_neg c2]
    · refine Or.inl ⟨-2, 0, by decide, by decide, ?_, fun τ _ _ => ?_⟩
      · rw [fX9_refusalOfCells, sw_le, sw_isSheet, if_pos h, sw_bs, if_neg (by decide), sw_isLane, if_neg c1, sw_bs, if_pos rfl]
      · rw [fX10_barred, sw_noSheet, if_pos h, sw_bs, if_pos rfl, sw_in32 (l := 0) (h := 2) (l' := 0) (h' := 2) rfl rfl, if_neg c1, sw_bs, if_pos rfl, sw_mref]
  · refine Or.inl ⟨-1, 0, by decide, by decide, ?_, fun τ _ _ => ?_⟩
    · rw [fX9_refusalOfCells, sw_le, sw_isSheet, if_neg h, sw_bs, if_pos rfl]
    · rw [fX10_barred, sw_noSheet, if_neg h, sw_bs, if_neg (by decide), sw_mref]
/-- codes: a digit's range -/
theorem sw_s48 (c : Int32) : (c - 48).toInt = if c.toInt - 48 < -2147483648 then c.toInt - 48 + 4294967296 else c.toInt - 48 := by
  have h1 := Int32.le_toInt c
  have h2 := Int32.toInt_lt c
  have e : (48 : Int32).toInt = 48 := rfl
  rw [Int32.toInt_sub, e]
  split
  · rw [Int.bmod_def]
    split <;> omega
  · apply Int.bmod_eq_of_le <;> omega
theorem sw_rng (c : Int32) {lo hi lo' hi' : Int32} (h1 : 0 ≤ lo.toInt) (h2 : hi.toInt ≤ 100) (e1 : lo'.toInt = lo.toInt + 48) (e2 : hi'.toInt = hi.toInt + 48) : (lo ≤ c - 48 ∧ c - 48 ≤ hi) ↔ (¬ c < lo' ∧ ¬ hi' < c) := by
  have q1 := Int32.le_toInt c
  have q2 := Int32.toInt_lt c
  rw [Int32.le_iff_toInt_le, Int32.le_iff_toInt_le, Int32.lt_iff_toInt_lt, Int32.lt_iff_toInt_lt, sw_s48, e1, e2]
  split <;> omega
