theorem sw_RS_cells {la si ce sz' la' ce' : Nat → Int32} (h : sw_RS la si ce sz' la' ce') (ce1 ce2 : Nat → Int32) (hce : ∀ (j i N : Nat), j < 4 → i < N → N ≤ 80 → si j = nI N → ce' (80 * j + i) = ce (80 * j + i) → ce2 (80 * j + i) = ce1 (80 * j + i)) : sw_RS la si ce1 sz' la' ce2 := by
  intro j hj
  rcases h j hj with q | ⟨N, q1, q2, q3, q4, q5, q6⟩
  · exact Or.inl q
  · exact Or.inr ⟨N, q1, q2, q3, q4, q5, fun i hi => hce j i N hj hi q1 q2 (q6 i hi)⟩
theorem sw_lane_ne {x : Int32} (h : x = 0 ∨ x = 1 ∨ x = 2) : ¬ x = -1 := by
  rcases h with q | q | q <;> rw [q] <;> decide
theorem sw_if1 {α : Type} (a b : α) : (if (1 : Int32) ≤ 0 then a else b) = b := if_neg (by decide)
theorem sw_if3 {α : Type} (a b : α) : (if (3 : Int32) ≤ 0 then a else b) = b := if_neg (by decide)
theorem sw_if0 {α : Type} (a b : α) : (if (0 : Int32) ≤ 0 then a else b) = a := if_pos (by decide)
theorem sw_put_u {σ : sw_St} {a0 a1 a2 : Int32} (h : sw_ok a0 4 = true) : fX10_put a0 a1 a2 σ = sw_bind (fX10_noCell a0 a1 σ) (fun r3 σ4 => (if r3 ≤ 0 then (if sw_ok a0 4 = true then (if (σ4 60 (Int32.toNatClampNeg a0)) = 0 then fX10_put_B73 (Int8.toInt32 (Int32.toInt8 a2)) ((80 * a0) + a1) σ4 else (if sw_ok a0 4 = true then (if (σ4 60 (Int32.toNatClampNeg a0)) = 1 then fX10_put_B73 (Int16.toInt32 (Int32.toInt16 a2)) ((80 * a0) + a1) σ4 else fX10_put_B73 a2 ((80 * a0) + a1) σ4) else none)) else none) else sw_bind (fX10_noCell a0 a1 σ4) (fun r5 σ6 => sw_bind (fX10_failed r5 σ6) (fun r7 σ8 => some (r7, σ8))))) := by
  unfold fX10_put
  rw [sw_noSheet, if_pos h, sw_bs]
  exact if_pos rfl
theorem sw_fl1 (σ : sw_St) : fX10_failed 1 σ = some (-11, sw_up σ 37 0 1) := by simp [fX10_failed, sw_le]
theorem sw_fl3 (σ : sw_St) : fX10_failed 3 σ = some (-13, sw_up σ 37 0 3) := by simp [fX10_failed, sw_le]
theorem sw_put_n {σ : sw_St} {k : Nat} {a1 a2 : Int32} (hk : k < 4) (q2 : σ 59 k = -1) : fX10_put (nI k) a1 a2 σ = some (-11, sw_up σ 37 0 1) := by
  rw [sw_put_u (sw_k4 hk), sw_noCell0 hk q2, sw_bs, sw_if1, sw_noCell0 hk q2, sw_bs, sw_fl1, sw_bs]
theorem sw_put_i {σ : sw_St} {k N : Nat} {a1 a2 : Int32} (hk : k < 4) (q1 : N ≤ 80) (q3 : σ 59 k = nI N) (c1 : ¬ sw_ok a1 N = true) : fX10_put (nI k) a1 a2 σ = some (-13, sw_up σ 37 0 3) := by
  rw [sw_put_u (sw_k4 hk), sw_noCell hk q1 q3, if_neg c1, sw_bs, sw_if3, sw_noCell hk q1 q3, if_neg c1, sw_bs, sw_fl3, sw_bs]
theorem sw_put_o {σ : sw_St} {k N i : Nat} {a2 v : Int32} (hk : k < 4) (q1 : N ≤ 80) (q3 : σ 59 k = nI N) (hi : i < N) (hv : v = if σ 60 k = 0 then Int8.toInt32 (Int32.toInt8 a2) else if σ 60 k = 1 then Int16.toInt32 (Int32.toInt16 a2) else a2) : fX10_put (nI k) (nI i) a2 σ = some (1, sw_up (sw_up σ 61 (80 * k + i) v) 37 0 0) := by
  have hB : ∀ w : Int32, fX10_put_B73 w (80 * nI k + nI i) σ = some (1, sw_up (sw_up σ 61 (80 * k + i) w) 37 0 0) := by
    intro w
    unfold fX10_put_B73
    rw [sw_ix08, if_pos (sw_ok_nI (show 80 * k + i < 320 by omega) (by decide)), sw_le, nI_clamp (show 80 * k + i < 2 ^ 31 by omega)]
    rfl
  rw [sw_put_u (sw_k4 hk), sw_noCell hk q1 q3, if_pos (sw_ok_nI hi (by omega)), sw_bs, sw_if0, if_pos (sw_k4 hk), if_pos (sw_k4 hk), nI_clamp (show k < 2 ^ 31 by omega), hB, hB, hB, hv]
  by_cases c0 : σ 60 k = 0
  · rw [if_pos c0, if_pos c0]
  · rw [if_neg c0, if_neg c0]
    by_cases c1 : σ 60 k = 1
    · rw [if_pos c1, if_pos c1]
    · rw [if_neg c1, if_neg c1]
theorem sim_put (a0 a1 a2 : Int32) : sw_sim (fX9_put a0 a1 a2) (fX10_put a0 a1 a2) := by
  intro σ hR
  obtain ⟨hT, hB, hH, hF, hRd, hS, ⟨hZ1, hZ2⟩⟩ := id hR
  by_cases h : sw_ok a0 4 = true
  · obtain ⟨k, hk, rfl⟩ := (sw_okE (by decide)).mp h
    have hcl : (nI k).toNatClampNeg = k := nI_clamp (by omega)
    rcases hS k hk with ⟨q1, q2⟩ | ⟨N, q1, q2, q3, q4, q5, q6⟩
    · refine ⟨-11, sw_up σ 0 13 1, sw_up (sw_up σ 0 13 1) 37 0 1, ?_, sw_put_n hk (by rw [sw_up_ne (by decide)]; exact q2), sw_fault_rel hR 1⟩
      simp [fX9_put, sw_le, sw_isSheet, sw_bs, h, sw_isNothing hk, sw_up_ne, q1, fX9_answerOfFault, sw_up_up]
    · have hl : ¬ σ 2 k = -1 := sw_lane_ne q5
      have hl0 : ∀ b : Int32, ¬ (sw_up σ 0 13 b) 2 k = -1 := fun b => by rw [sw_up_ne (by decide)]; exact hl
      have hs0 : ∀ b : Int32, (sw_up σ 0 13 b) 3 k = nI N := fun b => by rw [sw_up_ne (by decide)]; exact q2
      by_cases c1 : sw_ok a1 N = true
      · obtain ⟨i, hi, rfl⟩ := (sw_okE (by omega)).mp c1
        have k320 : sw_ok (nI (80 * k + i)) 320 = true := sw_ok_nI (by omega) (by decide)
        have hci : (nI (80 * k + i)).toNatClampNeg = 80 * k + i := nI_clamp (by omega)
        obtain ⟨v, hv⟩ : ∃ v : Int32, v = if σ 60 k = 0 then Int8.toInt32 (Int32.toInt8 a2) else if σ 60 k = 1 then Int16.toInt32 (Int32.toInt16 a2) else a2 := ⟨_, rfl⟩
        refine ⟨1, sw_up (sw_up σ 0 13 0) 4 (80 * k + i) v, sw_up (sw_up (sw_up (sw_up σ 0 13 0) 4 (80 * k + i) v) 61 (80 * k + i) v) 37 0 0, ?_, sw_put_o hk q1 (by rw [sw_up_ne (by decide), sw_up_ne (by decide)]; exact q3) hi (by rw [sw_up_ne (by decide), sw_up_ne (by decide)]; exact hv), ?_⟩
        · rw [q4] at hv
          rcases q5 with q | q | q
          · rw [if_pos q] at hv
            simp [fX9_put, sw_le, sw_isSheet, sw_bs, h, sw_isNothing hk, sw_hasCell hk q1 (hl0 0) (hs0 0), sw_up_ne, q, c1, fX7_write, hcl, fX7_write_B43, sw_ix80, k320, hci, hv]
          · rw [if_neg (by rw [q]; decide), if_pos q] at hv
            simp [fX9_put, sw_le, sw_isSheet, sw_bs, h, sw_isNothing hk, sw_hasCell hk q1 (hl0 0) (hs0 0), sw_up_ne, q, c1, fX7_write, hcl, fX7_write_B43, sw_ix80, k320, hci, hv]
          · rw [if_neg (by rw [q]; decide), if_neg (by rw [q]; decide)] at hv
            simp [fX9_put, sw_le, sw_isSheet, sw_bs, h, sw_isNothing hk, sw_hasCell hk q1 (hl0 0) (hs0 0), sw_up_ne, q, c1, fX7_write, hcl, fX7_write_B43, sw_ix80, k320, hci, hv]
        · simp only [sw_Rel, sw_up_eq, sw_ue, sw_un, sw_up_ne, ne_eq, Nat.reduceEqDiff, not_false_eq_true]
          refine ⟨hT, hB, hH, hF, hRd, sw_RS_cells hS _ _ (fun j i' N' hj hi' hN' hs he => ?_), ⟨rfl, hZ2⟩⟩
          by_cases hx : 80 * j + i' = 80 * k + i
          · rw [hx, sw_ue, sw_ue]
          · rw [sw_un hx, sw_un hx]; exact he
      · refine ⟨-13, sw_up σ 0 13 3, sw_up (sw_up σ 0 13 3) 37 0 3, ?_, sw_put_i hk q1 (by rw [sw_up_ne (by decide)]; exact q3) c1, sw_fault_rel hR 3⟩
        simp [fX9_put, sw_le, sw_isSheet, sw_bs, h, sw_isNothing hk, sw_hasCell hk q1 (hl0 0) (hs0 0), sw_up_ne, hl, c1, fX9_answerOfFault, sw_up_up]
  · refine ⟨-1, sw_up σ 0 13 0, sw_up (sw_up σ 0 13 0) 37 0 0, ?_, ?_, sw_fault_rel hR 0⟩
    · simp [fX9_put, sw_le, sw_isSheet, sw_bs, h]
    · simp [fX10_put, sw_noSheet, sw_bs, h, fX10_refused, sw_le]
