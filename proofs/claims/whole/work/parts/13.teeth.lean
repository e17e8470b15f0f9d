theorem sim_as (a0 a1 : Int32) : sw_sim (fX9_as a0 a1) (fX10_as a0 a1) := by
  intro σ hR
  obtain ⟨⟨hm, N, hN, hn, hT⟩, hB, hH, hF, hRd, hS, ⟨hZ1, hZ2⟩⟩ := id hR
  have hm2 : σ 37 1 = nI N := by rw [hm, hn]
  have i02 : ∀ (x : Int32) (τ : sw_St), fX10_in x.toInt64 0 2 τ = some (if 0 ≤ x ∧ x ≤ 2 then 1 else 0, τ) := fun x τ => sw_in32 (l := 0) (h := 2) rfl rfl τ
  have key : ∀ b : Int32, sw_Rel (sw_up (sw_up σ 0 13 b) 37 0 b) := by
    intro b
    simp only [sw_Rel, sw_up_eq, sw_ue, sw_un, sw_up_ne, ne_eq, Nat.reduceEqDiff, not_false_eq_true]
    exact ⟨⟨hm, N, hN, hn, hT⟩, hB, hH, hF, hRd, hS, ⟨rfl, hZ2⟩⟩
  have key2 : ∀ b : Int32, sw_Rel (sw_up (sw_up (sw_up σ 0 13 0) 0 13 b) 37 0 b) := by
    intro b
    simp only [sw_Rel, sw_up_eq, sw_ue, sw_un, sw_up_ne, ne_eq, Nat.reduceEqDiff, not_false_eq_true]
    exact ⟨⟨hm, N, hN, hn, hT⟩, hB, hH, hF, hRd, hS, ⟨rfl, hZ2⟩⟩
  have hn0 : (sw_up σ 0 13 0) 5 0 = nI N := by simp [sw_up_ne, hn]
  have Y : ∀ (x : Int32) (τ : sw_St), τ 37 = σ 37 → fX10_noTooth x τ = some (if sw_ok x N = true then 0 else 1, τ) := fun x τ ht => sw_noTooth hN (by rw [ht]; exact hm2)
  by_cases h : sw_ok a0 N = true
  · obtain ⟨k, hk, rfl⟩ := (sw_okE (by omega)).mp h
    obtain ⟨⟨e1, e2, e3, e4, e5⟩, -⟩ := hT k hk
    have h8 : sw_ok (nI k) 8 = true := sw_ok_nI (by omega) (by decide)
    have hcl : (nI k).toNatClampNeg = k := nI_clamp (by omega)
    by_cases c1 : 0 ≤ a1 ∧ a1 ≤ 2
    · by_cases c2 : σ 6 k < a1
      · refine ⟨-12, _, _, by simp [fX9_as, sw_le, sw_has6 hN hn0, h, sw_bs, sw_within, c1, sw_kindOf hN hn0 hk, sw_up_ne, c2, fX9_answerOfFault]; rfl, ?_, key2 2⟩
        rw [fX10_as, Y _ _ (by simp [sw_up_ne])]
        simp [h, sw_bs, i02, c1, h8, hcl, sw_up_ne, e1, c2, fX10_failed, sw_le]
      · refine ⟨1, _, _, by simp [fX9_as, sw_le, sw_has6 hN hn0, h, sw_bs, sw_within, c1, sw_kindOf hN hn0 hk, sw_up_ne, c2]; rfl, ?_, key 0⟩
        rw [fX10_as, Y _ _ (by simp [sw_up_ne])]
        simp [h, sw_bs, i02, c1, h8, hcl, sw_up_ne, e1, c2, fX10_refused, sw_le]
    · refine ⟨-2, _, _, by simp [fX9_as, sw_le, sw_has6 hN hn0, h, sw_bs, sw_within, c1]; rfl, ?_, key 0⟩
      rw [fX10_as, Y _ _ (by simp [sw_up_ne])]
      simp [h, sw_bs, i02, c1, fX10_refused, sw_le]
  · refine ⟨-1, _, _, by simp [fX9_as, sw_le, sw_has6 hN hn0, h, sw_bs]; rfl, ?_, key 0⟩
    rw [fX10_as, Y _ _ (by simp [sw_up_ne])]
    simp [h, sw_bs, fX10_refused, sw_le]
theorem sim_tell (a0 : Int32) : sw_sim (fX9_tell a0) (fX10_tell a0) := by
  intro σ hR
  obtain ⟨⟨hm, N, hN, hn, hT⟩, hB, hH, hF, hRd, hS, ⟨hZ1, hZ2⟩⟩ := id hR
  have hm2 : σ 37 1 = nI N := by rw [hm, hn]
  by_cases h : sw_ok a0 N = true
  · obtain ⟨k, hk, rfl⟩ := (sw_okE (by omega)).mp h
    obtain ⟨⟨e1, e2, e3, e4, e5⟩, ht, -⟩ := hT k hk
    have h8 : sw_ok (nI k) 8 = true := sw_ok_nI (by omega) (by decide)
    have hcl : (nI k).toNatClampNeg = k := nI_clamp (by omega)
    have X : fX6_has 5 (nI k) σ = some (1, σ) := by rw [sw_has6 hN hn, if_pos h]
    have Y : ∀ τ : sw_St, τ 37 1 = nI N → fX10_noTooth (nI k) τ = some (0, τ) := fun τ ht => by rw [sw_noTooth hN ht, if_pos h]
    have Z : ∀ τ : sw_St, τ 5 0 = nI N → fX6_sizeOf 5 (nI k) 2 τ = some (τ 8 (3 * k + 2), τ) := fun τ ht => sw_sizeOf (w := 2) hN ht hk (by decide)
    have hk3 : σ 6 k = 0 ∨ σ 6 k = 1 ∨ σ 6 k = 2 := by
      rcases ht with ⟨q, -⟩ | ⟨q | q, -⟩
      · exact Or.inl q
      · exact Or.inr (Or.inl q)
      · exact Or.inr (Or.inr q)
    rcases hk3 with c | c | c
    · refine ⟨σ 8 (3 * k + 2), sw_up σ 0 12 (31 * σ 0 12 + 1), sw_up (sw_up σ 0 12 (31 * σ 0 12 + 1)) 37 45 (31 * σ 0 12 + 1), ?_, ?_, ?_⟩
      · simp [fX9_tell, X, sw_bs, sw_kindOf hN hn hk, c, fX9_tellAsTooth, fX9_leaveInTrail, sw_le, Z, sw_up_ne, hn]
      · simp [fX10_tell, Y, sw_up_ne, hm2, sw_bs, h8, hcl, e1, c, fX10_tell_B27, fX10_tell_B36, fX10_tell_B51, fX10_traced, sw_le, hZ2, e5]
      · simp only [sw_Rel, sw_up_eq, sw_ue, sw_un, sw_up_ne, ne_eq, Nat.reduceEqDiff, not_false_eq_true]
        exact ⟨⟨hm, N, hN, hn, hT⟩, hB, hH, hF, hRd, hS, ⟨hZ1, rfl⟩⟩
    · refine ⟨σ 8 (3 * k + 2) + 100, sw_up (sw_up σ 0 12 (31 * σ 0 12 + 2)) 0 12 (31 * (31 * σ 0 12 + 2) + 1), sw_up (sw_up (sw_up (sw_up σ 0 12 (31 * σ 0 12 + 2)) 0 12 (31 * (31 * σ 0 12 + 2) + 1)) 37 45 (31 * σ 0 12 + 2)) 37 45 (31 * (31 * σ 0 12 + 2) + 1), ?_, ?_, ?_⟩
      · simp [fX9_tell, X, sw_bs, sw_kindOf hN hn hk, c, fX9_tellAsBent, fX9_tellAsTooth, fX9_leaveInTrail, sw_le, Z, sw_up_ne, sw_up_eq, sw_ue, hn]
      · simp [fX10_tell, Y, sw_up_ne, sw_up_eq, sw_ue, hm2, sw_bs, h8, hcl, e1, c, fX10_tell_B27, fX10_tell_B36, fX10_tell_B51, fX10_traced, sw_le, hZ2, e5]
      · simp only [sw_Rel, sw_up_eq, sw_ue, sw_un, sw_up_ne, ne_eq, Nat.reduceEqDiff, not_false_eq_true]
        exact ⟨⟨hm, N, hN, hn, hT⟩, hB, hH, hF, hRd, hS, ⟨hZ1, rfl⟩⟩
    · refine ⟨2 * σ 8 (3 * k + 2) + 100, sw_up (sw_up (sw_up (sw_up σ 0 12 (31 * σ 0 12 + 3)) 0 12 (31 * (31 * σ 0 12 + 3) + 2)) 0 12 (31 * (31 * (31 * σ 0 12 + 3) + 2) + 1)) 0 12 (31 * (31 * (31 * (31 * σ 0 12 + 3) + 2) + 1) + 1), sw_up (sw_up (sw_up (sw_up (sw_up (sw_up (sw_up (sw_up σ 0 12 (31 * σ 0 12 + 3)) 0 12 (31 * (31 * σ 0 12 + 3) + 2)) 0 12 (31 * (31 * (31 * σ 0 12 + 3) + 2) + 1)) 0 12 (31 * (31 * (31 * (31 * σ 0 12 + 3) + 2) + 1) + 1)) 37 45 (31 * σ 0 12 + 3)) 37 45 (31 * (31 * σ 0 12 + 3) + 2)) 37 45 (31 * (31 * (31 * σ 0 12 + 3) + 2) + 1)) 37 45 (31 * (31 * (31 * (31 * σ 0 12 + 3) + 2) + 1) + 1), ?_, ?_, ?_⟩
      · simp [fX9_tell, X, sw_bs, sw_kindOf hN hn hk, c, fX9_tellAsHooked, fX9_tellAsBent, fX9_tellAsTooth, fX9_leaveInTrail, sw_le, Z, sw_up_ne, sw_up_eq, sw_ue, hn]
        have e : (2 : Int32) = 1 + 1 := rfl
        rw [e, Int32.add_mul, Int32.one_mul]
        rw [Int32.add_assoc, Int32.add_assoc, Int32.add_comm 100]
      · simp [fX10_tell, Y, sw_up_ne, sw_up_eq, sw_ue, hm2, sw_bs, h8, hcl, e1, c, fX10_tell_B27, fX10_tell_B36, fX10_tell_B51, fX10_traced, sw_le, hZ2, e5]
      · simp only [sw_Rel, sw_up_eq, sw_ue, sw_un, sw_up_ne, ne_eq, Nat.reduceEqDiff, not_false_eq_true]
        exact ⟨⟨hm, N, hN, hn, hT⟩, hB, hH, hF, hRd, hS, ⟨hZ1, rfl⟩⟩
  · exact sw_ro hR (-1) (by simp [fX9_tell, sw_has6 hN hn, sw_bs, h]) (by simp [fX10_tell, sw_noTooth hN hm2, sw_bs, h])
/-- a size of the reference's teeth changes as the class's -/
theorem sw_set_rel {σ : sw_St} (hR : sw_Rel σ) {k N w : Nat} {v : Int32} (hn : σ 5 0 = nI N) (hN : N ≤ 8) (hk : k < N) (hw : w ≤ 2) (hv : sw_dg v) : sw_Rel (sw_up (sw_up σ 8 (3 * k + w) v) (40 + w) k v) := by
  obtain ⟨⟨hm, N', hN', hn', hT⟩, hB, hH, hF, hRd, hS, hZ⟩ := hR
  have e : N' = N := (nI_eq (by omega) (by omega)).mp (hn'.symm.trans hn)
  subst e
  rcases (show w = 0 ∨ w = 1 ∨ w = 2 by omega) with rfl | rfl | rfl <;>
  · simp only [sw_Rel, sw_up_eq, sw_ue, sw_un, sw_up_ne, ne_eq, Nat.reduceEqDiff, Nat.reduceAdd, not_false_eq_true]
    refine ⟨⟨hm, N', hN', hn', fun j hj => ?_⟩, hB, hH, hF, hRd, hS, hZ⟩
    obtain ⟨⟨e1, e2, e3, e4, e5⟩, e6, e7, e8, e9⟩ := hT j hj
    by_cases hjk : j = k
    · subst hjk
      simp only [Nat.add_zero, sw_ue, sw_un (show 3 * j ≠ 3 * j + 1 by omega), sw_un (show 3 * j ≠ 3 * j + 2 by omega), sw_un (show 3 * j + 1 ≠ 3 * j by omega), sw_un (show 3 * j + 1 ≠ 3 * j + 2 by omega), sw_un (show 3 * j + 2 ≠ 3 * j by omega), sw_un (show 3 * j + 2 ≠ 3 * j + 1 by omega)]
      exact ⟨⟨e1, e2, by first | trivial | rfl | exact e3, by first | trivial | rfl | exact e4, by first | trivial | rfl | exact e5⟩, e6, by first | exact hv | exact e7, by first | exact hv | exact e8, by first | exact hv | exact e9⟩
    · rw [sw_un (show 3 * j ≠ _ by omega), sw_un (show 3 * j + 1 ≠ _ by omega), sw_un (show 3 * j + 2 ≠ _ by omega), sw_un hjk]
      exact ⟨⟨e1, e2, e3, e4, e5⟩, e6, e7, e8, e9⟩
theorem sw_mchange {k w : Nat} {v : Int32} {σ : sw_St} (hk : k < 8) (hw : w ≤ 2) : fX10_change (nI k) (nI w) v σ = some (σ (40 + w) k, sw_up σ (40 + w) k v) := by
  have h8 : sw_ok (nI k) 8 = true := sw_ok_nI hk (by decide)
  have hcl : (nI k).toNatClampNeg = k := nI_clamp (by omega)
  rcases (show w = 0 ∨ w = 1 ∨ w = 2 by omega) with rfl | rfl | rfl
  · simp [fX10_change, fX10_change_B33, h8, hcl, sw_le, show nI 0 = 0 from rfl]
  · simp [fX10_change, fX10_change_B33, h8, hcl, sw_le, show nI 1 = 1 from rfl]
  · simp [fX10_change, fX10_change_B33, h8, hcl, sw_le, show nI 2 = 2 from rfl]
theorem sw_tz {σ : sw_St} (hR : sw_Rel σ) {k N w : Nat} (hn : σ 5 0 = nI N) (hN : N ≤ 8) (hk : k < N) (hw : w ≤ 2) : σ (40 + w) k = σ 8 (3 * k + w) := by
  obtain ⟨⟨hm, N', hN', hn', hT⟩, hB, hH, hF, hRd, hS, hZ⟩ := hR
  have e : N' = N := (nI_eq (by omega) (by omega)).mp (hn'.symm.trans hn)
  subst e
  obtain ⟨⟨e1, e2, e3, e4, e5⟩, -⟩ := hT k hk
  rcases (show w = 0 ∨ w = 1 ∨ w = 2 by omega) with rfl | rfl | rfl
  · exact e3
  · exact e4
  · exact e5
theorem sim_set (a0 a1 a2 : Int32) : sw_sim (fX9_set a0 a1 a2) (fX10_set a0 a1 a2) := by
  intro σ hR
  obtain ⟨⟨hm, N, hN, hn, hT⟩, hB, hH, hF, hRd, hS, hZ⟩ := id hR
  have hm2 : σ 37 1 = nI N := by rw [hm, hn]
  have i02 : ∀ (x : Int32) (τ : sw_St), fX10_in x.toInt64 0 2 τ = some (if 0 ≤ x ∧ x ≤ 2 then 1 else 0, τ) := fun x τ => sw_in32 (l := 0) (h := 2) rfl rfl τ
  have i09 : ∀ (x : Int32) (τ : sw_St), fX10_in x.toInt64 0 9 τ = some (if 0 ≤ x ∧ x ≤ 9 then 1 else 0, τ) := fun x τ => sw_in32 (l := 0) (h := 9) rfl rfl τ
  by_cases h : sw_ok a0 N = true
  · by_cases c1 : 0 ≤ a1 ∧ a1 ≤ 2
    · by_cases c2 : 0 ≤ a2 ∧ a2 ≤ 9
      · obtain ⟨k, hk, rfl⟩ := (sw_okE (by omega)).mp h
        obtain ⟨w, hw, rfl⟩ := nI_of2 (x := a1) (M := 2) (n := 2) rfl (Int32.not_lt.mpr c1.1) c1.2
        obtain ⟨z, hz, ez⟩ := nI_of2 (x := a2) (M := 9) (n := 9) rfl (Int32.not_lt.mpr c2.1) c2.2
        refine ⟨σ 8 (3 * k + w), sw_up σ 8 (3 * k + w) a2, sw_up (sw_up σ 8 (3 * k + w) a2) (40 + w) k a2, ?_, ?_, sw_set_rel hR hn hN hk hw ⟨z, hz, ez⟩⟩
        · simp [fX9_set, sw_has6 hN hn, sw_isSize, sw_within, sw_bs, h, c1, c2, sw_sizeOf hN hn hk hw, sw_change hN hn hk hw]
        · have hm3 : (sw_up σ 8 (3 * k + w) a2) 37 1 = nI N := by rw [sw_up_ne (by decide)]; exact hm2
          rw [fX10_set, sw_noTooth hN hm3]
          simp only [h, if_true, sw_bs, i02, i09, c1, c2, and_self, sw_mchange (show k < 8 by omega) hw]
          rw [sw_up_ne (show 40 + w ≠ 8 by omega), sw_tz hR hn hN hk hw]
          simp
      · exact sw_ro hR (-2) (by simp [fX9_set, sw_has6 hN hn, sw_isSize, sw_within, sw_bs, h, c1, c2]) (by simp [fX10_set, sw_noTooth hN hm2, i02, i09, sw_bs, h, c1, c2])
    · exact sw_ro hR (-2) (by simp [fX9_set, sw_has6 hN hn, sw_isSize, sw_bs, h, c1]) (by simp [fX10_set, sw_noTooth hN hm2, i02, sw_bs, h, c1])
  · exact sw_ro hR (-1) (by simp [fX9_set, sw_has6 hN hn, sw_bs, h]) (by simp [fX10_set, sw_noTooth hN hm2, sw_bs, h])
