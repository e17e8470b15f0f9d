/-- one sheet of the relation changes -/
theorem sw_RS_set {la si ce sz' la' ce' : Nat → Int32} (h : sw_RS la si ce sz' la' ce') {k : Nat} (v1 v2 v3 v4 : Int32) (ce1 ce2 : Nat → Int32) (hce : ∀ j i : Nat, j < 4 → j ≠ k → i < 80 → ce1 (80 * j + i) = ce (80 * j + i) ∧ ce2 (80 * j + i) = ce' (80 * j + i)) (hk : (v1 = -1 ∧ v3 = -1) ∨ ∃ N : Nat, N ≤ 80 ∧ v2 = nI N ∧ v3 = nI N ∧ v4 = v1 ∧ (v1 = 0 ∨ v1 = 1 ∨ v1 = 2) ∧ ∀ i : Nat, i < N → ce2 (80 * k + i) = ce1 (80 * k + i)) : sw_RS (upd la k v1) (upd si k v2) ce1 (upd sz' k v3) (upd la' k v4) ce2 := by
  intro j hj
  by_cases hjk : j = k
  · subst hjk
    rw [sw_ue, sw_ue, sw_ue, sw_ue]
    exact hk
  · rw [sw_un hjk, sw_un hjk, sw_un hjk, sw_un hjk]
    rcases h j hj with q | ⟨N, q1, q2, q3, q4, q5, q6⟩
    · exact Or.inl q
    · refine Or.inr ⟨N, q1, q2, q3, q4, q5, fun i hi => ?_⟩
      obtain ⟨a1, a2⟩ := hce j i hj hjk (by omega)
      rw [a1, a2]
      exact q6 i hi
theorem sw_us {f : Nat → Int32} {k : Nat} : upd f k (f k) = f := by
  funext j
  by_cases h : j = k
  · subst h; rw [sw_ue]
  · rw [sw_un h]
theorem sim_lose (a0 : Int32) : sw_sim (fX9_lose a0) (fX10_lose a0) := by
  intro σ hR
  obtain ⟨hT, hB, hH, hF, hRd, hS, hZ⟩ := id hR
  by_cases h : sw_ok a0 4 = true
  · obtain ⟨k, hk, rfl⟩ := (sw_okE (by decide)).mp h
    have hcl : (nI k).toNatClampNeg = k := nI_clamp (by omega)
    rcases hS k hk with ⟨q1, q2⟩ | ⟨N, q1, q2, q3, q4, q5, q6⟩
    · refine ⟨0, σ, sw_up σ 59 k (-1), ?_, ?_, ?_⟩
      · simp [fX9_lose, sw_isSheet, sw_bs, h, fX7_drop, sw_isNothing hk, q1]
      · simp [fX10_lose, sw_noSheet, sw_bs, h, hcl, q2, fX10_lose_B23, sw_le]
      · simp only [sw_Rel, sw_up_eq, sw_up_ne, ne_eq, Nat.reduceEqDiff, not_false_eq_true]
        rw [← q2, sw_us]
        exact hR
    · have hl : ¬ σ 2 k = -1 := by rcases q5 with q | q | q <;> rw [q] <;> decide
      refine ⟨1, sw_up (sw_up σ 2 k (-1)) 3 k 0, sw_up (sw_up (sw_up σ 2 k (-1)) 3 k 0) 59 k (-1), ?_, ?_, ?_⟩
      · simp [fX9_lose, sw_isSheet, sw_bs, h, fX7_drop, sw_isNothing hk, hl, hcl, sw_le]
      · simp [fX10_lose, sw_noSheet, sw_bs, h, hcl, sw_up_ne, q3, nI_pos' (show N < 2 ^ 31 by omega), fX10_lose_B23, sw_le]
      · simp only [sw_Rel, sw_up_eq, sw_up_ne, ne_eq, Nat.reduceEqDiff, not_false_eq_true]
        have := sw_RS_set hS (k := k) (-1) 0 (-1) (σ 60 k) (σ 4) (σ 61) (fun _ _ _ _ _ => ⟨rfl, rfl⟩) (Or.inl ⟨rfl, rfl⟩)
        rw [sw_us] at this
        exact ⟨hT, hB, hH, hF, hRd, this, hZ⟩
  · exact sw_ro hR (-1) (by simp [fX9_lose, sw_isSheet, sw_bs, h]) (by simp [fX10_lose, sw_noSheet, sw_bs, h])
/-- the fault of a call -/
theorem sw_fault_rel {σ : sw_St} (hR : sw_Rel σ) (b : Int32) : sw_Rel (sw_up (sw_up σ 0 13 b) 37 0 b) := by
  obtain ⟨hT, hB, hH, hF, hRd, hS, ⟨hZ1, hZ2⟩⟩ := hR
  simp only [sw_Rel, sw_up_eq, sw_ue, sw_un, sw_up_ne, ne_eq, Nat.reduceEqDiff, not_false_eq_true]
  exact ⟨hT, hB, hH, hF, hRd, hS, ⟨rfl, hZ2⟩⟩
theorem sw_lane {x : Int32} (h : 0 ≤ x ∧ x ≤ 2) : x = 0 ∨ x = 1 ∨ x = 2 := by
  obtain ⟨j, hj, rfl⟩ := nI_of2 (x := x) (M := 2) (n := 2) rfl (Int32.not_lt.mpr h.1) h.2
  rcases (show j = 0 ∨ j = 1 ∨ j = 2 by omega) with rfl | rfl | rfl
  · exact Or.inl rfl
  · exact Or.inr (Or.inl rfl)
  · exact Or.inr (Or.inr rfl)
/-- a new row is all zeros: the class's loop, the reference's -/
theorem sw_renewL {k N : Nat} (hk : k < 4) (hN : N ≤ 80) : ∀ (n i : Nat) (σ : sw_St), i ≤ N → N - i < n → ∃ f : Nat → Int32, fX7_renew_L42 n (nI k) (nI N) (nI i) σ = some ((), sw_ar σ 4 f) ∧ (∀ j : Nat, 80 * k + i ≤ j → j < 80 * k + N → f j = 0) ∧ ∀ j : Nat, (j < 80 * k + i ∨ 80 * k + N ≤ j) → f j = σ 4 j := by
  intro n
  induction n with
  | zero => intro i σ _ h; omega
  | succ n ih =>
    intro i σ hi hn
    unfold fX7_renew_L42
    by_cases h : i = N
    · subst h
      refine ⟨σ 4, ?_, fun j h1 h2 => by omega, fun j _ => rfl⟩
      rw [if_pos (nI_le (Nat.le_refl _) (by omega))]
      congr 2
      funext c
      by_cases hc : c = 4
      · subst hc; rw [sw_ar_eq]
      · rw [sw_ar_ne hc]
    · rw [if_neg (nI_ge (show i < N by omega) (by omega)), sw_ix80, if_pos (sw_ok_nI (show 80 * k + i < 320 by omega) (by decide)), sw_le, nI_clamp (show 80 * k + i < 2 ^ 31 by omega), nI_1]
      obtain ⟨f, e1, e2, e3⟩ := ih (i + 1) (sw_up σ 4 (80 * k + i) 0) (by omega) (by omega)
      refine ⟨f, ?_, fun j h1 h2 => ?_, fun j h1 => ?_⟩
      · rw [e1]
        congr 2
        funext c
        by_cases hc : c = 4
        · subst hc; rw [sw_ar_eq, sw_ar_eq]
        · rw [sw_ar_ne hc, sw_ar_ne hc, sw_up_ne hc]
      · by_cases hj : j = 80 * k + i
        · rw [e3 j (by omega), sw_up_eq, hj, sw_ue]
        · exact e2 j (by omega) h2
      · rw [e3 j (by omega), sw_up_eq, sw_un (by omega)]
theorem sw_mrenewL {k N : Nat} (hk : k < 4) (hN : N ≤ 80) : ∀ (n i : Nat) (σ : sw_St), i ≤ N → N - i < n → ∃ f : Nat → Int32, fX10_sheet_L65 n (nI k) (nI N) (nI i) σ = some (1, sw_up (sw_ar σ 61 f) 37 0 0) ∧ (∀ j : Nat, 80 * k + i ≤ j → j < 80 * k + N → f j = 0) ∧ ∀ j : Nat, (j < 80 * k + i ∨ 80 * k + N ≤ j) → f j = σ 61 j := by
  intro n
  induction n with
  | zero => intro i σ _ h; omega
  | succ n ih =>
    intro i σ hi hn
    unfold fX10_sheet_L65
    by_cases h : i = N
    · subst h
      refine ⟨σ 61, ?_, fun j h1 h2 => by omega, fun j _ => rfl⟩
      rw [if_pos (nI_le (Nat.le_refl _) (by omega))]
      simp only [fX10_refused, sw_le, sw_bs]
      congr 3
      funext c
      by_cases hc : c = 61
      · subst hc; rw [sw_ar_eq]
      · rw [sw_ar_ne hc]
    · rw [if_neg (nI_ge (show i < N by omega) (by omega)), sw_ix08, if_pos (sw_ok_nI (show 80 * k + i < 320 by omega) (by decide)), sw_le, nI_clamp (show 80 * k + i < 2 ^ 31 by omega), nI_1]
      obtain ⟨f, e1, e2, e3⟩ := ih (i + 1) (sw_up σ 61 (80 * k + i) 0) (by omega) (by omega)
      refine ⟨f, ?_, fun j h1 h2 => ?_, fun j h1 => ?_⟩
      · rw [e1]
        congr 3
        funext c
        by_cases hc : c = 61
        · subst hc; rw [sw_ar_eq, sw_ar_eq]
        · rw [sw_ar_ne hc, sw_ar_ne hc, sw_up_ne hc]
      · by_cases hj : j = 80 * k + i
        · rw [e3 j (by omega), sw_up_eq, hj, sw_ue]
        · exact e2 j (by omega) h2
      · rw [e3 j (by omega), sw_up_eq, sw_un (by omega)]
theorem sw_fuel_big : 100000 < sw_fuel := by decide
theorem sim_sheet (a0 a1 a2 : Int32) : sw_sim (fX9_sheet a0 a1 a2) (fX10_sheet a0 a1 a2) := by
  intro σ hR
  have i02 : ∀ (x : Int32) (τ : sw_St), fX10_in x.toInt64 0 2 τ = some (if 0 ≤ x ∧ x ≤ 2 then 1 else 0, τ) := fun x τ => sw_in32 (l := 0) (h := 2) rfl rfl τ
  by_cases h : sw_ok a0 4 = true
  · by_cases c1 : 0 ≤ a1 ∧ a1 ≤ 2
    · by_cases c2 : a2 ≤ 80
      · by_cases c3 : 0 ≤ a2
        · obtain ⟨hT, hB, hH, hF, hRd, hS, ⟨hZ1, hZ2⟩⟩ := id hR
          obtain ⟨k, hk, rfl⟩ := (sw_okE (by decide)).mp h
          obtain ⟨N, hN, rfl⟩ := nI_of2 (x := a2) (M := 80) (n := 80) rfl (Int32.not_lt.mpr c3) c2
          have hcl : (nI k).toNatClampNeg = k := nI_clamp (by omega)
          have hb := sw_fuel_big
          obtain ⟨f, e1, e2, e3⟩ := sw_renewL hk hN sw_fuel 0 (sw_up (sw_up (sw_up σ 0 13 0) 2 k a1) 3 k (nI N)) (Nat.zero_le _) (by omega)
          obtain ⟨g, g1, g2, g3⟩ := sw_mrenewL hk hN sw_fuel 0 (sw_up (sw_up (sw_ar (sw_up (sw_up (sw_up σ 0 13 0) 2 k a1) 3 k (nI N)) 4 f) 59 k (nI N)) 60 k a1) (Nat.zero_le _) (by omega)
          rw [show nI 0 = 0 from rfl] at e1 g1
          refine ⟨1, sw_ar (sw_up (sw_up (sw_up σ 0 13 0) 2 k a1) 3 k (nI N)) 4 f, sw_up (sw_ar (sw_up (sw_up (sw_ar (sw_up (sw_up (sw_up σ 0 13 0) 2 k a1) 3 k (nI N)) 4 f) 59 k (nI N)) 60 k a1) 61 g) 37 0 0, ?_, ?_, ?_⟩
          · simp [fX9_sheet, sw_le, sw_isSheet, sw_bs, h, sw_isLane, c1, c2, c3, fX7_renew, Int32.not_lt.mpr c3, hcl, e1]
          · simp [fX10_sheet, sw_le, sw_noSheet, sw_bs, h, i02, c1, c2, c3, hcl, g1]
          · simp only [sw_Rel, sw_up_eq, sw_ar_eq, sw_ar_ne, sw_ue, sw_un, sw_up_ne, ne_eq, Nat.reduceEqDiff, not_false_eq_true]
            simp only [sw_up_eq, sw_ar_eq, sw_ar_ne, sw_up_ne, ne_eq, Nat.reduceEqDiff, not_false_eq_true] at e3 g3
            refine ⟨hT, hB, hH, hF, hRd, sw_RS_set hS a1 (nI N) (nI N) a1 f g (fun j i hj hjk hi => ⟨e3 _ (by omega), g3 _ (by omega)⟩) (Or.inr ⟨N, hN, rfl, rfl, rfl, sw_lane c1, fun i hi => ?_⟩), ⟨rfl, hZ2⟩⟩
            rw [e2 _ (by omega) (by omega), g2 _ (by omega) (by omega)]
        · refine ⟨-14, sw_up σ 0 13 4, sw_up (sw_up σ 0 13 4) 37 0 4, ?_, ?_, sw_fault_rel hR 4⟩
          · simp [fX9_sheet, sw_le, sw_isSheet, sw_bs, h, sw_isLane, c1, c2, c3, fX9_answerOfFault, sw_up_up]
          · simp [fX10_sheet, sw_le, sw_noSheet, sw_bs, h, i02, c1, c2, c3, fX10_failed]
      · refine ⟨-2, sw_up σ 0 13 0, sw_up (sw_up σ 0 13 0) 37 0 0, ?_, ?_, sw_fault_rel hR 0⟩
        · simp [fX9_sheet, sw_le, sw_isSheet, sw_bs, h, sw_isLane, c1, c2]
        · simp [fX10_sheet, sw_le, sw_noSheet, sw_bs, h, i02, c1, c2, fX10_sheet_B31, fX10_refused]
    · refine ⟨-2, sw_up σ 0 13 0, sw_up (sw_up σ 0 13 0) 37 0 0, ?_, ?_, sw_fault_rel hR 0⟩
      · simp [fX9_sheet, sw_le, sw_isSheet, sw_bs, h, sw_isLane, c1]
      · simp [fX10_sheet, sw_le, sw_noSheet, sw_bs, h, i02, c1, fX10_sheet_B31, fX10_refused]
  · refine ⟨-1, sw_up σ 0 13 0, sw_up (sw_up σ 0 13 0) 37 0 0, ?_, ?_, sw_fault_rel hR 0⟩
    · simp [fX9_sheet, sw_le, sw_isSheet, sw_bs, h]
    · simp [fX10_sheet, sw_le, sw_noSheet, sw_bs, h, fX10_refused]
