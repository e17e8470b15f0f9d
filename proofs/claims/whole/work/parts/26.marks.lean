/-- is the mark of tooth k left already by one of the first n -/
def sw_mA (S : sw_Sw) (k : Nat) : Nat → Bool
  | 0 => false
  | n + 1 => sw_mA S k n || (!decide (sw_t1 (S n) ≤ 0) && decide (sw_l1 (S n) = sw_l1 (S k)))
def sw_mC (S : sw_Sw) : Nat → Int32
  | 0 => 0
  | n + 1 => if sw_t1 (S n) ≤ 0 then sw_mC S n else if sw_mA S n n = true then sw_mC S n else sw_mC S n + 1
theorem sw_mA_congr {S S' : sw_Sw} {N k : Nat} (h : ∀ j : Nat, j < N → S j = S' j) (hk : k < N) : ∀ n : Nat, n ≤ N → sw_mA S k n = sw_mA S' k n := by
  intro n
  induction n with
  | zero => intro _; rfl
  | succ n ih =>
    intro hn
    rw [sw_mA, sw_mA, ih (by omega), h n (by omega), h k hk]
theorem sw_mC_congr {S S' : sw_Sw} {N : Nat} (h : ∀ j : Nat, j < N → S j = S' j) : ∀ n : Nat, n ≤ N → sw_mC S n = sw_mC S' n := by
  intro n
  induction n with
  | zero => intro _; rfl
  | succ n ih =>
    intro hn
    rw [sw_mC, sw_mC, ih (by omega), h n (by omega), sw_mA_congr h (by omega) n (by omega)]
theorem sw_mA_mono {S : sw_Sw} {k n : Nat} (h : sw_mA S k n = true) : ∀ m : Nat, n ≤ m → sw_mA S k m = true := by
  intro m
  induction m with
  | zero => intro hm; rw [show n = 0 by omega] at h; exact h
  | succ m ih =>
    intro hm
    by_cases e : n = m + 1
    · rw [← e]; exact h
    · rw [sw_mA, ih (by omega)]; rfl
theorem sw_aheadL {c k : Nat} {σ : sw_St} (hk : k < 8) : ∀ (n j : Nat), j ≤ k → k - j < n → sw_mA (sw_X6 σ c) k j = false → fX6_isMarkedAhead_L2 c n (nI k) (nI j) σ = some (if sw_mA (sw_X6 σ c) k k = true then 1 else 0, σ) := by
  intro n
  induction n with
  | zero => intro j _ h; omega
  | succ n ih =>
    intro j hj hn hA
    unfold fX6_isMarkedAhead_L2
    by_cases h : j = k
    · subst h
      rw [if_pos (nI_le (Nat.le_refl _) (by omega)), hA]
      rfl
    · have ih' := ih (j + 1) (by omega) (by omega)
      rw [if_neg (nI_ge (show j < k by omega) (by omega)), sw_takesX (by omega), sw_bs]
      by_cases ht : sw_t1 (sw_X6 σ c j) ≤ 0
      · rw [if_pos ht, fX6_isMarkedAhead_B30, nI_1]
        exact ih' (by rw [sw_mA, hA]; simp [ht])
      · rw [if_neg ht, sw_leanX (by omega), sw_bs, sw_leanX (by omega), sw_bs]
        by_cases hl : sw_l1 (sw_X6 σ c j) = sw_l1 (sw_X6 σ c k)
        · have : sw_mA (sw_X6 σ c) k (j + 1) = true := by rw [sw_mA]; simp [ht, hl]
          rw [if_pos hl, sw_mA_mono this k (by omega), if_pos rfl]
        · rw [if_neg hl, fX6_isMarkedAhead_B30, nI_1]
          exact ih' (by rw [sw_mA, hA]; simp [hl])
theorem sw_ahead {c k : Nat} {σ : sw_St} (hk : k < 8) : fX6_isMarkedAhead c (nI k) σ = some (if sw_mA (sw_X6 σ c) k k = true then 1 else 0, σ) := by
  have := sw_fuel_big
  exact sw_aheadL hk sw_fuel 0 (Nat.zero_le _) (by omega) rfl
theorem sw_countL {c N : Nat} {σ : sw_St} (hN : N ≤ 8) (hc : σ c 0 = nI N) : ∀ (n k : Nat), k ≤ N → N - k < n → fX6_countMarks_L4 c n (sw_mC (sw_X6 σ c) k) (nI k) σ = some (sw_mC (sw_X6 σ c) N, σ) := by
  intro n
  induction n with
  | zero => intro k _ h; omega
  | succ n ih =>
    intro k hk hn
    unfold fX6_countMarks_L4
    by_cases h : k = N
    · subst h
      rw [hc, if_pos (nI_le (Nat.le_refl _) (by omega))]
    · have ih' := ih (k + 1) (by omega) (by omega)
      rw [hc, if_neg (nI_ge (show k < N by omega) (by omega)), sw_takesX (by omega), sw_bs]
      rw [sw_mC] at ih'
      by_cases ht : sw_t1 (sw_X6 σ c k) ≤ 0
      · rw [if_pos ht] at ih'
        rw [if_pos ht, fX6_countMarks_B31, nI_1]
        exact ih'
      · rw [if_neg ht] at ih'
        rw [if_neg ht, sw_ahead (by omega), sw_bs]
        by_cases hA : sw_mA (sw_X6 σ c) k k = true
        · rw [if_pos hA] at ih'
          rw [if_pos hA, if_neg (by decide), fX6_countMarks_B31, nI_1]
          exact ih'
        · rw [if_neg hA] at ih'
          rw [if_neg hA, if_pos rfl, fX6_countMarks_B31, nI_1]
          exact ih'
theorem sw_markOf {k : Nat} {p : Int32} {σ : sw_St} (hk : k < 8) : fX10_markOf (nI k) p σ = some (p + sw_l1 (sw_M6 σ k), σ) := by
  rw [fX10_markOf, if_pos (sw_ok_nI hk (by decide)), if_pos (sw_ok_nI hk (by decide)), nI_clamp (by omega)]
  rfl
/-- the reference's inner loop -/
theorem sw_marksIn {k : Nat} {σ : sw_St} (hk : k < 8) {v : Int32} {K : Int32 → Int32 → sw_St → Option (Int32 × sw_St)} : ∀ (n j : Nat) (b : Bool), j ≤ k → k - j < n → fX10_marks_L51 K n v (nI k) (if (b && !sw_mA (sw_M6 σ) k j) = true then 1 else 0) (nI j) σ = K (v + (if (b && !sw_mA (sw_M6 σ) k k) = true then 1 else 0)) (nI (k + 1)) σ := by
  intro n
  induction n with
  | zero => intro j b _ h; omega
  | succ n ih =>
    intro j b hj hn
    unfold fX10_marks_L51
    by_cases h : j = k
    · subst h
      rw [if_pos (nI_le (Nat.le_refl _) (by omega))]
      by_cases hc : (b && !sw_mA (sw_M6 σ) j j) = true
      · rw [if_pos hc, if_neg (by decide), fX10_marks_B111, sw_le, nI_1]
      · rw [if_neg hc, if_pos rfl, fX10_marks_B111, sw_le, nI_1]
    · have ih' := ih (j + 1) b (by omega) (by omega)
      rw [sw_mA] at ih'
      rw [if_neg (nI_ge (show j < k by omega) (by omega))]
      by_cases hc : (b && !sw_mA (sw_M6 σ) k j) = true
      · simp only [Bool.and_eq_true, Bool.not_eq_true'] at hc
        have e1 : (if (b && !sw_mA (sw_M6 σ) k j) = true then (1 : Int32) else 0) = 1 := by rw [hc.1, hc.2]; rfl
        rw [e1, if_neg (by decide), sw_takesM (by omega), sw_bs]
        rw [hc.2] at ih'
        by_cases ht : sw_t1 (sw_M6 σ j) ≤ 0
        · have e2 : (if (b && !(false || (!decide (sw_t1 (sw_M6 σ j) ≤ 0) && decide (sw_l1 (sw_M6 σ j) = sw_l1 (sw_M6 σ k))))) = true then (1 : Int32) else 0) = 1 := by rw [hc.1]; simp [ht]
          rw [e2] at ih'
          rw [if_pos ht, fX10_marks_B87, fX10_marks_B92, nI_1]
          exact ih'
        · rw [if_neg ht, sw_markOf (by omega), sw_bs, sw_markOf (by omega), sw_bs, Int32.zero_add, Int32.zero_add]
          by_cases hl : sw_l1 (sw_M6 σ j) = sw_l1 (sw_M6 σ k)
          · have e2 : (if (b && !(false || (!decide (sw_t1 (sw_M6 σ j) ≤ 0) && decide (sw_l1 (sw_M6 σ j) = sw_l1 (sw_M6 σ k))))) = true then (1 : Int32) else 0) = 0 := by rw [hc.1]; simp [ht, hl]
            rw [e2] at ih'
            rw [if_pos hl, fX10_marks_B91, fX10_marks_B92, nI_1]
            exact ih'
          · have e2 : (if (b && !(false || (!decide (sw_t1 (sw_M6 σ j) ≤ 0) && decide (sw_l1 (sw_M6 σ j) = sw_l1 (sw_M6 σ k))))) = true then (1 : Int32) else 0) = 1 := by rw [hc.1]; simp [hl]
            rw [e2] at ih'
            rw [if_neg hl, fX10_marks_B87, fX10_marks_B92, nI_1]
            exact ih'
      · rw [if_neg hc, if_pos rfl, fX10_marks_B91, fX10_marks_B92, nI_1]
        have e2 : (if (b && !(sw_mA (sw_M6 σ) k j || (!decide (sw_t1 (sw_M6 σ j) ≤ 0) && decide (sw_l1 (sw_M6 σ j) = sw_l1 (sw_M6 σ k))))) = true then (1 : Int32) else 0) = 0 := by
          rw [if_neg]
          intro q
          apply hc
          simp only [Bool.and_eq_true, Bool.not_eq_true', Bool.or_eq_false_iff] at q ⊢
          exact ⟨q.1, q.2.1⟩
        rw [e2] at ih'
        exact ih'
theorem sw_mmarksL {N : Nat} {σ : sw_St} (hN : N ≤ 8) (hc : σ 37 1 = nI N) : ∀ (n k : Nat), k ≤ N → N - k < n → fX10_marks_L25 n (sw_mC (sw_M6 σ) k) (nI k) σ = some (sw_mC (sw_M6 σ) N, σ) := by
  intro n
  induction n with
  | zero => intro k _ h; omega
  | succ n ih =>
    intro k hk hn
    have hb := sw_fuel_big
    unfold fX10_marks_L25
    by_cases h : k = N
    · subst h
      rw [hc, if_pos (nI_le (Nat.le_refl _) (by omega))]
    · have ih' := ih (k + 1) (by omega) (by omega)
      rw [hc, if_neg (nI_ge (show k < N by omega) (by omega)), sw_takesM (by omega), sw_bs]
      rw [sw_mC] at ih'
      by_cases ht : sw_t1 (sw_M6 σ k) ≤ 0
      · rw [if_pos ht] at ih'
        have e := sw_marksIn (σ := σ) (show k < 8 by omega) (v := sw_mC (sw_M6 σ) k) (K := fX10_marks_L25 n) sw_fuel 0 false (Nat.zero_le _) (by omega)
        rw [if_pos ht, fX10_marks_B46]
        simp only [Bool.false_and, Bool.false_eq_true, if_false, Int32.add_zero, show nI 0 = 0 from rfl] at e
        rw [e]
        exact ih'
      · rw [if_neg ht] at ih'
        have e := sw_marksIn (σ := σ) (show k < 8 by omega) (v := sw_mC (sw_M6 σ) k) (K := fX10_marks_L25 n) sw_fuel 0 true (Nat.zero_le _) (by omega)
        rw [if_neg ht, fX10_marks_B46]
        simp only [sw_mA, Bool.true_and, Bool.not_false, if_true, show nI 0 = 0 from rfl] at e
        rw [e]
        by_cases hA : sw_mA (sw_M6 σ) k k = true
        · rw [if_pos hA] at ih'
          rw [hA]
          simp only [Bool.not_true, Bool.false_eq_true, if_false, Int32.add_zero]
          exact ih'
        · rw [if_neg hA] at ih'
          rw [Bool.not_eq_true] at hA
          rw [hA]
          simp only [Bool.not_false, if_true]
          exact ih'
def sw_wh (S : sw_Sw) (pl p : Int32) : Nat → Int32
  | 0 => 0
  | n + 1 => if sw_t1 (S n) ≤ 0 then sw_wh S pl p n else if pl + sw_l1 (S n) = p then sw_wh S pl p n ||| (1 <<< (nI n &&& 31)) else sw_wh S pl p n
theorem sw_wh_congr {S S' : sw_Sw} {pl p : Int32} : ∀ {N : Nat}, (∀ j : Nat, j < N → S j = S' j) → sw_wh S pl p N = sw_wh S' pl p N := by
  intro N
  induction N with
  | zero => intro _; rfl
  | succ n ih =>
    intro h
    rw [sw_wh, sw_wh, ih (fun j hj => h j (by omega)), h n (by omega)]
theorem sw_xwhichL {c N : Nat} {pl p : Int32} {σ : sw_St} (hN : N ≤ 8) (hc : σ c 0 = nI N) : ∀ (n k : Nat), k ≤ N → N - k < n → fX6_whichLeave_L5 c n pl p (sw_wh (sw_X6 σ c) pl p k) (nI k) σ = some (sw_wh (sw_X6 σ c) pl p N, σ) := by
  intro n
  induction n with
  | zero => intro k _ h; omega
  | succ n ih =>
    intro k hk hn
    unfold fX6_whichLeave_L5
    by_cases h : k = N
    · subst h
      rw [hc, if_pos (nI_le (Nat.le_refl _) (by omega))]
    · have ih' := ih (k + 1) (by omega) (by omega)
      rw [hc, if_neg (nI_ge (show k < N by omega) (by omega)), sw_takesX (by omega), sw_bs]
      rw [sw_wh] at ih'
      by_cases ht : sw_t1 (sw_X6 σ c k) ≤ 0
      · rw [if_pos ht] at ih'
        rw [if_pos ht, fX6_whichLeave_B42, nI_1]
        exact ih'
      · rw [if_neg ht] at ih'
        rw [if_neg ht, sw_leanX (by omega), sw_bs]
        by_cases hp : pl + sw_l1 (sw_X6 σ c k) = p
        · rw [if_pos hp] at ih'
          rw [if_pos hp, sw_le, fX6_whichLeave_B42, nI_1]
          exact ih'
        · rw [if_neg hp] at ih'
          rw [if_neg hp, fX6_whichLeave_B42, nI_1]
          exact ih'
theorem sw_mwhichL {N t : Nat} {p : Int32} {σ : sw_St} (hN : N ≤ 8) (hc : σ 37 1 = nI N) (ht' : t < 24) : ∀ (n k : Nat), k ≤ N → N - k < n → fX10_which_L26 n (nI t) p (sw_wh (sw_M6 σ) (σ 49 t) p k) (nI k) σ = some (sw_wh (sw_M6 σ) (σ 49 t) p N, σ) := by
  intro n
  induction n with
  | zero => intro k _ h; omega
  | succ n ih =>
    intro k hk hn
    unfold fX10_which_L26
    by_cases h : k = N
    · subst h
      rw [hc, if_pos (nI_le (Nat.le_refl _) (by omega))]
    · have ih' := ih (k + 1) (by omega) (by omega)
      rw [hc, if_neg (nI_ge (show k < N by omega) (by omega)), sw_takesM (by omega), sw_bs]
      rw [sw_wh] at ih'
      by_cases ht : sw_t1 (sw_M6 σ k) ≤ 0
      · rw [if_pos ht] at ih'
        rw [if_pos ht, fX10_which_B68, fX10_which_B69, sw_le, nI_1, Int32.or_zero]
        exact ih'
      · rw [if_neg ht] at ih'
        rw [if_neg ht, if_pos (sw_ok_nI ht' (by decide)), nI_clamp (show t < 2 ^ 31 by omega), sw_markOf (by omega), sw_bs]
        by_cases hp : σ 49 t + sw_l1 (sw_M6 σ k) = p
        · rw [if_pos hp] at ih'
          rw [if_pos hp, fX10_which_B69, sw_le, nI_1]
          exact ih'
        · rw [if_neg hp] at ih'
          rw [if_neg hp, fX10_which_B68, fX10_which_B69, sw_le, nI_1, Int32.or_zero]
          exact ih'
theorem sw_X6_x {σ τ : sw_St} (h : sw_Fr σ τ) : sw_X6 τ 5 = sw_X6 σ 5 := by
  funext k
  show (τ 6 k, τ 7 k, τ 8 (3 * k), τ 8 (3 * k + 1), τ 8 (3 * k + 2)) = (σ 6 k, σ 7 k, σ 8 (3 * k), σ 8 (3 * k + 1), σ 8 (3 * k + 2))
  rw [h 6 (by decide) (by decide) (by decide), h 7 (by decide) (by decide) (by decide), h 8 (by decide) (by decide) (by decide)]
theorem sim_marks (a0 : Int32) : sw_sim (fX9_marks a0) (fX10_marks a0) := by
  intro σ hR
  obtain ⟨N, L, la, hN, hn, hL, hl, hla, ha⟩ := sw_rel_n hR
  have m12 := (sw_rel_m12 hR).2
  have hb := sw_fuel_big
  by_cases h : sw_ok a0 L = true
  · obtain ⟨t, ht, rfl⟩ := (sw_okE (by omega)).mp h
    obtain ⟨τ, e1, hF, h3⟩ := sw_xst hR hN hn hL hl hla ha ht
    obtain ⟨τ', g1, hG, j0, j2, j3⟩ := sw_mst hF hR hN hn hL hl hla ha ht
    have nl : fX10_noLine (nI t) τ = some (0, τ) := by rw [sw_noLine hL (by rw [hF 37 (by decide) (by decide) (by decide), m12]; exact hl), if_pos h]
    have hR1 := sw_Rel_x hF hR
    have hR2 := sw_Rel_m hG hR1
    have n1 : τ 5 0 = nI N := by rw [hF 5 (by decide) (by decide) (by decide)]; exact hn
    have n2 : τ' 5 0 = nI N := by rw [hG.1 5 (by decide) (by decide) (by decide)]; exact n1
    obtain ⟨k1, -, k3⟩ := sw_rel_saw hR2 n2 hN
    have e5 : sw_X6 τ' 5 = sw_X6 τ 5 := by
      funext k
      show (τ' 6 k, τ' 7 k, τ' 8 (3 * k), τ' 8 (3 * k + 1), τ' 8 (3 * k + 2)) = (τ 6 k, τ 7 k, τ 8 (3 * k), τ 8 (3 * k + 1), τ 8 (3 * k + 2))
      rw [hG.1 6 (by decide) (by decide) (by decide), hG.1 7 (by decide) (by decide) (by decide), hG.1 8 (by decide) (by decide) (by decide)]
    rw [e5] at k3
    by_cases c : t < sw_S1 σ N L
    · refine ⟨sw_mC (sw_X6 τ 5) N, τ, τ', ?_, ?_, hR2⟩
      · have := sw_countL hN n1 sw_fuel 0 (Nat.zero_le _) (by omega)
        rw [fX9_marks, e1, if_pos c, sw_bs, if_pos rfl, fX6_countMarks]
        rw [show (0 : Int32) = nI 0 from rfl, show nI 0 = sw_mC (sw_X6 τ 5) 0 from rfl]
        rw [show sw_mC (sw_X6 τ 5) 0 = nI 0 from rfl] at this ⊢
        rw [this, sw_bs]
      · have := sw_mmarksL hN k1 sw_fuel 0 (Nat.zero_le _) (by omega)
        rw [fX10_marks, nl, sw_bs, if_pos rfl, g1, if_pos c, sw_bs, if_pos rfl]
        rw [← sw_mC_congr k3 N (Nat.le_refl _)]
        exact this
    · refine ⟨-3, τ, τ', ?_, ?_, hR2⟩
      · rw [fX9_marks, e1, if_neg c, sw_bs, if_neg (by decide)]
      · rw [fX10_marks, nl, sw_bs, if_pos rfl, g1, if_neg c, sw_bs, if_neg (by decide)]
  · exact sw_ro hR (-1) (by rw [fX9_marks, fX9_refusalOfStroke, sw_has0 hL hl, if_neg h, sw_bs, if_pos rfl, sw_bs, if_neg (by decide)]) (by rw [fX10_marks, sw_noLine hL (by rw [m12]; exact hl), if_neg h, sw_bs, if_neg (by decide)])
theorem sim_which (a0 a1 : Int32) : sw_sim (fX9_which a0 a1) (fX10_which a0 a1) := by
  intro σ hR
  obtain ⟨N, L, la, hN, hn, hL, hl, hla, ha⟩ := sw_rel_n hR
  have m12 := (sw_rel_m12 hR).2
  have hb := sw_fuel_big
  by_cases h : sw_ok a0 L = true
  · obtain ⟨t, ht, rfl⟩ := (sw_okE (by omega)).mp h
    obtain ⟨τ, e1, hF, h3⟩ := sw_xst hR hN hn hL hl hla ha ht
    obtain ⟨τ', g1, hG, j0, j2, j3⟩ := sw_mst hF hR hN hn hL hl hla ha ht
    have nl : fX10_noLine (nI t) τ = some (0, τ) := by rw [sw_noLine hL (by rw [hF 37 (by decide) (by decide) (by decide), m12]; exact hl), if_pos h]
    have hR1 := sw_Rel_x hF hR
    have hR2 := sw_Rel_m hG hR1
    have n1 : τ 5 0 = nI N := by rw [hF 5 (by decide) (by decide) (by decide)]; exact hn
    have n2 : τ' 5 0 = nI N := by rw [hG.1 5 (by decide) (by decide) (by decide)]; exact n1
    obtain ⟨k1, -, k3⟩ := sw_rel_saw hR2 n2 hN
    have e5 : sw_X6 τ' 5 = sw_X6 τ 5 := by
      funext k
      show (τ' 6 k, τ' 7 k, τ' 8 (3 * k), τ' 8 (3 * k + 1), τ' 8 (3 * k + 2)) = (τ 6 k, τ 7 k, τ 8 (3 * k), τ 8 (3 * k + 1), τ 8 (3 * k + 2))
      rw [hG.1 6 (by decide) (by decide) (by decide), hG.1 7 (by decide) (by decide) (by decide), hG.1 8 (by decide) (by decide) (by decide)]
    rw [e5] at k3
    by_cases c : t < sw_S1 σ N L
    · refine ⟨sw_wh (sw_X6 τ 5) ((sw_Zn σ N la (sw_S1 σ N L)).1 t) a1 N, τ, τ', ?_, ?_, hR2⟩
      · have := sw_xwhichL (pl := (sw_Zn σ N la (sw_S1 σ N L)).1 t) (p := a1) hN n1 sw_fuel 0 (Nat.zero_le _) (by omega)
        rw [fX9_which, e1, if_pos c, sw_bs, if_pos rfl, (h3 c).1, sw_bs, fX6_whichLeave]
        rw [show fX6_whichLeave_L5 5 sw_fuel ((sw_Zn σ N la (sw_S1 σ N L)).1 t) a1 0 0 τ = _ from this, sw_bs]
      · have := sw_mwhichL (t := t) (p := a1) hN k1 (by omega) sw_fuel 0 (Nat.zero_le _) (by omega)
        rw [fX10_which, nl, sw_bs, if_pos rfl, g1, if_pos c, sw_bs, if_pos rfl]
        rw [show fX10_which_L26 sw_fuel (nI t) a1 0 0 τ' = _ from this, (j3 t c).1, sw_wh_congr k3]
    · refine ⟨-3, τ, τ', ?_, ?_, hR2⟩
      · rw [fX9_which, e1, if_neg c, sw_bs, if_neg (by decide)]
      · rw [fX10_which, nl, sw_bs, if_pos rfl, g1, if_neg c, sw_bs, if_neg (by decide)]
  · exact sw_ro hR (-1) (by rw [fX9_which, fX9_refusalOfStroke, sw_has0 hL hl, if_neg h, sw_bs, if_pos rfl, sw_bs, if_neg (by decide)]) (by rw [fX10_which, sw_noLine hL (by rw [m12]; exact hl), if_neg h, sw_bs, if_neg (by decide)])
