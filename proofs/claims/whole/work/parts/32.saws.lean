/-! A saw by a text: both readers side by side. -/
def sw_cx (k N i n b : Nat) (cd : Nat → Int32) (σ ρ0 : sw_St) : Prop := k < 4 ∧ N ≤ 80 ∧ (¬ σ 2 k = -1) ∧ σ 3 k = nI N ∧ i + n ≤ N ∧ (∀ p : Nat, p < n → σ 4 (80 * k + i + p) = cd p) ∧ b + n ≤ 320 ∧ ∀ p : Nat, p < n → ρ0 61 (b + p) = cd p
def sw_FrA (σ τ : sw_St) : Prop := ∀ c : Nat, c ≠ 9 → c ≠ 10 → c ≠ 11 → c ≠ 12 → τ c = σ c
def sw_FrS (σ τ : sw_St) : Prop := (∀ c : Nat, c ≠ 37 → c ≠ 43 → c ≠ 44 → c ≠ 45 → τ c = σ c) ∧ ∀ k : Nat, k ≠ 7 → k ≠ 8 → τ 37 k = σ 37 k
def sw_tt1 (τ ρ : sw_St) (j : Nat) : Prop := ρ 43 j = τ 10 j ∧ ρ 44 j = τ 11 j ∧ ρ 45 (3 * j) = τ 12 (3 * j) ∧ ρ 45 (3 * j + 1) = τ 12 (3 * j + 1) ∧ ρ 45 (3 * j + 2) = τ 12 (3 * j + 2) ∧ sw_tok (τ 10 j) (τ 11 j) (τ 12 (3 * j)) (τ 12 (3 * j + 1)) (τ 12 (3 * j + 2))
def sw_td (τ ρ : sw_St) (Q : Nat) : Prop := ∀ j : Nat, j < Q → sw_tt1 τ ρ j
def sw_jt (σ ρ0 : sw_St) (X Y : Option (Int32 × sw_St)) : Prop := ∃ (r : Int32) (τ' ρ' : sw_St), X = some (r, τ') ∧ Y = some (if r = -1 then 1 else 0, ρ') ∧ sw_FrA σ τ' ∧ sw_FrS ρ0 ρ' ∧ (r = -1 → ∃ Q : Nat, Q ≤ 8 ∧ τ' 9 0 = nI Q ∧ ρ' 37 8 = nI Q ∧ sw_td τ' ρ' Q) ∧ (¬ r = -1 → ρ' 37 7 = r)
theorem sw_jt_fail {σ ρ0 τ ρ : sw_St} {X Y : Option (Int32 × sw_St)} {p : Nat} (hp : p < 2 ^ 31) (hX : X = some (nI p, τ)) (hY : Y = some (0, ρ)) (h1 : sw_FrA σ τ) (h2 : sw_FrS ρ0 ρ) (h3 : ρ 37 7 = nI p) : sw_jt σ ρ0 X Y :=
  ⟨nI p, τ, ρ, hX, by rw [if_neg (sw_ne_m1 hp)]; exact hY, h1, h2, fun q => absurd q (sw_ne_m1 hp), fun _ => h3⟩
theorem sw_pr (q : Nat) : nI (q + 1) - 1 = nI q := by
  rw [← nI_1, Int32.add_sub_cancel]
theorem sw_sst {k N i n b : Nat} {cd : Nat → Int32} {σ ρ0 : sw_St} (hx : sw_cx k N i n b cd σ ρ0) {τ : sw_St} (hF : sw_FrA σ τ) {m p : Nat} {v : Int32} (hp : p < n) : fX6_read_L11 9 (m + 1) (nI k) (nI i) (nI n) v (nI p) τ = sw_bind (fX6_readCode 9 v (cd p) τ) (fun r4 σ5 => (if r4 = (-1) then some (nI p, σ5) else fX6_read_L11 9 m (nI k) (nI i) (nI n) r4 (nI (p + 1)) σ5)) := by
  obtain ⟨hk, hN, h1, h2, hin, hcd, hb, -⟩ := hx
  rw [fX6_read_L11, if_neg (nI_ge hp (by omega)), nI_add, sw_at hk hN (by rw [hF 2 (by decide) (by decide) (by decide) (by decide)]; exact h1) (by rw [hF 3 (by decide) (by decide) (by decide) (by decide)]; exact h2) (show i + p < N by omega), hF 4 (by decide) (by decide) (by decide) (by decide), ← Nat.add_assoc, hcd p hp, sw_bs, nI_1]
theorem sw_send {n : Nat} {k i v : Int32} {τ : sw_St} {m : Nat} (hn : n ≤ 80) : fX6_read_L11 9 (m + 1) k i (nI n) v (nI n) τ = (if v = 4 then some ((-1), τ) else (if v = 5 then some ((-1), τ) else some (nI n, τ))) := by
  rw [fX6_read_L11, if_pos (nI_le (Nat.le_refl _) (by omega))]
def sw_NX (k i n b : Nat) (σ ρ0 : sw_St) (Q m' : Nat) : Prop := ∀ (τ ρ : sw_St) (m P : Nat), sw_FrA σ τ → sw_FrS ρ0 ρ → τ 9 0 = nI Q → ρ 37 8 = nI Q → sw_td τ ρ Q → ρ 37 7 = nI P → P ≤ n → n - P < m → sw_jt σ ρ0 (fX6_read_L11 9 m (nI k) (nI i) (nI n) 0 (nI P) τ) (fX10_readsSaw_B69 (fX10_readsSaw_L10 m') (nI b) (nI n) ρ)
theorem sw_FrS_up7 {ρ0 ρ : sw_St} {v : Int32} (h : sw_FrS ρ0 ρ) : sw_FrS ρ0 (sw_up ρ 37 7 v) := ⟨fun c a1 a2 a3 a4 => by rw [sw_up_ne a1]; exact h.1 c a1 a2 a3 a4, fun k a1 a2 => by rw [sw_up_eq, sw_un a1]; exact h.2 k a1 a2⟩
theorem sw_td_up {τ τ' ρ ρ' : sw_St} {Q : Nat} (h : sw_td τ ρ Q) (h10 : ∀ j : Nat, j < Q → τ' 10 j = τ 10 j) (h11 : ∀ j : Nat, j < Q → τ' 11 j = τ 11 j) (h12 : ∀ j : Nat, j < 3 * Q → τ' 12 j = τ 12 j) (h43 : ∀ j : Nat, j < Q → ρ' 43 j = ρ 43 j) (h44 : ∀ j : Nat, j < Q → ρ' 44 j = ρ 44 j) (h45 : ∀ j : Nat, j < 3 * Q → ρ' 45 j = ρ 45 j) : sw_td τ' ρ' Q := by
  intro j hj
  have := h j hj
  unfold sw_tt1 at this ⊢
  rw [h10 j hj, h11 j hj, h12 _ (by omega), h12 _ (by omega), h12 _ (by omega), h43 j hj, h44 j hj, h45 _ (by omega), h45 _ (by omega), h45 _ (by omega)]
  exact this
theorem sw_stail {k N i n b : Nat} {cd : Nat → Int32} {σ ρ0 : sw_St} (hx : sw_cx k N i n b cd σ ρ0) {Q m' : Nat} (hQ1 : 1 ≤ Q) (hQ8 : Q ≤ 8) (hnx : Q < 8 → sw_NX k i n b σ ρ0 Q m') {τ ρ : sw_St} {m P : Nat} {v : Int32} (hv : v = 4 ∨ v = 5) (hF : sw_FrA σ τ) (hG : sw_FrS ρ0 ρ) (h9 : τ 9 0 = nI Q) (h8 : ρ 37 8 = nI Q) (hd : sw_td τ ρ Q) (h7 : ρ 37 7 = nI P) (hP : P ≤ n) (hm : n - P < m) (hh : P < n → cd P = 104 → v = 4 → ¬ τ 10 (Q - 1) = 1) : sw_jt σ ρ0 (fX6_read_L11 9 m (nI k) (nI i) (nI n) v (nI P) τ) (fX10_readsSaw_L10 (m' + 1) (nI b) (nI n) ρ) := by
  obtain ⟨hk, hN, h1, h2, hin, hcd, hb, hc⟩ := id hx
  obtain ⟨m, rfl⟩ : ∃ m1, m = m1 + 1 := ⟨m - 1, by omega⟩
  by_cases e : P = n
  · subst e
    refine ⟨-1, τ, ρ, ?_, ?_, hF, hG, fun _ => ⟨Q, hQ8, h9, h8, hd⟩, fun q => absurd rfl q⟩
    · rw [sw_send (by omega)]
      rcases hv with rfl | rfl
      · rw [if_pos rfl]
      · rw [if_neg (by decide), if_pos rfl]
    · rw [fX10_readsSaw_L10, h8, if_neg (nI_ne0 (by omega) (by omega)), h7, if_pos (nI_le (Nat.le_refl _) (by omega)), if_pos rfl]
  · have lt : P < n := by omega
    have Y : fX10_readsSaw_L10 (m' + 1) (nI b) (nI n) ρ = (if nI Q = 8 then some (0, ρ) else if cd P = 59 then fX10_readsSaw_B69 (fX10_readsSaw_L10 m') (nI b) (nI n) (sw_up ρ 37 7 (nI (P + 1))) else some (0, ρ)) := by
      rw [fX10_readsSaw_L10, h8, if_neg (nI_ne0 (by omega) (by omega)), h7, if_neg (nI_ge lt (by omega)), fX10_readsSaw_B25, h8, h7, if_neg (nI_nle (by omega) (by omega)), nI_add, if_pos (sw_ok_nI (show b + P < 320 by omega) (by decide)), nI_clamp (by omega), hG.1 61 (by decide) (by decide) (by decide) (by decide), hc P lt, sw_le, nI_1]
    have V : ¬ v = 0 ∧ 3 < v := by rcases hv with rfl | rfl <;> decide
    have V1 : ¬ 3 < (0 : Int32) := by decide
    have X : fX6_readCode 9 v (cd P) τ = (if cd P = 59 then (if 8 ≤ nI Q then some ((-1), τ) else some (0, τ)) else some (-1, τ)) := by
      rw [fX6_readCode, if_neg V.1, if_pos V.2, h9]
      by_cases c1 : cd P = 59
      · rw [if_pos c1, if_pos c1]
      · rw [if_neg c1, if_neg c1]
        by_cases c2 : cd P = 104
        · rw [if_pos c2]
          rcases hv with rfl | rfl
          · obtain ⟨Q', rfl⟩ : ∃ Q', Q = Q' + 1 := ⟨Q - 1, by omega⟩
            have := hh lt c2 rfl
            rw [if_pos rfl, sw_pr, sw_kindOf (N := Q' + 1) hQ8 h9 (by omega), sw_bs, if_neg (show ¬ τ (9 + 1) Q' = 1 from this)]
          · rw [if_neg (by decide)]
        · rw [if_neg c2]
    rw [sw_sst hx hF lt, X, Y]
    by_cases c1 : cd P = 59
    · rw [if_pos c1, if_pos c1]
      by_cases c8 : Q = 8
      · subst c8
        rw [if_pos (show (8 : Int32) ≤ nI 8 by decide), sw_bs, if_pos rfl, if_pos (show nI 8 = 8 from rfl)]
        exact sw_jt_fail (by omega) rfl rfl hF hG h7
      · rw [if_neg (show ¬ (8 : Int32) ≤ nI Q from nI_ge (b := 8) (by omega) (by decide)), sw_bs, if_neg (by decide), if_neg (show ¬ nI Q = 8 from fun z => c8 ((nI_eq (a := Q) (b := 8) (by omega) (by decide)).mp z))]
        refine hnx (by omega) τ _ m (P + 1) hF (sw_FrS_up7 hG) h9 ?_ ?_ ?_ (by omega) (by omega)
        · rw [sw_up_eq, sw_un (by decide)]; exact h8
        · exact sw_td_up hd (fun _ _ => rfl) (fun _ _ => rfl) (fun _ _ => rfl) (fun _ _ => by rw [sw_up_ne (by decide)]) (fun _ _ => by rw [sw_up_ne (by decide)]) (fun _ _ => by rw [sw_up_ne (by decide)])
        · rw [sw_up_eq, sw_ue]
    · rw [if_neg c1, if_neg c1, sw_bs, if_pos rfl]
      refine sw_jt_fail (by omega) rfl ?_ hF hG h7
      split <;> rfl
theorem sw_dgc {c : Int32} (h : (!decide (c < 48) && !decide (57 < c)) = true) : sw_dg (c - 48) := by
  simp only [Bool.and_eq_true, Bool.not_eq_true', decide_eq_false_iff_not, Int32.lt_iff_toInt_lt] at h
  have e1 : (48 : Int32).toInt = 48 := rfl
  have e2 : (57 : Int32).toInt = 57 := rfl
  rw [e1, e2] at h
  refine ⟨(c.toInt - 48).toNat, by omega, ?_⟩
  apply Int32.toInt_inj.mp
  rw [sw_s48, nI_toInt (by omega)]
  split <;> omega
theorem sw_x13 : ∀ x : Nat, x < 3 → ¬ nI (x + 1) = 0 ∧ ¬ 3 < nI (x + 1) ∧ ¬ nI (x + 1) = 4 ∧ ¬ nI (x + 1) = 5 ∧ ¬ (3 : Int32) ≤ nI x ∧ ¬ nI (x + 1) + 1 = -1 := by decide +kernel
theorem sw_sdig {k N i n b : Nat} {cd : Nat → Int32} {σ ρ0 : sw_St} (hx : sw_cx k N i n b cd σ ρ0) {q P0 : Nat} (hq : q < 8) {kd sd : Int32} {G : Int32 → sw_St → Option (Int32 × sw_St)} (hG0 : ∀ ρ : sw_St, G 0 ρ = some (0, ρ))
    (hG1 : ∀ (τ ρ : sw_St) (m : Nat), sw_FrA σ τ → sw_FrS ρ0 ρ → τ 9 0 = nI (q + 1) → ρ 37 8 = nI q → sw_td τ ρ q → τ 10 q = kd → τ 11 q = sd → (∀ x : Nat, x < 3 → ρ 45 (3 * q + x) = τ 12 (3 * q + x) ∧ sw_dg (τ 12 (3 * q + x))) → ρ 37 7 = nI (P0 + 3) → P0 + 3 ≤ n → n - (P0 + 3) < m → sw_jt σ ρ0 (fX6_read_L11 9 m (nI k) (nI i) (nI n) 4 (nI (P0 + 3)) τ) (G 1 ρ)) :
    ∀ (d x : Nat) (τ ρ : sw_St) (m mm : Nat), x + d = 3 → d < mm → sw_FrA σ τ → sw_FrS ρ0 ρ → τ 9 0 = nI (q + 1) → ρ 37 8 = nI q → sw_td τ ρ q → τ 10 q = kd → τ 11 q = sd → (∀ y : Nat, y < x → ρ 45 (3 * q + y) = τ 12 (3 * q + y) ∧ sw_dg (τ 12 (3 * q + y))) → ρ 37 7 = nI (P0 + x) → P0 + x ≤ n → n - (P0 + x) < m → sw_jt σ ρ0 (fX6_read_L11 9 m (nI k) (nI i) (nI n) (nI (x + 1)) (nI (P0 + x)) τ) (sw_bind (fX10_readsFigures_L3 mm (nI b) (nI n) (nI q) (nI x) ρ) G) := by
  obtain ⟨hk, hN, h1, h2, hin, hcd, hb, hc⟩ := id hx
  intro d
  induction d with
  | zero =>
    intro x τ ρ m mm hxd hmm hF hG h9 h8 hd h10 h11 hy h7 hP hm
    obtain rfl : x = 3 := by omega
    obtain ⟨mm, rfl⟩ : ∃ m1, mm = m1 + 1 := ⟨mm - 1, by omega⟩
    rw [fX10_readsFigures_L3, if_pos (show (3 : Int32) ≤ nI 3 by decide), sw_bs]
    exact hG1 τ ρ m hF hG h9 h8 hd h10 h11 hy h7 hP hm
  | succ d ih =>
    intro x τ ρ m mm hxd hmm hF hG h9 h8 hd h10 h11 hy h7 hP hm
    obtain ⟨mm, rfl⟩ : ∃ m1, mm = m1 + 1 := ⟨mm - 1, by omega⟩
    obtain ⟨m, rfl⟩ : ∃ m1, m = m1 + 1 := ⟨m - 1, by omega⟩
    obtain ⟨x1, x2, x3, x4, x5, x6⟩ := sw_x13 x (by omega)
    rw [fX10_readsFigures_L3, if_neg x5, h7]
    by_cases e : P0 + x = n
    · rw [e, sw_send (by omega), if_neg x3, if_neg x4, if_pos (nI_le (Nat.le_refl _) (by omega)), fX10_readsFigures_B36, sw_in32 (l := 0) (h := 9) (l' := 0) (h' := 9) rfl rfl, if_neg (by decide), sw_bs, if_pos rfl, sw_bs, hG0]
      exact sw_jt_fail (by omega) rfl rfl hF hG (by rw [h7, e])
    · have lt : P0 + x < n := by omega
      rw [sw_sst hx hF lt, if_neg (nI_ge lt (by omega)), nI_add, if_pos (sw_ok_nI (show b + (P0 + x) < 320 by omega) (by decide)), nI_clamp (by omega), hG.1 61 (by decide) (by decide) (by decide) (by decide), hc _ lt, fX10_readsFigures_B36, sw_in09, sw_bs, fX6_readCode, if_neg x1, if_neg x2]
      by_cases g : (!decide (cd (P0 + x) < 48) && !decide (57 < cd (P0 + x))) = true
      · have g' := g
        simp only [Bool.and_eq_true, Bool.not_eq_true', decide_eq_false_iff_not] at g'
        have ixq : (3 : Int32) * nI q + nI x = nI (3 * q + x) := by rw [show (3 : Int32) * nI q = nI (3 * q) from pk_mul 3 q, nI_add]
        rw [if_pos g, if_neg (show ¬ (1 : Int32) = 0 by decide), if_neg g'.1, if_pos (Int32.not_lt.mp g'.2), h9, sw_pr, sw_pr, sw_change (N := q + 1) (by omega) h9 (by omega) (by omega), sw_bs, sw_bs, if_neg x6, ixq, if_pos (sw_ok_nI (show 3 * q + x < 72 by omega) (by decide)), nI_clamp (by omega), sw_le, sw_le, sw_up_ne (show 37 ≠ 45 by decide), h7, nI_1, nI_1, nI_1]
        refine ih (x + 1) _ _ m mm (by omega) (by omega) (fun c a1 a2 a3 a4 => by rw [sw_up_ne a4]; exact hF c a1 a2 a3 a4) ⟨fun c a1 a2 a3 a4 => by rw [sw_up_ne a1, sw_up_ne a4]; exact hG.1 c a1 a2 a3 a4, fun k a1 a2 => by rw [sw_up_eq, sw_un a1, sw_up_ne (by decide)]; exact hG.2 k a1 a2⟩ ?_ ?_ ?_ ?_ ?_ ?_ ?_ (by omega) (by omega)
        · rw [sw_up_ne (by decide)]; exact h9
        · rw [sw_up_eq, sw_un (by decide), sw_up_ne (by decide)]; exact h8
        · refine sw_td_up hd (fun _ _ => by rw [sw_up_ne (by decide)]) (fun _ _ => by rw [sw_up_ne (by decide)]) (fun j hj => by rw [sw_up_eq, sw_un (by omega)]) (fun _ _ => by rw [sw_up_ne (by decide), sw_up_ne (by decide)]) (fun _ _ => by rw [sw_up_ne (by decide), sw_up_ne (by decide)]) (fun j hj => by rw [sw_up_ne (by decide), sw_up_eq, sw_un (by omega)])
        · rw [sw_up_ne (by decide)]; exact h10
        · rw [sw_up_ne (by decide)]; exact h11
        · intro y hy'
          rw [sw_up_ne (show 45 ≠ 37 by decide), sw_up_eq, sw_up_eq]
          by_cases z : y = x
          · subst z
            rw [sw_ue, sw_ue]
            exact ⟨rfl, sw_dgc g⟩
          · rw [sw_un (by omega), sw_un (by omega)]
            exact hy y (by omega)
        · rw [sw_up_eq, sw_ue]; rfl
      · rw [if_neg g, if_pos rfl, sw_bs, hG0]
        have bad : (if cd (P0 + x) < 48 then some (-1, τ) else if cd (P0 + x) ≤ 57 then sw_bind (fX6_change 9 (τ 9 0 - 1) (nI (x + 1) - 1) (cd (P0 + x) - 48) τ) fun r4 σ5 => some (nI (x + 1) + 1, σ5) else some (-1, τ)) = (some (-1, τ) : Option (Int32 × sw_St)) := by
          by_cases c1 : cd (P0 + x) < 48
          · rw [if_pos c1]
          · by_cases c2 : cd (P0 + x) ≤ 57
            · exfalso
              apply g
              simp [c1, Int32.not_lt.mpr c2]
            · rw [if_neg c1, if_neg c2]
        rw [bad, sw_bs, if_pos rfl]
        exact sw_jt_fail (by omega) rfl rfl hF hG h7
