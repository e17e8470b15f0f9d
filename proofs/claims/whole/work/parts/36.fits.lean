/-! Both look whether the readings are so. -/
theorem sw_Cn_read {σ : sw_St} {N L la F R : Nat} (hC : sw_Cn σ N L la F R) {i : Nat} (hi : i < R) : σ 54 i = σ 31 i ∧ σ 55 i = σ 32 i ∧ σ 31 i = nI (σ 31 i).toNatClampNeg ∧ (σ 31 i).toNatClampNeg < 24 := by
  obtain ⟨hR, -, -, -, -, hR8, hr⟩ := hC
  obtain ⟨-, R', hR', hr', h⟩ := hR.2.2.2.2.1
  have e : R' = R := (nI_eq (by omega) (by omega)).mp (hr'.symm.trans hr)
  subst e
  obtain ⟨⟨e1, e2⟩, t, M, h1, h2, h3, h4⟩ := h i hi
  have ec : (σ 31 i).toNatClampNeg = t := by rw [h4, nI_clamp (by omega)]
  exact ⟨e1, e2, by rw [ec]; exact h4, by omega⟩
theorem sw_areSo {σ : sw_St} {N L la F R : Nat} (hC : sw_Cn σ N L la F R) {S : sw_Sw} {τ : sw_St} (hF : sw_FrX σ τ) (h0 : τ 23 0 = nI (sw_sk σ N L S)) (h3 : ∀ j : Nat, j < sw_sk σ N L S → τ 24 j = (sw_zk σ N L la S).1 j) : ∀ (m i : Nat), i ≤ R → R - i < m → sw_fb σ N L la S i = true → fX5_areSo_L2 m (nI i) τ = some (if sw_fb σ N L la S R = true then 1 else 0, τ) := by
  have hR8 := hC.2.2.2.2.2.1
  have hr := hC.2.2.2.2.2.2
  have hs24 : sw_sk σ N L S ≤ 24 := Nat.le_trans (sw_ns_le _ _ _) hC.2.2.1.1
  intro m
  induction m with
  | zero => intro i _ h; omega
  | succ m ih =>
    intro i hi hm hb
    rw [fX5_areSo_L2, hF 30 (by decide), hr]
    by_cases c : i = R
    · subst c
      rw [if_pos (nI_le (Nat.le_refl _) (by omega)), if_pos hb]
    · have lt : i < R := by omega
      obtain ⟨-, -, e1, e2⟩ := sw_Cn_read hC lt
      have ok := sw_ok_nI (show i < 8 by omega) (by decide)
      have nx : sw_fb σ N L la S (i + 1) = (decide ((σ 31 i).toNatClampNeg < sw_sk σ N L S) && decide ((sw_zk σ N L la S).1 (σ 31 i).toNatClampNeg = σ 32 i)) := by rw [sw_fb, hb, Bool.true_and]
      have no : ¬ sw_fb σ N L la S (i + 1) = true → (if sw_fb σ N L la S R = true then (1 : Int32) else 0) = 0 := fun q => by
        have := sw_fb_mono q (R - (i + 1))
        rw [show i + 1 + (R - (i + 1)) = R by omega] at this
        rw [if_neg this]
      rw [if_neg (nI_ge lt (by omega)), if_neg (show ¬ (8 : Int32) ≤ nI i from nI_ge (b := 8) (by omega) (by decide)), if_pos ok, sw_le, nI_clamp (show i < 2 ^ 31 by omega), hF 31 (by decide), h0]
      generalize hq : (σ 31 i).toNatClampNeg = q at *
      rw [e1]
      by_cases c1 : q < sw_sk σ N L S
      · rw [if_neg (nI_ge c1 (by omega)), fX1_placeBehind, if_neg (nI_pos (by omega)), h0, if_neg (nI_ge c1 (by omega)), if_neg (show ¬ (24 : Int32) ≤ nI q from nI_ge (b := 24) (by omega) (by decide)), if_pos (sw_ok_nI e2 (by decide)), nI_clamp (by omega), sw_bs, if_pos ok, h3 q c1, hF 32 (by decide)]
        by_cases c2 : (sw_zk σ N L la S).1 q = σ 32 i
        · rw [if_pos c2, nI_1]
          exact ih (i + 1) (by omega) (by omega) (by rw [nx]; simp [c1, c2])
        · rw [if_neg c2, no (by rw [nx]; simp [c2])]
      · rw [if_pos (nI_le (by omega) (by omega)), no (by rw [nx]; simp [c1])]
theorem sw_blif (b : Bool) : sw_bl (if b = true then 1 else 0) = true := by cases b <;> decide
theorem sw_doesFitL {σ : sw_St} {N L la F R : Nat} (hC : sw_Cn σ N L la F R) {S : sw_Sw} {τ : sw_St} (hF : sw_FrZ σ τ) (h0 : τ 37 20 = nI (sw_sk σ N L S)) (h3 : ∀ j : Nat, j < sw_sk σ N L S → τ 49 j = (sw_zk σ N L la S).1 j) : ∀ (m i : Nat), i ≤ R → R - i < m → fX10_doesFit_L8 m (if sw_fb σ N L la S i = true then 1 else 0) (nI i) τ = some (if sw_fb σ N L la S R = true then 1 else 0, τ) := by
  have hR8 := hC.2.2.2.2.2.1
  have hr := hC.2.2.2.2.2.2
  have hm28 := hC.1.2.2.2.2.1.1
  have hs24 : sw_sk σ N L S ≤ 24 := Nat.le_trans (sw_ns_le _ _ _) hC.2.2.1.1
  have e54 := hF.1 54 (by decide) (by decide) (by decide) (by decide) (by decide) (by decide) (by decide) (by decide) (by decide)
  have e55 := hF.1 55 (by decide) (by decide) (by decide) (by decide) (by decide) (by decide) (by decide) (by decide) (by decide)
  intro m
  induction m with
  | zero => intro i _ h; omega
  | succ m ih =>
    intro i hi hm
    rw [fX10_doesFit_L8, hF.2 28 (by decide), hm28, hr]
    by_cases c : i = R
    · subst c
      rw [if_pos (nI_le (Nat.le_refl _) (by omega)), if_pos (sw_blif _)]
    · have lt : i < R := by omega
      obtain ⟨r1, r2, e1, e2⟩ := sw_Cn_read hC lt
      have ok := sw_ok_nI (show i < 8 by omega) (by decide)
      have go : ∀ x : Int32, x = (if sw_fb σ N L la S (i + 1) = true then 1 else 0) → fX10_doesFit_B58 (fX10_doesFit_L8 m) (nI i) x τ = some (if sw_fb σ N L la S R = true then 1 else 0, τ) := fun x hx => by
        rw [fX10_doesFit_B58, nI_1, hx]
        exact ih (i + 1) (by omega) (by omega)
      rw [if_neg (nI_ge lt (by omega)), if_pos ok, if_pos ok, if_pos ok, nI_clamp (show i < 2 ^ 31 by omega), h0, e54, e55, r1, r2, fX10_doesFit_B57]
      generalize hq : (σ 31 i).toNatClampNeg = q at *
      rw [e1, if_pos (sw_ok_nI e2 (by decide))]
      by_cases hb : sw_fb σ N L la S i = true
      · have nx : sw_fb σ N L la S (i + 1) = (decide (q < sw_sk σ N L S) && decide ((sw_zk σ N L la S).1 q = σ 32 i)) := by rw [sw_fb, hb, Bool.true_and, hq]
        rw [if_pos hb, if_neg (by decide)]
        by_cases c1 : q < sw_sk σ N L S
        · rw [if_neg (nI_ge c1 (by omega)), h3 q c1]
          by_cases c2 : (sw_zk σ N L la S).1 q = σ 32 i
          · rw [if_pos c2]
            exact go 1 (by rw [nx]; simp [c1, c2])
          · rw [if_neg c2]
            exact go 0 (by rw [nx]; simp [c2])
        · rw [if_pos (nI_le (by omega) (by omega))]
          exact go 0 (by rw [nx]; simp [c1])
      · rw [if_neg hb, if_pos rfl]
        exact go 0 (by rw [if_neg (sw_fb_mono hb 1)])
theorem sw_mdf {σ : sw_St} {N L la F R : Nat} (hC : sw_Cn σ N L la F R) {τ : sw_St} {S : sw_Sw} (hF : sw_FrZ σ τ) (hS : ∀ k : Nat, k < N → sw_M6 τ k = S k) (hv : sw_okS S N) : ∃ τ' : sw_St, fX10_doesFit τ = some (if sw_fb σ N L la S R = true then 1 else 0, τ') ∧ sw_FrM τ τ' := by
  obtain ⟨τ', g1, gF, g0, -, g3⟩ := sw_cutX hC hF hS hv
  have hb := sw_fuel_big
  have hR8 := hC.2.2.2.2.2.1
  refine ⟨τ', ?_, gF⟩
  have := sw_doesFitL hC (sw_FrZ_cut hF gF) g0 g3 sw_fuel 0 (Nat.zero_le _) (by omega)
  rw [sw_fb, if_pos rfl, nI_0] at this
  rw [fX10_doesFit, g1, sw_bs]
  exact this
/-- flaws laid on a saw, by a mask -/
def sw_app (σ : sw_St) (v : Nat) : Nat → sw_Sw
  | 0 => sw_X6 σ 5
  | q + 1 => if v.testBit q = true then sw_chg (sw_app σ v q) (σ 27 q).toNatClampNeg (σ 28 q).toNatClampNeg (σ 29 q) else sw_app σ v q
theorem sw_Cn_flaw {σ : sw_St} {N L la F R : Nat} (hC : sw_Cn σ N L la F R) {q : Nat} (hq : q < F) : σ 51 q = σ 27 q ∧ σ 52 q = σ 28 q ∧ σ 53 q = σ 29 q ∧ σ 27 q = nI (σ 27 q).toNatClampNeg ∧ (σ 27 q).toNatClampNeg < N ∧ σ 28 q = nI (σ 28 q).toNatClampNeg ∧ (σ 28 q).toNatClampNeg ≤ 2 ∧ sw_dg (σ 29 q) := by
  obtain ⟨hR, ⟨hN1, hN, hn⟩, -, -, ⟨hF6, hf⟩, -⟩ := hC
  obtain ⟨-, F', hF', hf', h⟩ := hR.2.2.2.1
  have e : F' = F := (nI_eq (by omega) (by omega)).mp (hf'.symm.trans hf)
  subst e
  obtain ⟨⟨e1, e2, e3⟩, ⟨k, M, h1, h2, h3, h4⟩, ⟨w, h5, h6⟩, h7⟩ := h q hq
  have eM : M = N := (nI_eq (by omega) (by omega)).mp (h3.symm.trans hn)
  have ec : (σ 27 q).toNatClampNeg = k := by rw [h4, nI_clamp (by omega)]
  have ew : (σ 28 q).toNatClampNeg = w := by rw [h6, nI_clamp (by omega)]
  exact ⟨e1, e2, e3, by rw [ec]; exact h4, by omega, by rw [ew]; exact h6, by omega, h7⟩
theorem sw_app_ok {σ : sw_St} {N L la F R : Nat} (hC : sw_Cn σ N L la F R) (v : Nat) : ∀ q : Nat, q ≤ F → sw_okS (sw_app σ v q) N := by
  intro q
  induction q with
  | zero => intro _; exact (sw_rel_saw hC.1 hC.2.1.2.2 hC.2.1.2.1).2.1
  | succ q ih =>
    intro hq
    rw [sw_app]
    split
    · exact sw_chg_ok (ih (by omega)) (sw_Cn_flaw hC (show q < F by omega)).2.2.2.2.2.2.2
    · exact ih (by omega)
theorem sw_tb32 : ∀ v : Nat, v < 64 → ∀ q : Nat, q < 6 → (((nI v >>> (nI q &&& 31)) &&& 1) = 1 ↔ v.testBit q = true) := by decide +kernel
theorem sw_apX {σ : sw_St} {N L la F R : Nat} (hC : sw_Cn σ N L la F R) {v : Nat} (hv : v < 64) : ∀ (m q : Nat) (τ : sw_St), q ≤ F → F - q < m → sw_FrX σ τ → τ 9 0 = nI N → (∀ k : Nat, k < N → sw_X6 τ 9 k = sw_app σ v q k) → ∃ τ' : sw_St, fX2_applyTo_L2 9 m (nI v) (nI q) τ = some ((), τ') ∧ sw_FrX σ τ' ∧ τ' 9 0 = nI N ∧ ∀ k : Nat, k < N → sw_X6 τ' 9 k = sw_app σ v F k := by
  have hF6 := hC.2.2.2.2.1.1
  have hf := hC.2.2.2.2.1.2
  have hN := hC.2.1.2.1
  intro m
  induction m with
  | zero => intro q τ _ h; omega
  | succ m ih =>
    intro q τ hq hm hF h9 hS
    rw [fX2_applyTo_L2, hF 26 (by decide), hf]
    by_cases c : q = F
    · subst c
      rw [if_pos (nI_le (Nat.le_refl _) (by omega))]
      exact ⟨τ, rfl, hF, h9, hS⟩
    · have lt : q < F := by omega
      obtain ⟨-, -, -, f1, f2, f3, f4, -⟩ := sw_Cn_flaw hC lt
      rw [if_neg (nI_ge lt (by omega))]
      by_cases tb : v.testBit q = true
      · have h2 : ∀ ρ : sw_St, ρ 26 = σ 26 → fX2_has (nI q) ρ = some (1, ρ) := fun ρ h => by
          rw [sw_has2 (N := F) hF6 (by rw [h]; exact hf), if_pos (sw_ok_nI lt (by omega))]
        have ok := sw_ok_nI (show q < 6 by omega) (by decide)
        rw [if_pos ((sw_tb32 v hv q (by omega)).mpr tb), fX2_toothOf, h2 τ (hF 26 (by decide)), sw_bs, if_neg (by decide), if_pos ok, sw_bs, fX2_whatOf, h2 τ (hF 26 (by decide)), sw_bs, if_neg (by decide), if_pos ok, sw_bs, fX2_valueOf, h2 τ (hF 26 (by decide)), sw_bs, if_neg (by decide), if_pos ok, sw_bs, nI_clamp (show q < 2 ^ 31 by omega), hF 27 (by decide), hF 28 (by decide), hF 29 (by decide), f1, f3, sw_change hN h9 f2 f4, sw_bs, fX2_applyTo_B38, nI_1]
        refine ih (q + 1) _ (by omega) (by omega) (fun d hd => by rw [sw_up_ne (by omega)]; exact hF d hd) (by rw [sw_up_ne (by decide)]; exact h9) (fun k hk => ?_)
        rw [sw_X6_up f4, sw_app, if_pos tb]
        exact sw_chg_congr hS k hk
      · rw [if_neg (fun z => tb ((sw_tb32 v hv q (by omega)).mp z)), fX2_applyTo_B38, nI_1]
        refine ih (q + 1) τ (by omega) (by omega) hF h9 (fun k hk => ?_)
        rw [sw_app, if_neg tb]
        exact hS k hk
/-- does the saw with the flaws of a mask fit? -/
def sw_ft (σ : sw_St) (N L la F R v : Nat) : Bool := sw_fb σ N L la (sw_app σ v F) R
theorem sw_xfit {σ : sw_St} {N L la F R : Nat} (hC : sw_Cn σ N L la F R) {v : Nat} (hv : v < 64) {τ : sw_St} (hF : sw_FrX σ τ) : ∃ τ' : sw_St, fX9_fits (nI v) τ = some (if sw_ft σ N L la F R v = true then 1 else 0, τ') ∧ sw_FrX σ τ' := by
  have hb := sw_fuel_big
  have hN := hC.2.1.2.1
  have hn := hC.2.1.2.2
  have hR8 := hC.2.2.2.2.2.1
  have hF6 := hC.2.2.2.2.1.1
  obtain ⟨τ1, b1, b2, b3, b4, b5, b6⟩ := sw_bec (c := 9) (c1 := 5) (σ := τ) (Or.inr (by decide))
  have F1 : sw_FrX σ τ1 := fun c hc => (b2 c (by omega) (by omega) (by omega) (by omega)).trans (hF c hc)
  have n9 : τ1 9 0 = nI N := by rw [b3, sw_ue, hF 5 (by decide)]; exact hn
  have S9 : ∀ k : Nat, k < N → sw_X6 τ1 9 k = sw_X6 σ 5 k := fun k hk => by
    unfold sw_X6
    rw [b4 k (by omega), b5 k (by omega), b6 (3 * k) (by omega), b6 (3 * k + 1) (by omega), b6 (3 * k + 2) (by omega), hF (5 + 1) (by decide), hF (5 + 2) (by decide), hF (5 + 3) (by decide)]
  obtain ⟨τ2, a1, a2, a3, a4⟩ := sw_apX hC hv sw_fuel 0 τ1 (Nat.zero_le _) (by omega) F1 n9 S9
  obtain ⟨τ3, g1, gF, g0, gp, g2, g3⟩ := sw_goX hC (c := 9) (Or.inr (Or.inl rfl)) a2 a3 a4
  have F3 := sw_FrX_cut a2 gF
  have := sw_areSo hC F3 g0 g3 sw_fuel 0 (Nat.zero_le _) (by omega) rfl
  rw [nI_0] at this a1
  refine ⟨τ3, ?_, F3⟩
  rw [fX9_fits, b1, sw_bs, fX2_applyTo, a1, sw_bs, g1, sw_bs, fX5_areSo, this, sw_bs, if_pos (sw_blif _)]
  rfl
