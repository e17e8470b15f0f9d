/-! What a saw does, as a function of the saw; flaws laid on a saw; whether the readings are so. -/
def sw_chg (S : sw_Sw) (k w : Nat) (x : Int32) : sw_Sw := fun j => if j = k then ((S k).1, (S k).2.1, if w = 0 then x else (S k).2.2.1, if w = 1 then x else (S k).2.2.2.1, if w = 2 then x else (S k).2.2.2.2) else S j
theorem sw_X6_up {τ : sw_St} {c k w : Nat} {x : Int32} (hw : w ≤ 2) : sw_X6 (sw_up τ (c + 3) (3 * k + w) x) c = sw_chg (sw_X6 τ c) k w x := by
  funext j
  unfold sw_X6 sw_chg
  rw [sw_up_ne (show c + 1 ≠ c + 3 by omega), sw_up_ne (show c + 2 ≠ c + 3 by omega), sw_up_eq]
  by_cases e : j = k
  · subst e
    rw [if_pos rfl]
    rcases (show w = 0 ∨ w = 1 ∨ w = 2 by omega) with rfl | rfl | rfl
    · have e0 : ∀ f : Nat → Int32, upd f (3 * j + 0) x (3 * j) = x := fun f => sw_ue
      rw [e0, sw_un (by omega), sw_un (by omega)]; rfl
    · rw [sw_un (by omega), sw_ue, sw_un (by omega)]; rfl
    · rw [sw_un (by omega), sw_un (by omega), sw_ue]; rfl
  · rw [if_neg e, sw_un (by omega), sw_un (by omega), sw_un (by omega)]
theorem sw_M6_up {τ : sw_St} {k w : Nat} {x : Int32} (hw : w ≤ 2) : sw_M6 (sw_up τ (40 + w) k x) = sw_chg (sw_M6 τ) k w x := by
  funext j
  unfold sw_M6 sw_chg
  rw [sw_up_ne (show 38 ≠ 40 + w by omega), sw_up_ne (show 39 ≠ 40 + w by omega)]
  rcases (show w = 0 ∨ w = 1 ∨ w = 2 by omega) with rfl | rfl | rfl
  · rw [sw_up_eq, sw_up_ne (show 41 ≠ 40 + 0 by decide), sw_up_ne (show 42 ≠ 40 + 0 by decide)]
    by_cases e : j = k
    · subst e; rw [if_pos rfl, sw_ue]; rfl
    · rw [if_neg e, sw_un e]
  · rw [sw_up_eq, sw_up_ne (show 40 ≠ 40 + 1 by decide), sw_up_ne (show 42 ≠ 40 + 1 by decide)]
    by_cases e : j = k
    · subst e; rw [if_pos rfl, sw_ue]; rfl
    · rw [if_neg e, sw_un e]
  · rw [sw_up_eq, sw_up_ne (show 40 ≠ 40 + 2 by decide), sw_up_ne (show 41 ≠ 40 + 2 by decide)]
    by_cases e : j = k
    · subst e; rw [if_pos rfl, sw_ue]; rfl
    · rw [if_neg e, sw_un e]
theorem sw_chg_congr {S S' : sw_Sw} {N k w : Nat} {x : Int32} (h : ∀ j : Nat, j < N → S j = S' j) : ∀ j : Nat, j < N → sw_chg S k w x j = sw_chg S' k w x j := by
  intro j hj
  unfold sw_chg
  by_cases e : j = k
  · subst e; rw [if_pos rfl, if_pos rfl, h j hj]
  · rw [if_neg e, if_neg e, h j hj]
theorem sw_chg_ok {S : sw_Sw} {N k w : Nat} {x : Int32} (hv : sw_okS S N) (hx : sw_dg x) : sw_okS (sw_chg S k w x) N := by
  intro j hj
  have := hv j hj
  unfold sw_chg
  by_cases e : j = k
  · subst e
    rw [if_pos rfl]
    obtain ⟨h1, h2, h3, h4⟩ := this
    refine ⟨h1, ?_, ?_, ?_⟩
    · show sw_dg (if w = 0 then x else _)
      split
      · exact hx
      · exact h2
    · show sw_dg (if w = 1 then x else _)
      split
      · exact hx
      · exact h3
    · show sw_dg (if w = 2 then x else _)
      split
      · exact hx
      · exact h4
  · rw [if_neg e]; exact this
def sw_sk (σ : sw_St) (N L : Nat) (S : sw_Sw) : Nat := sw_ns (sw_kf S N) (σ 20) L
def sw_zk (σ : sw_St) (N L la : Nat) (S : sw_Sw) : (Nat → Int32) × (Nat → Int32) × Int32 := sw_cu (sw_ps S N) (σ 18) (σ 19) (σ 21 0) (σ 21 1) la (σ 21 3) (sw_sk σ N L S)
theorem sw_sk_congr {σ : sw_St} {N L la : Nat} {S S' : sw_Sw} (h : ∀ k : Nat, k < N → S k = S' k) : sw_sk σ N L S = sw_sk σ N L S' ∧ sw_zk σ N L la S = sw_zk σ N L la S' := by
  obtain ⟨h1, h2, h3, h4⟩ := sw_ps_congr h
  have e : sw_sk σ N L S = sw_sk σ N L S' := by unfold sw_sk sw_kf; rw [h3, h4]
  refine ⟨e, ?_⟩
  unfold sw_zk
  rw [e, h1]
/-- what class and reference leave as it is while they search -/
def sw_FrX (σ τ : sw_St) : Prop := ∀ c : Nat, (c < 9 ∨ (16 < c ∧ c < 23) ∨ (25 < c ∧ c ≠ 33)) → τ c = σ c
def sw_FrZ (σ τ : sw_St) : Prop := (∀ c : Nat, (c < 9 ∨ (16 < c ∧ c < 23) ∨ (25 < c ∧ c ≠ 33)) → c ≠ 37 → c ≠ 40 → c ≠ 41 → c ≠ 42 → c ≠ 49 → c ≠ 50 → c ≠ 56 → c ≠ 57 → τ c = σ c) ∧ ∀ k : Nat, (k < 20 ∨ (23 < k ∧ k < 31) ∨ 37 < k) → τ 37 k = σ 37 k
theorem sw_FrX_Z {σ τ : sw_St} (h : sw_FrX σ τ) : sw_FrZ σ τ := ⟨fun c hc _ _ _ _ _ _ _ _ => h c hc, fun k _ => by rw [h 37 (by decide)]⟩
theorem sw_FrX_r (σ : sw_St) : sw_FrX σ σ := fun _ _ => rfl
theorem sw_FrX_t {σ τ ρ : sw_St} (h : sw_FrX σ τ) (h' : sw_FrX τ ρ) : sw_FrX σ ρ := fun c hc => (h' c hc).trans (h c hc)
theorem sw_FrX_cut {σ τ ρ : sw_St} (h : sw_FrX σ τ) (h' : sw_Fr τ ρ) : sw_FrX σ ρ := fun c hc => (h' c (by omega) (by omega) (by omega)).trans (h c hc)
theorem sw_FrZ_cut {σ τ ρ : sw_St} (h : sw_FrZ σ τ) (h' : sw_FrM τ ρ) : sw_FrZ σ ρ := ⟨fun c hc a1 a2 a3 a4 a5 a6 a7 a8 => (h'.1 c a1 a5 a6).trans (h.1 c hc a1 a2 a3 a4 a5 a6 a7 a8), fun k hk => (h'.2 k (by omega) (by omega)).trans (h.2 k hk)⟩
theorem sw_Rel_X {σ τ : sw_St} (h : sw_FrX σ τ) (hR : sw_Rel σ) : sw_Rel τ := by
  unfold sw_Rel at hR ⊢
  rw [h 0, h 2, h 3, h 4, h 5, h 6, h 7, h 8, h 17, h 18, h 19, h 20, h 21, h 26, h 27, h 28, h 29, h 30, h 31, h 32, h 37, h 38, h 39, h 40, h 41, h 42, h 46, h 47, h 48, h 51, h 52, h 53, h 54, h 55, h 59, h 60, h 61]
  · exact hR
  all_goals decide
theorem sw_Rel_Z {σ τ : sw_St} (h : sw_FrZ σ τ) (h40 : τ 40 = σ 40) (h41 : τ 41 = σ 41) (h42 : τ 42 = σ 42) (hR : sw_Rel σ) : sw_Rel τ := by
  obtain ⟨h, k⟩ := h
  unfold sw_Rel at hR ⊢
  rw [h 0, h 2, h 3, h 4, h 5, h 6, h 7, h 8, h 17, h 18, h 19, h 20, h 21, h 26, h 27, h 28, h 29, h 30, h 31, h 32, h 38, h 39, h40, h41, h42, h 46, h 47, h 48, h 51, h 52, h 53, h 54, h 55, h 59, h 60, h 61, k 0, k 1, k 12, k 16, k 17, k 18, k 19, k 24, k 28, k 45]
  · exact hR
  all_goals decide
/-- the numbers of a run -/
def sw_Cn (σ : sw_St) (N L la F R : Nat) : Prop := sw_Rel σ ∧ (1 ≤ N ∧ N ≤ 8 ∧ σ 5 0 = nI N) ∧ (L ≤ 24 ∧ σ 17 0 = nI L) ∧ (la ≤ 5 ∧ σ 21 2 = nI la) ∧ (F ≤ 6 ∧ σ 26 0 = nI F) ∧ R ≤ 8 ∧ σ 30 0 = nI R
theorem sw_goX {σ : sw_St} {N L la F R : Nat} (hC : sw_Cn σ N L la F R) {τ : sw_St} {c : Nat} {S : sw_Sw} (hc : c = 5 ∨ c = 9 ∨ c = 13) (hF : sw_FrX σ τ) (hn : τ c 0 = nI N) (hS : ∀ k : Nat, k < N → sw_X6 τ c k = S k) : ∃ τ' : sw_St, fX1_go c 21 τ = some ((), τ') ∧ sw_Fr τ τ' ∧ τ' 23 0 = nI (sw_sk σ N L S) ∧ τ' 23 1 = (if sw_sk σ N L S < L then nI (sw_sk σ N L S) else -9) ∧ τ' 23 2 = (sw_zk σ N L la S).2.2 ∧ ∀ j : Nat, j < sw_sk σ N L S → τ' 24 j = (sw_zk σ N L la S).1 j := by
  obtain ⟨hR, ⟨hN1, hN, hn5⟩, ⟨hL, hl⟩, ⟨hla, ha⟩, -⟩ := hC
  obtain ⟨-, N', hN24, hl', hB⟩ := hR.2.1
  have hLN : N' = L := (nI_eq (by omega) (by omega)).mp (hl'.symm.trans hl)
  subst hLN
  have e17 := hF 17 (by decide)
  have e18 := hF 18 (by decide)
  have e19 := hF 19 (by decide)
  have e20 := hF 20 (by decide)
  have e21 := hF 21 (by decide)
  obtain ⟨τ', g1, gF, g0, gp, g2, g3⟩ := sw_go (c := c) (c1 := 21) (σ := τ) (la := la) hN hn (by omega) hL (by rw [e17]; exact hl) (fun t ht => by rw [e18]; exact (hB t ht).2) hla (by rw [e21]; exact ha) (by decide) (by omega)
  have e := sw_sk_congr (σ := σ) (L := N') (la := la) hS
  have es : sw_ns (sw_kf (sw_X6 τ c) N) (τ 20) N' = sw_sk σ N N' S := by rw [← e.1, e20]; rfl
  rw [es] at g0 gp g2 g3
  rw [e18, e19, e21] at g2 g3
  have ez : sw_cu (sw_ps (sw_X6 τ c) N) (σ 18) (σ 19) (σ 21 0) (σ 21 1) la (σ 21 3) (sw_sk σ N N' S) = sw_zk σ N N' la S := by rw [← e.2, ← e.1]; rfl
  rw [ez] at g2 g3
  exact ⟨τ', g1, gF, g0, gp, g2, fun j hj => (g3 j hj).1⟩
theorem sw_cutX {σ : sw_St} {N L la F R : Nat} (hC : sw_Cn σ N L la F R) {τ : sw_St} {S : sw_Sw} (hF : sw_FrZ σ τ) (hS : ∀ k : Nat, k < N → sw_M6 τ k = S k) (hv : sw_okS S N) : ∃ τ' : sw_St, fX10_cut τ = some ((), τ') ∧ sw_FrM τ τ' ∧ τ' 37 20 = nI (sw_sk σ N L S) ∧ τ' 37 23 = (sw_zk σ N L la S).2.2 ∧ ∀ j : Nat, j < sw_sk σ N L S → τ' 49 j = (sw_zk σ N L la S).1 j := by
  obtain ⟨hR, ⟨hN1, hN, hn5⟩, ⟨hL, hl⟩, ⟨hla, ha⟩, -⟩ := hC
  obtain ⟨hm12, N', hN24, hl', hB⟩ := hR.2.1
  obtain ⟨⟨h16, h17, h18, h19⟩, -⟩ := hR.2.2.1
  have hm1 := hR.1.1
  have hLN : N' = L := (nI_eq (by omega) (by omega)).mp (hl'.symm.trans hl)
  subst hLN
  have k := hF.2
  have e46 := hF.1 46 (by decide) (by decide) (by decide) (by decide) (by decide) (by decide) (by decide) (by decide) (by decide)
  have e47 := hF.1 47 (by decide) (by decide) (by decide) (by decide) (by decide) (by decide) (by decide) (by decide) (by decide)
  have e48 := hF.1 48 (by decide) (by decide) (by decide) (by decide) (by decide) (by decide) (by decide) (by decide) (by decide)
  obtain ⟨τ', g1, gF, g0, g2, g3⟩ := sw_mcut0 (σ := τ) (la := la) (L := N') hN (by rw [k 1 (by decide), hm1]; exact hn5) (sw_okS_congr hS hv) hL (by rw [k 12 (by decide), hm12]; exact hl) (fun t ht => by rw [e46, (hB t ht).1.1]; exact (hB t ht).2) hla (by rw [k 18 (by decide), h18]; exact ha)
  have e := sw_sk_congr (σ := σ) (L := N') (la := la) hS
  have es : (if N = 0 then 0 else sw_ns (sw_kf (sw_M6 τ) N) (τ 48) N') = sw_sk σ N N' S := by
    rw [if_neg (by omega), ← e.1, e48]
    unfold sw_sk
    exact sw_ns_congr (fun t ht => (hB t ht).1.2.2)
  rw [es] at g0 g2 g3
  have ez : sw_cu (sw_ps (sw_M6 τ) N) (τ 46) (τ 47) (τ 37 16) (τ 37 17) la (τ 37 19) (sw_sk σ N N' S) = sw_zk σ N N' la S := by
    rw [← e.2]
    unfold sw_zk
    rw [← e.1, k 16 (by decide), k 17 (by decide), k 19 (by decide), h16, h17, h19, e46, e47]
    exact sw_cu_congr (fun t ht => ⟨(hB t (by have := sw_ns_le (sw_kf (sw_M6 τ) N) (σ 20) N'; unfold sw_sk at ht; omega)).1.1, (hB t (by have := sw_ns_le (sw_kf (sw_M6 τ) N) (σ 20) N'; unfold sw_sk at ht; omega)).1.2.1⟩)
  rw [ez] at g2 g3
  exact ⟨τ', g1, gF, g0, g2, fun j hj => (g3 j hj).1⟩
/-- the first i readings are so -/
def sw_fb (σ : sw_St) (N L la : Nat) (S : sw_Sw) : Nat → Bool
  | 0 => true
  | i + 1 => sw_fb σ N L la S i && (decide ((σ 31 i).toNatClampNeg < sw_sk σ N L S) && decide ((sw_zk σ N L la S).1 (σ 31 i).toNatClampNeg = σ 32 i))
theorem sw_fb_congr {σ : sw_St} {N L la : Nat} {S S' : sw_Sw} (h : ∀ k : Nat, k < N → S k = S' k) : ∀ i : Nat, sw_fb σ N L la S i = sw_fb σ N L la S' i := by
  have e := sw_sk_congr (σ := σ) (L := L) (la := la) h
  intro i
  induction i with
  | zero => rfl
  | succ i ih => rw [sw_fb, sw_fb, ih, e.1, e.2]
theorem sw_fb_mono {σ : sw_St} {N L la : Nat} {S : sw_Sw} {i : Nat} (h : ¬ sw_fb σ N L la S i = true) : ∀ j : Nat, ¬ sw_fb σ N L la S (i + j) = true := by
  intro j
  induction j with
  | zero => exact h
  | succ j ih =>
    rw [← Nat.add_assoc, sw_fb]
    simp only [Bool.and_eq_true, not_and]
    intro q
    exact absurd q ih
