/-! The reference's cut. -/
def sw_FrM (σ τ : sw_St) : Prop := (∀ c : Nat, c ≠ 37 → c ≠ 49 → c ≠ 50 → τ c = σ c) ∧ ∀ k : Nat, k ≠ 20 → k ≠ 23 → τ 37 k = σ 37 k
def sw_CM (σ τ : sw_St) (z : (Nat → Int32) × (Nat → Int32) × Int32) (s : Nat) : Prop := sw_FrM σ τ ∧ τ 37 20 = nI s ∧ τ 37 23 = z.2.2 ∧ ∀ j : Nat, j < s → τ 49 j = z.1 j ∧ τ 50 j = z.2.1 j
def sw_stm (σ : sw_St) (t : Nat) (p h : Int32) : sw_St := sw_up (sw_up (sw_up (sw_up σ 49 t p) 50 t h) 37 23 (sw_mx (σ 37 23) (sw_ab p))) 37 20 (σ 37 20 + 1)
theorem sw_196 {K : Int32 → Int32 → Int32 → Int32 → Int32 → sw_St → Option (Unit × sw_St)} {v1 v2 p h : Int32} {t : Nat} {σ : sw_St} (ht : t < 24) : fX10_cut_B196 K v1 v2 p h (nI t) σ = K v1 v2 p h (nI (t + 1)) (sw_stm σ t p h) := by
  rw [fX10_cut_B196, if_pos (sw_ok_nI ht (by decide)), sw_le, if_pos (sw_ok_nI ht (by decide)), sw_le, sw_size, sw_bs, sw_mx_gr, sw_bs, sw_le, sw_le, nI_clamp (by omega), nI_1]
  have e1 : sw_up (sw_up σ 49 t p) 50 t h 37 = σ 37 := by rw [sw_up_ne (by decide), sw_up_ne (by decide)]
  have e2 : sw_up (sw_up (sw_up σ 49 t p) 50 t h) 37 23 (sw_mx (σ 37 23) (sw_ab p)) 37 20 = σ 37 20 := by rw [sw_up_eq, sw_un (by decide), e1]
  rw [e1, e2]
  rfl
theorem sw_151 {K : Int32 → Int32 → Int32 → Int32 → Int32 → sw_St → Option (Unit × sw_St)} {v1 v2 v3 h : Int32} {t : Nat} {σ : sw_St} (ht : t < 24) : fX10_cut_B151 K v1 v2 v3 (nI t) h σ = K v1 v2 (sw_fen (σ 37 19) (v3 + h) h).1 (sw_fen (σ 37 19) (v3 + h) h).2 (nI (t + 1)) (sw_stm σ t (sw_fen (σ 37 19) (v3 + h) h).1 (sw_fen (σ 37 19) (v3 + h) h).2) := by
  rw [fX10_cut_B151, sw_le]
  generalize v3 + h = p
  unfold sw_fen
  by_cases c1 : σ 37 19 ≤ 0
  · rw [if_pos c1, if_pos c1, sw_196 ht]
  · rw [if_neg c1, if_neg c1, sw_size, sw_bs]
    by_cases c2 : sw_ab p ≤ σ 37 19
    · rw [if_pos c2, if_pos c2, sw_196 ht]
    · rw [if_neg c2, if_neg c2]
      by_cases c3 : p ≤ 0
      · rw [if_pos c3, if_pos c3, fX10_cut_B192, sw_196 ht]
      · rw [if_neg c3, if_neg c3, fX10_cut_B192, sw_196 ht]
theorem sw_82 {K : Int32 → Int32 → Int32 → Int32 → Int32 → sw_St → Option (Unit × sw_St)} {v1 v2 v3 v4 was : Int32} {t : Nat} {σ : sw_St} (ht : t < 24) (hd : ¬ 10 * σ 46 t = 0) : fX10_cut_B82 K v1 v2 v3 v4 (nI t) was σ = fX10_cut_B151 K v1 v2 v3 (nI t) (sw_hn v1 (σ 46 t) (σ 47 t) (σ 37 16) (σ 37 17) was v4) σ := by
  rw [fX10_cut_B82, if_pos (sw_ok_nI ht (by decide)), nI_clamp (by omega), if_neg hd, if_pos (sw_ok_nI ht (by decide)), sw_le]
  unfold sw_hn sw_cp
  generalize v4 + (v1 / (10 * σ 46 t) + σ 47 t + σ 37 16 - σ 37 17 * was / 8) = h
  by_cases c1 : h ≤ 99
  · rw [if_pos c1, if_pos c1]
    by_cases c2 : -99 ≤ h
    · rw [if_pos c2, if_pos c2]
    · rw [if_neg c2, if_neg c2]
  · rw [if_neg c1, if_neg c1]
theorem sw_cutL {L la N : Nat} {pu kf : Int32} {σ : sw_St} (hL : L ≤ 24) (hB : σ 37 12 = nI L) (hh : ∀ t : Nat, t < L → ∃ j : Nat, 1 ≤ j ∧ j ≤ 9 ∧ σ 46 t = nI j) (hla : la ≤ 5) (hl : σ 37 18 = nI la) (hN1 : 1 ≤ N) (hN : N ≤ 8) (hT : σ 37 1 = nI N) : ∀ (n t : Nat) (τ : sw_St), t ≤ L → L - t < n → (∀ j : Nat, j < t → σ 48 j ≤ kf) → sw_CM σ τ (sw_cu pu (σ 46) (σ 47) (σ 37 16) (σ 37 17) la (σ 37 19) t) t → ∃ τ' : sw_St, fX10_cut_L28 n pu kf (sw_at1 (sw_cu pu (σ 46) (σ 47) (σ 37 16) (σ 37 17) la (σ 37 19) t).1 t) (sw_at1 (sw_cu pu (σ 46) (σ 47) (σ 37 16) (σ 37 17) la (σ 37 19) t).2.1 t) (nI t) τ = some ((), τ') ∧ sw_CM σ τ' (sw_cu pu (σ 46) (σ 47) (σ 37 16) (σ 37 17) la (σ 37 19) (sw_ns kf (σ 48) L)) (sw_ns kf (σ 48) L) := by
  intro n
  induction n with
  | zero => intro t τ _ h; omega
  | succ n ih =>
    intro t τ ht hn hcl hI
    obtain ⟨⟨hF, hG⟩, i0, i2, i3⟩ := id hI
    have f46 := hF 46 (by decide) (by decide) (by decide)
    have f47 := hF 47 (by decide) (by decide) (by decide)
    have f48 := hF 48 (by decide) (by decide) (by decide)
    have g1 := hG 1 (by decide) (by decide)
    have g12 := hG 12 (by decide) (by decide)
    have g16 := hG 16 (by decide) (by decide)
    have g17 := hG 17 (by decide) (by decide)
    have g18 := hG 18 (by decide) (by decide)
    have g19 := hG 19 (by decide) (by decide)
    unfold fX10_cut_L28
    by_cases h : t = L
    · subst h
      refine ⟨τ, by rw [g12, hB, if_pos (nI_le (Nat.le_refl _) (by omega))], ?_⟩
      rw [sw_ns_full hcl]
      exact hI
    · have hlt : t < L := by omega
      have ok24 : sw_ok (nI t) 24 = true := sw_ok_nI (by omega) (by decide)
      have hcl' : (nI t).toNatClampNeg = t := nI_clamp (by omega)
      obtain ⟨tb1, tb2⟩ := sw_tb t (by omega) la (by omega)
      rw [g12, hB, if_neg (nI_ge hlt (by omega)), g1, hT, if_neg (nI_nle (by omega) (by omega)), if_pos ok24, hcl', f48]
      by_cases c1' : σ 48 t ≤ kf
      · obtain ⟨j, hj1, hj2, ej⟩ := hh t hlt
        obtain ⟨z1, z2⟩ := sw_h10 j hj1 hj2
        have hd0 : ¬ 10 * τ 46 t = 0 := by rw [f46, ej]; exact z2
        have W : (if 0 ≤ nI t - 1 - nI la then (if sw_ok (nI t - 1 - nI la) 24 = true then fX10_cut_B82 (fX10_cut_L28 n) pu kf (sw_at1 (sw_cu pu (σ 46) (σ 47) (σ 37 16) (σ 37 17) la (σ 37 19) t).1 t) (sw_at1 (sw_cu pu (σ 46) (σ 47) (σ 37 16) (σ 37 17) la (σ 37 19) t).2.1 t) (nI t) (τ 49 (nI t - 1 - nI la).toNatClampNeg) τ else none) else fX10_cut_B82 (fX10_cut_L28 n) pu kf (sw_at1 (sw_cu pu (σ 46) (σ 47) (σ 37 16) (σ 37 17) la (σ 37 19) t).1 t) (sw_at1 (sw_cu pu (σ 46) (σ 47) (σ 37 16) (σ 37 17) la (σ 37 19) t).2.1 t) (nI t) 0 τ) = fX10_cut_B82 (fX10_cut_L28 n) pu kf (sw_at1 (sw_cu pu (σ 46) (σ 47) (σ 37 16) (σ 37 17) la (σ 37 19) t).1 t) (sw_at1 (sw_cu pu (σ 46) (σ 47) (σ 37 16) (σ 37 17) la (σ 37 19) t).2.1 t) (nI t) (if t ≤ la then 0 else (sw_cu pu (σ 46) (σ 47) (σ 37 16) (σ 37 17) la (σ 37 19) t).1 (t - 1 - la)) τ := by
          by_cases hw : t ≤ la
          · rw [if_neg (Int32.not_le.mpr (tb1.mpr hw)), if_pos hw]
          · rw [if_pos (Int32.not_lt.mp (fun q => hw (tb1.mp q))), if_neg hw, tb2 (by omega), if_pos (sw_ok_nI (by omega) (by decide)), nI_clamp (by omega), (i3 _ (by omega)).1]
        rw [if_neg (Int32.not_lt.mpr c1'), sw_le, g18, hl, W, sw_82 (by omega) hd0, sw_151 (by omega), f46, f47, g16, g17, g19]
        have key := ih (t + 1) (sw_stm τ t (sw_fen (σ 37 19) (sw_at1 (sw_cu pu (σ 46) (σ 47) (σ 37 16) (σ 37 17) la (σ 37 19) t).1 t + sw_hn pu (σ 46 t) (σ 47 t) (σ 37 16) (σ 37 17) (if t ≤ la then 0 else (sw_cu pu (σ 46) (σ 47) (σ 37 16) (σ 37 17) la (σ 37 19) t).1 (t - 1 - la)) (sw_at1 (sw_cu pu (σ 46) (σ 47) (σ 37 16) (σ 37 17) la (σ 37 19) t).2.1 t)) (sw_hn pu (σ 46 t) (σ 47 t) (σ 37 16) (σ 37 17) (if t ≤ la then 0 else (sw_cu pu (σ 46) (σ 47) (σ 37 16) (σ 37 17) la (σ 37 19) t).1 (t - 1 - la)) (sw_at1 (sw_cu pu (σ 46) (σ 47) (σ 37 16) (σ 37 17) la (σ 37 19) t).2.1 t))).1 (sw_fen (σ 37 19) (sw_at1 (sw_cu pu (σ 46) (σ 47) (σ 37 16) (σ 37 17) la (σ 37 19) t).1 t + sw_hn pu (σ 46 t) (σ 47 t) (σ 37 16) (σ 37 17) (if t ≤ la then 0 else (sw_cu pu (σ 46) (σ 47) (σ 37 16) (σ 37 17) la (σ 37 19) t).1 (t - 1 - la)) (sw_at1 (sw_cu pu (σ 46) (σ 47) (σ 37 16) (σ 37 17) la (σ 37 19) t).2.1 t)) (sw_hn pu (σ 46 t) (σ 47 t) (σ 37 16) (σ 37 17) (if t ≤ la then 0 else (sw_cu pu (σ 46) (σ 47) (σ 37 16) (σ 37 17) la (σ 37 19) t).1 (t - 1 - la)) (sw_at1 (sw_cu pu (σ 46) (σ 47) (σ 37 16) (σ 37 17) la (σ 37 19) t).2.1 t))).2) (by omega) (by omega) (fun j' hj' => by
            by_cases e : j' = t
            · rw [e]; exact c1'
            · exact hcl j' (by omega)) (by
            rw [sw_cu]
            refine ⟨⟨fun c' a1 a2 a3 => ?_, fun k a1 a2 => ?_⟩, ?_, ?_, fun j' hj' => ?_⟩
            · unfold sw_stm
              rw [sw_up_ne a1, sw_up_ne a1, sw_up_ne a3, sw_up_ne a2]
              exact hF c' a1 a2 a3
            · unfold sw_stm
              rw [sw_up_eq, sw_un a1, sw_up_eq, sw_un a2, sw_up_ne (by decide), sw_up_ne (by decide)]
              exact hG k a1 a2
            · unfold sw_stm
              rw [sw_up_eq, sw_ue, i0, nI_1]
            · unfold sw_stm
              rw [sw_up_eq, sw_un (by decide), sw_up_eq, sw_ue, i2]
            · unfold sw_stm
              rw [sw_up_ne (show 49 ≠ 37 by decide), sw_up_ne (show 49 ≠ 37 by decide), sw_up_ne (show 49 ≠ 50 by decide), sw_up_eq, sw_up_ne (show 50 ≠ 37 by decide), sw_up_ne (show 50 ≠ 37 by decide), sw_up_eq, sw_up_ne (show 50 ≠ 49 by decide)]
              by_cases e : j' = t
              · subst e
                rw [sw_ue, sw_ue]
                exact ⟨sw_ue.symm, sw_ue.symm⟩
              · rw [sw_un e, sw_un e]
                have := i3 j' (by omega)
                exact ⟨this.1.trans (sw_un e).symm, this.2.trans (sw_un e).symm⟩)
        have a1 : ∀ {x y : Int32} {f g : Nat → Int32} {w : Int32}, sw_at1 (upd f t x) (t + 1) = x := by
          intro x y f g w
          unfold sw_at1
          rw [if_neg (by omega), show t + 1 - 1 = t by omega, sw_ue]
        rw [show (sw_cu pu (σ 46) (σ 47) (σ 37 16) (σ 37 17) la (σ 37 19) (t + 1)).1 = upd (sw_cu pu (σ 46) (σ 47) (σ 37 16) (σ 37 17) la (σ 37 19) t).1 t _ from rfl, show (sw_cu pu (σ 46) (σ 47) (σ 37 16) (σ 37 17) la (σ 37 19) (t + 1)).2.1 = upd (sw_cu pu (σ 46) (σ 47) (σ 37 16) (σ 37 17) la (σ 37 19) t).2.1 t _ from rfl, a1 (y := 0) (g := fun _ => 0) (w := 0), a1 (y := 0) (g := fun _ => 0) (w := 0)] at key
        exact key
      · refine ⟨τ, ?_, ?_⟩
        · rw [if_pos (Int32.not_le.mp c1')]
        · rw [sw_ns_stop hcl c1' hlt]
          exact hI
