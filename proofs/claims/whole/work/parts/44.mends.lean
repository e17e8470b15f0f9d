def sw_M1 (M a : Nat) (c : Nat × Nat × Nat) : Prop := c = (0, 0, 0) ∨ (∃ a' : Nat, a' < a ∧ c = (1, a', 0)) ∨ ∃ a' b' : Nat, a' < a ∧ b' < M ∧ c = (2, a', b')
def sw_M2 (M a b : Nat) (c : Nat × Nat × Nat) : Prop := sw_M1 M a c ∨ c = (1, a, 0) ∨ ∃ b' : Nat, b' < b ∧ c = (2, a, b')
theorem sw_best_bd {g : Nat × Nat × Nat → Bool} {Q : Nat × Nat × Nat → Prop} {r : Option (Nat × Nat × Nat)} (h : sw_best g Q r) : ∀ c, r = some c → sw_bd c := by
  intro c e
  rcases h with ⟨e', -⟩ | ⟨c', e', -, hb, -⟩
  · rw [e'] at e; exact absurd e (by simp)
  · rw [e'] at e; injection e with e; rw [← e]; exact hb
theorem sw_cstM (a : Nat) (τ : sw_St) : fX10_costOf (nI (a % 4)) τ = some (nI (sw_ca a), τ) := by
  rw [fX10_costOf]
  unfold sw_ca
  rcases (show a % 4 = 0 ∨ a % 4 = 1 ∨ a % 4 = 2 ∨ a % 4 = 3 by omega) with e | e | e | e <;> rw [e] <;> rfl
theorem sw_tldM (a : Nat) : (10 : Int32) * nI (a / 4) + nI (a % 4) = sw_told a := by
  rw [show (10 : Int32) * nI (a / 4) = nI (10 * (a / 4)) from pk_mul 10 _, nI_add]; rfl
/-- one act tried: kept, done, looked at .. put back -/
theorem sw_tryM {τ ρ ρ2 : sw_St} {a s : Nat} (hs : s + 2 < 6) (ha : a / 4 < 8) (hρ : ρ = sw_actm (sw_up (sw_up (sw_up τ 57 s (τ 40 (a / 4))) 57 (s + 1) (τ 41 (a / 4))) 57 (s + 2) (τ 42 (a / 4))) (a % 4) (a / 4)) (h40 : ρ2 40 = ρ 40) (h41 : ρ2 41 = ρ 41) (h42 : ρ2 42 = ρ 42) (h57 : ∀ j : Nat, s ≤ j → j < s + 3 → ρ2 57 j = ρ 57 j) : ∃ ρ3 : sw_St, fX10_putBack (nI (a / 4)) (nI s) ρ2 = some ((), ρ3) ∧ ρ3 40 = τ 40 ∧ ρ3 41 = τ 41 ∧ ρ3 42 = τ 42 ∧ ∀ c : Nat, c ≠ 40 → c ≠ 41 → c ≠ 42 → ρ3 c = ρ2 c := by
  have b0 : ρ2 57 s = τ 40 (a / 4) := by
    rw [h57 s (by omega) (by omega), hρ, sw_actm_ne (by decide) (by decide) (by decide), sw_up_eq, sw_un (by omega), sw_up_eq, sw_un (by omega), sw_up_eq, sw_ue]
  have b1 : ρ2 57 (s + 1) = τ 41 (a / 4) := by
    rw [h57 (s + 1) (by omega) (by omega), hρ, sw_actm_ne (by decide) (by decide) (by decide), sw_up_eq, sw_un (by omega), sw_up_eq, sw_ue]
  have b2 : ρ2 57 (s + 2) = τ 42 (a / 4) := by
    rw [h57 (s + 2) (by omega) (by omega), hρ, sw_actm_ne (by decide) (by decide) (by decide), sw_up_eq, sw_ue]
  refine ⟨_, sw_putB ha hs, ?_, ?_, ?_, fun c a1 a2 a3 => ?_⟩
  · rw [sw_up_ne (by decide), sw_up_ne (by decide), sw_up_eq]
    refine sw_upf (fun j hj => ?_) b0
    rw [h40, hρ, sw_actm_j hj, sw_up_ne (by decide), sw_up_ne (by decide), sw_up_ne (by decide)]
  · rw [sw_up_ne (by decide), sw_up_eq, sw_up_ne (by decide)]
    refine sw_upf (fun j hj => ?_) b1
    rw [h41, hρ, sw_actm_j hj, sw_up_ne (by decide), sw_up_ne (by decide), sw_up_ne (by decide)]
  · rw [sw_up_eq, sw_up_ne (by decide), sw_up_ne (by decide)]
    refine sw_upf (fun j hj => ?_) b2
    rw [h42, hρ, sw_actm_j hj, sw_up_ne (by decide), sw_up_ne (by decide), sw_up_ne (by decide)]
  · rw [sw_up_ne a3, sw_up_ne a2, sw_up_ne a1]
/-- the frame of a kept and done act -/
theorem sw_FrZ_try {σ τ : sw_St} {a s : Nat} {x y z : Int32} (h : sw_FrZ σ τ) : sw_FrZ σ (sw_actm (sw_up (sw_up (sw_up τ 57 s x) 57 (s + 1) y) 57 (s + 2) z) (a % 4) (a / 4)) := by
  refine ⟨fun c hc a1 a2 a3 a4 a5 a6 a7 a8 => ?_, fun k hk => ?_⟩
  · rw [sw_actm_ne a2 a3 a4, sw_up_ne a8, sw_up_ne a8, sw_up_ne a8]; exact h.1 c hc a1 a2 a3 a4 a5 a6 a7 a8
  · rw [sw_actm_ne (by decide) (by decide) (by decide), sw_up_ne (by decide), sw_up_ne (by decide), sw_up_ne (by decide)]; exact h.2 k hk
theorem sw_FrZ_L {σ τ τ' : sw_St} (h : sw_FrZ σ τ) (h' : sw_FrL τ τ') : sw_FrZ σ τ' := ⟨fun c hc a1 a2 a3 a4 a5 a6 a7 a8 => (h'.1 c a1 a5 a6).trans (h.1 c hc a1 a2 a3 a4 a5 a6 a7 a8), fun k hk => (h'.2 k (by omega) (by omega) (by omega)).trans (h.2 k hk)⟩
theorem sw_FrZ_back {σ ρ ρ' : sw_St} (h : sw_FrZ σ ρ) (e : ∀ c : Nat, c ≠ 40 → c ≠ 41 → c ≠ 42 → ρ' c = ρ c) : sw_FrZ σ ρ' := ⟨fun c hc a1 a2 a3 a4 a5 a6 a7 a8 => (e c a2 a3 a4).trans (h.1 c hc a1 a2 a3 a4 a5 a6 a7 a8), fun k hk => by rw [e 37 (by decide) (by decide) (by decide)]; exact h.2 k hk⟩
theorem sw_M6_57 {τ : sw_St} {s : Nat} {x y z : Int32} : sw_M6 (sw_up (sw_up (sw_up τ 57 s x) 57 (s + 1) y) 57 (s + 2) z) = sw_M6 τ := by
  funext j
  unfold sw_M6
  rw [sw_up_ne (show 38 ≠ 57 by decide), sw_up_ne (show 38 ≠ 57 by decide), sw_up_ne (show 38 ≠ 57 by decide), sw_up_ne (show 39 ≠ 57 by decide), sw_up_ne (show 39 ≠ 57 by decide), sw_up_ne (show 39 ≠ 57 by decide), sw_up_ne (show 40 ≠ 57 by decide), sw_up_ne (show 40 ≠ 57 by decide), sw_up_ne (show 40 ≠ 57 by decide), sw_up_ne (show 41 ≠ 57 by decide), sw_up_ne (show 41 ≠ 57 by decide), sw_up_ne (show 41 ≠ 57 by decide), sw_up_ne (show 42 ≠ 57 by decide), sw_up_ne (show 42 ≠ 57 by decide), sw_up_ne (show 42 ≠ 57 by decide)]
theorem sw_mbM {τ : sw_St} {S : sw_Sw} {N a : Nat} (hN : N ≤ 8) (ha : a < 4 * N) (hS : ∀ k : Nat, k < N → sw_M6 τ k = S k) : fX10_mayBe (nI (a / 4)) (nI (a % 4)) τ = some (if sw_my S a = true then 1 else 0, τ) := by
  rw [sw_mayBe (by omega) (by omega), ← sw_my_congr (hS (a / 4) (by omega))]
  rfl
theorem sw_lf {σ : sw_St} {N L la F R : Nat} (hC : sw_Cn σ N L la F R) {m : Int32} {a : Nat} (ha : a < 4 * N) (hm : sw_my (sw_X6 σ 5) a = true) {τa : sw_St} (hSa : ∀ k : Nat, k < N → sw_M6 τa k = sw_ac (sw_X6 σ 5) a k) (h38 : τa 38 = σ 38) (h39 : τa 39 = σ 39) : ∀ (n b : Nat) (ρ : sw_St) (r : Option (Nat × Nat × Nat)), b ≤ 4 * N → 4 * N - b < n → sw_FrZ σ ρ → ρ 40 = τa 40 → ρ 41 = τa 41 → ρ 42 = τa 42 → (∀ j : Nat, j < 3 → ρ 57 j = τa 57 j) → sw_rM r ρ → sw_best (sw_gt σ N L la m) (sw_M2 (4 * N) a b) r → ∃ (ρ' : sw_St) (r' : Option (Nat × Nat × Nat)), fX10_lookFurther_L3 n m (nI (a / 4)) (nI (a % 4)) (nI b) ρ = some ((), ρ') ∧ sw_FrZ σ ρ' ∧ ρ' 40 = τa 40 ∧ ρ' 41 = τa 41 ∧ ρ' 42 = τa 42 ∧ (∀ j : Nat, j < 3 → ρ' 57 j = τa 57 j) ∧ sw_rM r' ρ' ∧ sw_best (sw_gt σ N L la m) (sw_M2 (4 * N) a (4 * N)) r' := by
  have hN := hC.2.1.2.1
  have hv := sw_ac_ok (sw_rel_saw hC.1 hC.2.1.2.2 hN).2.1 hm
  intro n
  induction n with
  | zero => intro b ρ r _ h; omega
  | succ n ih =>
    intro b ρ r hb hn hF e40 e41 e42 e57 hr hB
    have e1 : (4 : Int32) * ρ 37 1 = nI (4 * N) := by
      rw [hF.2 1 (by decide), hC.1.1.1, hC.2.1.2.2]; exact pk_mul 4 N
    have hS : ∀ k : Nat, k < N → sw_M6 ρ k = sw_ac (sw_X6 σ 5) a k := fun k hk => by
      rw [← hSa k hk]
      unfold sw_M6
      rw [e40, e41, e42, h38, h39, hF.1 38 (by decide) (by decide) (by decide) (by decide) (by decide) (by decide) (by decide) (by decide) (by decide), hF.1 39 (by decide) (by decide) (by decide) (by decide) (by decide) (by decide) (by decide) (by decide) (by decide)]
    rw [fX10_lookFurther_L3, e1]
    by_cases c : b = 4 * N
    · subst c
      rw [if_pos (nI_le (Nat.le_refl _) (by omega))]
      exact ⟨ρ, r, rfl, hF, e40, e41, e42, e57, hr, hB⟩
    · have lt : b < 4 * N := by omega
      have nx := sw_best_m (Q' := sw_M2 (4 * N) a (b + 1)) (d := (2, a, b)) hB (fun c => by
        unfold sw_M2
        constructor
        · rintro (q | q | ⟨b', h1, h3⟩)
          · exact Or.inl (Or.inl q)
          · exact Or.inl (Or.inr (Or.inl q))
          · by_cases z : b' = b
            · subst z; exact Or.inr h3
            · exact Or.inl (Or.inr (Or.inr ⟨b', by omega, h3⟩))
        · rintro ((q | q | ⟨b', h1, h3⟩) | q)
          · exact Or.inl q
          · exact Or.inr (Or.inl q)
          · exact Or.inr (Or.inr ⟨b', by omega, h3⟩)
          · exact Or.inr (Or.inr ⟨b, by omega, q⟩)) ⟨by show 2 ≤ 2; decide, by show a < 32; omega, by show b < 32; omega⟩ (fun c hc hl => by
        clear ih hB hr hF
        rcases hc with (q | ⟨a', h1, q⟩ | ⟨a', b', h1, h2, q⟩) | q | ⟨b', h1, q⟩
        · rw [q] at hl; exact absurd hl (show ¬ (0 : Nat) = 2 by decide)
        · rw [q] at hl; exact absurd hl (show ¬ (1 : Nat) = 2 by decide)
        · rw [q]; exact sw_po_a h1 (by omega)
        · rw [q] at hl; exact absurd hl (show ¬ (1 : Nat) = 2 by decide)
        · rw [q]; exact sw_po_b' h1)
      have gd : sw_gt σ N L la m (2, a, b) = (sw_my (sw_X6 σ 5) a && (sw_my (sw_ac (sw_X6 σ 5) a) b && sw_gS σ N L la m (sw_ac (sw_ac (sw_X6 σ 5) a) b))) := rfl
      rw [gd, hm, Bool.true_and] at nx
      rw [if_neg (nI_ge lt (by omega)), sw_le, sw_le, sw_m4 (by omega), sw_d4 (by omega), sw_mbM hN lt hS, sw_bs]
      by_cases q2 : sw_my (sw_ac (sw_X6 σ 5) a) b = true
      · generalize hρ1 : sw_actm (sw_up (sw_up (sw_up ρ 57 3 (ρ 40 (b / 4))) 57 (3 + 1) (ρ 41 (b / 4))) 57 (3 + 2) (ρ 42 (b / 4))) (b % 4) (b / 4) = ρ1
        have F1 : sw_FrZ σ ρ1 := by rw [← hρ1]; exact sw_FrZ_try hF
        have S1 : ∀ k : Nat, k < N → sw_M6 ρ1 k = sw_ac (sw_ac (sw_X6 σ 5) a) b k := fun k hk => by
          rw [← hρ1, sw_M6_act, sw_M6_57]
          exact sw_ac_congr hS k hk
        have r1 : sw_rM r ρ1 := sw_rM_k hr (fun k _ _ => by rw [← hρ1, sw_actm_ne (by decide) (by decide) (by decide), sw_up_ne (by decide), sw_up_ne (by decide), sw_up_ne (by decide)])
        obtain ⟨ρ2, g1, g2, g3⟩ := sw_lookM hC (m := m) F1 S1 (sw_ac_ok hv q2) r1 (d := (2, a, b)) ⟨by show 2 ≤ 2; decide, by show a < 32; omega, by show b < 32; omega⟩ (sw_best_bd hB)
        have k57 : ∀ j : Nat, ρ2 57 j = ρ1 57 j := fun j => by rw [g2.1 57 (by decide) (by decide) (by decide)]
        obtain ⟨ρ3, p1, p2, p3, p4, p5⟩ := sw_tryM (τ := ρ) (ρ := ρ1) (ρ2 := ρ2) (a := b) (s := 3) (by decide) (by omega) hρ1.symm (g2.1 40 (by decide) (by decide) (by decide)) (g2.1 41 (by decide) (by decide) (by decide)) (g2.1 42 (by decide) (by decide) (by decide)) (fun j _ _ => k57 j)
        have g1' : fX10_look m (nI (sw_ca a) + nI (sw_ca b)) 2 (sw_told a) (sw_told b) ρ1 = some ((), ρ2) := by rw [nI_add]; exact g1
        rw [if_pos q2, if_neg (by decide), show (3 : Int32) = nI 3 from rfl, sw_keepM (by omega) (by decide), sw_bs, sw_doAct (by omega) (by omega), sw_bs, hρ1, sw_cstM, sw_bs, sw_cstM, sw_bs, sw_tldM, sw_tldM, g1', sw_bs, p1, sw_bs, fX10_lookFurther_B89, nI_1]
        refine ih (b + 1) ρ3 _ (by omega) (by omega) (sw_FrZ_back (sw_FrZ_L F1 g2) p5) (p2.trans e40) (p3.trans e41) (p4.trans e42) (fun j hj => ?_) (sw_rM_k g3 (fun k _ _ => by rw [p5 37 (by decide) (by decide) (by decide)])) ?_
        · rw [p5 57 (by decide) (by decide) (by decide), k57 j, ← hρ1, sw_actm_ne (by decide) (by decide) (by decide), sw_up_eq, sw_un (by omega), sw_up_eq, sw_un (by omega), sw_up_eq, sw_un (by omega)]
          exact e57 j hj
        · rw [q2, Bool.true_and] at nx
          exact nx
      · rw [if_neg q2, if_pos rfl, fX10_lookFurther_B89, nI_1]
        refine ih (b + 1) ρ r (by omega) (by omega) hF e40 e41 e42 e57 hr ?_
        rw [if_neg (fun z => q2 (by have := z.1; rw [Bool.and_eq_true] at this; exact this.1))] at nx
        exact nx
