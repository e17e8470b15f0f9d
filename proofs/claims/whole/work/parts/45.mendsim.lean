theorem sw_lm {σ : sw_St} {N L la F R : Nat} (hC : sw_Cn σ N L la F R) {m : Int32} : ∀ (n a : Nat) (τ : sw_St) (r : Option (Nat × Nat × Nat)), a ≤ 4 * N → 4 * N - a < n → sw_ZS σ τ → sw_rM r τ → sw_best (sw_gt σ N L la m) (sw_M1 (4 * N) a) r → ∃ (τ' : sw_St) (r' : Option (Nat × Nat × Nat)), fX10_layMend_L36 n m (nI a) τ = some ((), τ') ∧ sw_ZS σ τ' ∧ sw_rM r' τ' ∧ sw_best (sw_gt σ N L la m) (sw_M1 (4 * N) (4 * N)) r' := by
  have hN := hC.2.1.2.1
  have hv := (sw_rel_saw hC.1 hC.2.1.2.2 hN).2.1
  have hfb := sw_fuel_big
  intro n
  induction n with
  | zero => intro a τ r _ h; omega
  | succ n ih =>
    intro a τ r ha hn hZ hr hB
    have hF := hZ.1
    have e1 : (4 : Int32) * τ 37 1 = nI (4 * N) := by
      rw [hF.2 1 (by decide), hC.1.1.1, hC.2.1.2.2]; exact pk_mul 4 N
    have hS := sw_ZS_S hC hZ
    rw [fX10_layMend_L36, e1]
    by_cases c : a = 4 * N
    · subst c
      rw [if_pos (nI_le (Nat.le_refl _) (by omega))]
      exact ⟨τ, r, rfl, hZ, hr, hB⟩
    · have lt : a < 4 * N := by omega
      have bd1 : sw_bd (1, a, 0) := ⟨by show 1 ≤ 2; decide, by show a < 32; omega, by show 0 < 32; decide⟩
      rw [if_neg (nI_ge lt (by omega)), sw_le, sw_le, sw_m4 (by omega), sw_d4 (by omega), sw_mbM hN lt hS, sw_bs]
      by_cases q2 : sw_my (sw_X6 σ 5) a = true
      · have nx := sw_best_m (Q' := sw_M2 (4 * N) a 0) (d := (1, a, 0)) hB (fun c => by
          unfold sw_M2
          constructor
          · rintro (q | q | ⟨b', h1, h3⟩)
            · exact Or.inl q
            · exact Or.inr q
            · omega
          · rintro (q | q)
            · exact Or.inl q
            · exact Or.inr (Or.inl q)) bd1 (fun c hc hl => by
          clear ih hB hr hF
          rcases hc with q | ⟨a', h1, q⟩ | ⟨a', b', h1, h2, q⟩
          · rw [q] at hl; exact absurd hl (show ¬ (0 : Nat) = 1 by decide)
          · rw [q]; exact sw_po_a h1 (by decide)
          · rw [q] at hl; exact absurd hl (show ¬ (2 : Nat) = 1 by decide))
        have gd : sw_gt σ N L la m (1, a, 0) = (sw_my (sw_X6 σ 5) a && sw_gS σ N L la m (sw_ac (sw_X6 σ 5) a)) := rfl
        rw [gd, q2, Bool.true_and] at nx
        have kp := sw_keepM (k := a / 4) (s := 0) (τ := τ) (by omega) (by decide)
        rw [nI_0] at kp
        generalize hρ1 : sw_actm (sw_up (sw_up (sw_up τ 57 0 (τ 40 (a / 4))) 57 (0 + 1) (τ 41 (a / 4))) 57 (0 + 2) (τ 42 (a / 4))) (a % 4) (a / 4) = ρ1
        have F1 : sw_FrZ σ ρ1 := by rw [← hρ1]; exact sw_FrZ_try hF
        have S1 : ∀ k : Nat, k < N → sw_M6 ρ1 k = sw_ac (sw_X6 σ 5) a k := fun k hk => by
          rw [← hρ1, sw_M6_act, sw_M6_57]
          exact sw_ac_congr hS k hk
        have r1 : sw_rM r ρ1 := sw_rM_k hr (fun k _ _ => by rw [← hρ1, sw_actm_ne (by decide) (by decide) (by decide), sw_up_ne (by decide), sw_up_ne (by decide), sw_up_ne (by decide)])
        obtain ⟨ρ2, g1, g2, g3⟩ := sw_lookM hC (m := m) F1 S1 (sw_ac_ok hv q2) r1 (d := (1, a, 0)) bd1 (sw_best_bd hB)
        have F2 := sw_FrZ_L F1 g2
        have k2 : ∀ c : Nat, c ≠ 37 → c ≠ 49 → c ≠ 50 → ρ2 c = ρ1 c := g2.1
        have S2 : ∀ k : Nat, k < N → sw_M6 ρ2 k = sw_ac (sw_X6 σ 5) a k := fun k hk => by
          rw [← S1 k hk]
          unfold sw_M6
          rw [k2 38 (by decide) (by decide) (by decide), k2 39 (by decide) (by decide) (by decide), k2 40 (by decide) (by decide) (by decide), k2 41 (by decide) (by decide) (by decide), k2 42 (by decide) (by decide) (by decide)]
        obtain ⟨ρ3, r3, l1, l2, l3, l4, l5, l6, l7, l8⟩ := sw_lf hC (m := m) lt q2 (τa := ρ2) S2 (F2.1 38 (by decide) (by decide) (by decide) (by decide) (by decide) (by decide) (by decide) (by decide) (by decide)) (F2.1 39 (by decide) (by decide) (by decide) (by decide) (by decide) (by decide) (by decide) (by decide) (by decide)) sw_fuel 0 ρ2 _ (Nat.zero_le _) (by omega) F2 rfl rfl rfl (fun _ _ => rfl) g3 nx
        obtain ⟨ρ4, p1, p2, p3, p4, p5⟩ := sw_tryM (τ := τ) (ρ := ρ1) (ρ2 := ρ3) (a := a) (s := 0) (by decide) (by omega) hρ1.symm (l3.trans (k2 40 (by decide) (by decide) (by decide))) (l4.trans (k2 41 (by decide) (by decide) (by decide))) (l5.trans (k2 42 (by decide) (by decide) (by decide))) (fun j _ h => (l6 j (by omega)).trans (by rw [k2 57 (by decide) (by decide) (by decide)]))
        have g1' : fX10_look m (nI (sw_ca a)) 1 (sw_told a) (-9) ρ1 = some ((), ρ2) := g1
        rw [nI_0] at l1 p1
        rw [if_pos q2, if_neg (by decide), kp, sw_bs, sw_doAct (by omega) (by omega), sw_bs, hρ1, sw_cstM, sw_bs, sw_tldM, g1', sw_bs, fX10_lookFurther, l1, sw_bs, p1, sw_bs, fX10_layMend_B112, nI_1]
        refine ih (a + 1) ρ4 r3 (by omega) (by omega) ⟨sw_FrZ_back l2 p5, p2.trans hZ.2.1, p3.trans hZ.2.2.1, p4.trans hZ.2.2.2⟩ (sw_rM_k l7 (fun k _ _ => by rw [p5 37 (by decide) (by decide) (by decide)])) (sw_best_ext l8 (fun c hc => ?_) (fun c hc => ?_))
        · rcases hc with (q | ⟨a', h1, q⟩ | ⟨a', b', h1, h2, q⟩) | q | ⟨b', h1, q⟩
          · exact Or.inl q
          · exact Or.inr (Or.inl ⟨a', by omega, q⟩)
          · exact Or.inr (Or.inr ⟨a', b', by omega, h2, q⟩)
          · exact Or.inr (Or.inl ⟨a, by omega, q⟩)
          · exact Or.inr (Or.inr ⟨a, b', by omega, h1, q⟩)
        · left
          rcases hc with q | ⟨a', h1, q⟩ | ⟨a', b', h1, h2, q⟩
          · exact Or.inl (Or.inl q)
          · by_cases z : a' = a
            · subst z; exact Or.inr (Or.inl q)
            · exact Or.inl (Or.inr (Or.inl ⟨a', by omega, q⟩))
          · by_cases z : a' = a
            · subst z; exact Or.inr (Or.inr ⟨b', h2, q⟩)
            · exact Or.inl (Or.inr (Or.inr ⟨a', b', by omega, h2, q⟩))
      · rw [if_neg q2, if_pos rfl, fX10_layMend_B112, nI_1]
        refine ih (a + 1) τ r (by omega) (by omega) hZ hr (sw_best_ext hB (fun c hc => ?_) (fun c hc => ?_))
        · rcases hc with q | ⟨a', h1, q⟩ | ⟨a', b', h1, h2, q⟩
          · exact Or.inl q
          · exact Or.inr (Or.inl ⟨a', by omega, q⟩)
          · exact Or.inr (Or.inr ⟨a', b', by omega, h2, q⟩)
        · rcases hc with q | ⟨a', h1, q⟩ | ⟨a', b', h1, h2, q⟩
          · exact Or.inl (Or.inl q)
          · by_cases z : a' = a
            · subst z
              right
              rw [q]
              show ¬ (sw_my (sw_X6 σ 5) a' && _) = true
              rw [Bool.and_eq_true]
              exact fun y => q2 y.1
            · exact Or.inl (Or.inr (Or.inl ⟨a', by omega, q⟩))
          · by_cases z : a' = a
            · subst z
              right
              rw [q]
              show ¬ (sw_my (sw_X6 σ 5) a' && _) = true
              rw [Bool.and_eq_true]
              exact fun y => q2 y.1
            · exact Or.inl (Or.inr (Or.inr ⟨a', b', by omega, h2, q⟩))
theorem sw_layM {σ : sw_St} {N L la F R : Nat} (hC : sw_Cn σ N L la F R) {m : Int32} {τ : sw_St} (hZ : sw_ZS σ τ) : ∃ (τ' : sw_St) (r' : Option (Nat × Nat × Nat)), fX10_layMend m τ = some ((), τ') ∧ sw_ZS σ τ' ∧ sw_rM r' τ' ∧ sw_best (sw_gt σ N L la m) (sw_M1 (4 * N) (4 * N)) r' := by
  have hN := hC.2.1.2.1
  have hv := (sw_rel_saw hC.1 hC.2.1.2.2 hN).2.1
  have hfb := sw_fuel_big
  have Z4 : sw_ZS σ (sw_up (sw_up (sw_up (sw_up τ 37 34 (-9)) 37 35 0) 37 36 (-9)) 37 37 (-9)) := sw_ZS_up (sw_ZS_up (sw_ZS_up (sw_ZS_up hZ (Or.inl ⟨rfl, by decide, by decide⟩)) (Or.inl ⟨rfl, by decide, by decide⟩)) (Or.inl ⟨rfl, by decide, by decide⟩)) (Or.inl ⟨rfl, by decide, by decide⟩)
  have R4 : sw_rM none (sw_up (sw_up (sw_up (sw_up τ 37 34 (-9)) 37 35 0) 37 36 (-9)) 37 37 (-9)) := by
    refine ⟨?_, fun z => absurd rfl z, ?_, ?_⟩
    · rw [sw_up_eq, sw_un (by decide), sw_up_eq, sw_un (by decide), sw_up_eq, sw_un (by decide), sw_up_eq, sw_ue]; rfl
    · rw [sw_up_eq, sw_un (by decide), sw_up_eq, sw_ue]; rfl
    · rw [sw_up_eq, sw_ue]; rfl
  generalize hρ : sw_up (sw_up (sw_up (sw_up τ 37 34 (-9)) 37 35 0) 37 36 (-9)) 37 37 (-9) = ρ at Z4 R4
  have bd0 : sw_bd (0, 0, 0) := ⟨by show 0 ≤ 2; decide, by show 0 < 32; decide, by show 0 < 32; decide⟩
  obtain ⟨ρ2, g1, g2, g3⟩ := sw_lookM hC (m := m) Z4.1 (sw_ZS_S hC Z4) hv R4 (d := (0, 0, 0)) bd0 (fun c h => by cases h)
  have B0 : sw_best (sw_gt σ N L la m) (fun _ => False) none := Or.inl ⟨rfl, fun c hc => hc.elim⟩
  have nx := sw_best_m (Q' := sw_M1 (4 * N) 0) (d := (0, 0, 0)) B0 (fun c => by
    unfold sw_M1
    constructor
    · rintro (q | ⟨a', h1, q⟩ | ⟨a', b', h1, h2, q⟩)
      · exact Or.inr q
      · omega
      · omega
    · rintro (q | q)
      · exact q.elim
      · exact Or.inl q) bd0 (fun c hc _ => hc.elim)
  have g1' : fX10_look m 0 0 (-9) (-9) ρ = some ((), ρ2) := g1
  have Z2 : sw_ZS σ ρ2 := ⟨sw_FrZ_L Z4.1 g2, (g2.1 40 (by decide) (by decide) (by decide)).trans Z4.2.1, (g2.1 41 (by decide) (by decide) (by decide)).trans Z4.2.2.1, (g2.1 42 (by decide) (by decide) (by decide)).trans Z4.2.2.2⟩
  obtain ⟨τ', r', h1, h2, h3, h4⟩ := sw_lm hC (m := m) sw_fuel 0 ρ2 _ (Nat.zero_le _) (by omega) Z2 g3 nx
  rw [nI_0] at h1
  exact ⟨τ', r', by rw [fX10_layMend, sw_le, sw_le, sw_le, sw_le, hρ, g1', sw_bs, h1], h2, h3, h4⟩
/-- the class's choice is the reference's -/
theorem sw_bestXM {σ : sw_St} {N L la F R : Nat} (hC : sw_Cn σ N L la F R) {m : Int32} {r r' : Option (Nat × Nat × Nat)} (h : sw_best (sw_gt σ N L la m) (fun c => c = (0, 0, 0) ∨ (¬ sw_gS σ N L la m (sw_X6 σ 5) = true ∧ sw_Q2 (4 * N) (4 * N) c)) r) (h' : sw_best (sw_gt σ N L la m) (sw_M1 (4 * N) (4 * N)) r') : r' = r := by
  have hN := hC.2.1.2.1
  refine sw_best_eq h' h (fun c hc => ?_) (fun c hc gc => ?_)
  · rcases hc with q | ⟨-, (q | ⟨a', h1, q⟩) | ⟨a', b', h1, h2, h3, q⟩⟩
    · exact Or.inl q
    · exact Or.inl q
    · exact Or.inr (Or.inl ⟨a', h1, q⟩)
    · exact Or.inr (Or.inr ⟨a', b', h1, h2, q⟩)
  · by_cases z : sw_gS σ N L la m (sw_X6 σ 5) = true
    · exact ⟨(0, 0, 0), Or.inl rfl, z, by rw [sw_ky0]; exact Nat.zero_le _⟩
    · rcases hc with q | ⟨a', h1, q⟩ | ⟨a', b', h1, h2, q⟩
      · rw [q] at gc; exact absurd gc z
      · exact ⟨c, Or.inr ⟨z, Or.inl (Or.inr ⟨a', h1, q⟩)⟩, gc, Nat.le_refl _⟩
      · by_cases w : a' - a' % 4 ≤ b'
        · exact ⟨c, Or.inr ⟨z, Or.inr ⟨a', b', h1, h2, w, q⟩⟩, gc, Nat.le_refl _⟩
        · have ne : b' / 4 ≠ a' / 4 := by omega
          rw [q] at gc
          have gc' : (sw_my (sw_X6 σ 5) a' && (sw_my (sw_ac (sw_X6 σ 5) a') b' && sw_gS σ N L la m (sw_ac (sw_ac (sw_X6 σ 5) a') b'))) = true := gc
          rw [Bool.and_eq_true, Bool.and_eq_true, sw_my_ne ne, sw_ac_comm ne] at gc'
          refine ⟨(2, b', a'), Or.inr ⟨z, Or.inr ⟨b', a', h2, h1, by omega, rfl⟩⟩, ?_, ?_⟩
          · show (sw_my (sw_X6 σ 5) b' && (sw_my (sw_ac (sw_X6 σ 5) b') a' && sw_gS σ N L la m (sw_ac (sw_ac (sw_X6 σ 5) b') a'))) = true
            rw [Bool.and_eq_true, Bool.and_eq_true, sw_my_ne (Ne.symm ne)]
            exact ⟨gc'.2.1, gc'.1, gc'.2.2⟩
          · rw [q]
            have e1 : sw_ky (2, b', a') = (sw_ca b' + sw_ca a') * 3072 + (2 * 1024 + b' * 32 + a') := rfl
            have e2 : sw_ky (2, a', b') = (sw_ca a' + sw_ca b') * 3072 + (2 * 1024 + a' * 32 + b') := rfl
            rw [e1, e2]
            omega
theorem sim_mend (a0 a1 : Int32) : sw_sim (fX9_mend a0 a1) (fX10_mend a0 a1) := by
  intro σ hR
  obtain ⟨N, L, la, F, R, ⟨hN, hn⟩, ⟨hL, hl⟩, ⟨hF6, hf⟩, hCC⟩ := sw_Cn_ex hR
  have hb := sw_fuel_big
  have m1 := sw_rel_m12 hR
  by_cases c : 0 ≤ a0 ∧ a0 ≤ 9999
  · by_cases c' : -2 ≤ a1 ∧ a1 ≤ 1
    · by_cases e : N = 0 ∨ L = 0
      · refine ⟨-3, σ, σ, ?_, ?_, hR⟩
        · rw [fX9_mend, sw_within, if_pos c, sw_bs, if_neg (by decide), sw_within, if_pos c', sw_bs, if_neg (by decide), sw_lacks hN hn hL hl, if_pos e, sw_bs, if_neg (by decide)]
        · rw [fX10_mend, sw_in32 (l := 0) (h := 9999) (l' := 0) (h' := 9999) rfl rfl, if_pos c, sw_bs, if_neg (by decide), sw_in32 (l := -2) (h := 1) (l' := -2) (h' := 1) rfl rfl, if_pos c', sw_bs, if_neg (by decide), sw_bare hN (by rw [m1.1]; exact hn) hL (by rw [m1.2]; exact hl), if_pos e, sw_bs, if_neg (by decide)]
      · have hC := hCC (by omega)
        obtain ⟨τ1, r, g1, g2, g3, g4⟩ := sw_seek hC a0
        obtain ⟨τ2, r', k1, k2, k3, k4⟩ := sw_layM hC (m := a0) (τ := τ1) ⟨sw_FrX_Z g2, g2 40 (by decide), g2 41 (by decide), g2 42 (by decide)⟩
        have er := sw_bestXM hC g4 k4
        subst er
        refine ⟨if a1 = -2 then sw_r0 r' else if a1 = -1 then sw_r1 r' else if a1 = 0 then sw_r2 r' else sw_r3r r', τ1, τ2, ?_, ?_, sw_Rel_Z k2.1 k2.2.1 k2.2.2.1 k2.2.2.2 hR⟩
        · rw [fX9_mend, sw_within, if_pos c, sw_bs, if_neg (by decide), sw_within, if_pos c', sw_bs, if_neg (by decide), sw_lacks hN hn hL hl, if_neg e, sw_bs, if_pos rfl, g1, sw_bs, g3.1, g3.2.1, g3.2.2.1, g3.2.2.2]
          by_cases z1 : a1 = -2
          · rw [if_pos z1, if_pos z1]
          · rw [if_neg z1, if_neg z1]
            by_cases z2 : a1 = -1
            · rw [if_pos z2, if_pos z2]
            · rw [if_neg z2, if_neg z2]
              by_cases z3 : a1 = 0
              · rw [if_pos z3, if_pos z3]
              · rw [if_neg z3, if_neg z3]
        · rw [fX10_mend, sw_in32 (l := 0) (h := 9999) (l' := 0) (h' := 9999) rfl rfl, if_pos c, sw_bs, if_neg (by decide), sw_in32 (l := -2) (h := 1) (l' := -2) (h' := 1) rfl rfl, if_pos c', sw_bs, if_neg (by decide), sw_bare hN (by rw [g2 37 (by decide), m1.1]; exact hn) hL (by rw [g2 37 (by decide), m1.2]; exact hl), if_neg e, sw_bs, if_pos rfl, k1, sw_bs, k3.1, k3.2.2.1, k3.2.2.2]
          cases r' with
          | none =>
            rw [if_neg (show ¬ (0 : Int32) ≤ sw_r1 none from (by decide : ¬ (0 : Int32) ≤ -9))]
            show some (-9, τ2) = some ((if a1 = -2 then -9 else if a1 = -1 then -9 else if a1 = 0 then -9 else -9), τ2)
            rw [ite_self, ite_self, ite_self]
          | some d =>
            have bd := sw_cc_b d
            rw [k3.2.1 (by simp), if_pos (show (0 : Int32) ≤ sw_r1 (some d) from nI_pos' (by omega))]
            by_cases z2 : a1 = -1
            · rw [if_pos z2, if_neg (by rw [z2]; decide), if_pos z2]
            · rw [if_neg z2]
              by_cases z1 : a1 = -2
              · rw [if_pos z1, if_pos z1]
              · rw [if_neg z1, if_neg z1, if_neg z2]
                by_cases z3 : a1 = 0
                · rw [if_pos z3, if_pos z3]
                · rw [if_neg z3, if_neg z3]
    · refine ⟨-1, σ, σ, ?_, ?_, hR⟩
      · rw [fX9_mend, sw_within, if_pos c, sw_bs, if_neg (by decide), sw_within, if_neg c', sw_bs, if_pos rfl]
      · rw [fX10_mend, sw_in32 (l := 0) (h := 9999) (l' := 0) (h' := 9999) rfl rfl, if_pos c, sw_bs, if_neg (by decide), sw_in32 (l := -2) (h := 1) (l' := -2) (h' := 1) rfl rfl, if_neg c', sw_bs, if_pos rfl]
  · refine ⟨-2, σ, σ, ?_, ?_, hR⟩
    · rw [fX9_mend, sw_within, if_neg c, sw_bs, if_pos rfl]
    · rw [fX10_mend, sw_in32 (l := 0) (h := 9999) (l' := 0) (h' := 9999) rfl rfl, if_neg c, sw_bs, if_pos rfl]
