/-! One tooth, then sim_saw. -/
theorem sw_NXall {k N i n b : Nat} {cd : Nat → Int32} {σ ρ0 : sw_St} (hx : sw_cx k N i n b cd σ ρ0) : ∀ (D Q m' : Nat), Q + D = 7 → D < m' → sw_NX k i n b σ ρ0 Q m' := by
  obtain ⟨hk, hN, h1, h2, hin, hcd, hb, hc⟩ := id hx
  intro D
  induction D using Nat.strongRecOn with
  | ind D ih =>
  intro Q m' hQD hDm τ ρ m P hF hG h9 h8 hd h7 hP hm
  obtain ⟨m', rfl⟩ : ∃ m1, m' = m1 + 1 := ⟨m' - 1, by omega⟩
  obtain ⟨m, rfl⟩ : ∃ m1, m = m1 + 1 := ⟨m - 1, by omega⟩
  have nx : Q + 1 < 8 → sw_NX k i n b σ ρ0 (Q + 1) m' := fun h => ih (D - 1) (by omega) (Q + 1) m' (by omega) (by omega)
  rw [fX10_readsSaw_B69, h7]
  by_cases e : P = n
  · subst e
    rw [sw_send (by omega), if_neg (by decide), if_neg (by decide), if_pos (nI_le (Nat.le_refl _) (by omega)), fX10_readsSaw_B96, if_pos rfl]
    exact sw_jt_fail (by omega) rfl rfl hF hG h7
  · have lt : P < n := by omega
    have tooth : ∀ kd sd : Int32, ((kd = 0 ∧ sd = 0) ∨ (kd = 1 ∧ (sd = -1 ∨ sd = 1))) → sw_jt σ ρ0 (fX6_read_L11 9 m (nI k) (nI i) (nI n) 1 (nI (P + 1)) (sw_up (sw_up (sw_up τ 10 Q kd) 11 Q sd) 9 0 (nI (Q + 1)))) (fX10_readsSaw_B96 (fX10_readsSaw_L10 (m' + 1)) (nI b) (nI n) sd ρ) := by
      intro kd sd hks
      have ns : ¬ sd = -9 := by rcases hks with ⟨-, rfl⟩ | ⟨-, rfl | rfl⟩ <;> decide
      have hb' := sw_fuel_big
      rw [fX10_readsSaw_B96, if_neg ns, sw_le, h7, nI_1, fX10_readsFigures, sw_up_eq, sw_un (by decide), h8]
      refine sw_sdig (x := 0) (d := 3) (P0 := P + 1) (q := Q) (kd := kd) (sd := sd) hx (by omega) (fun ρ => by rw [if_pos rfl]) ?_ _ _ _ _ (by omega) (by omega) ?_ (sw_FrS_up7 hG) ?_ ?_ ?_ ?_ ?_ (fun y hy => by omega) ?_ (by omega) (by omega)
      · -- after the figures
        clear τ ρ h7 h8 h9 hF hG hd m hm ih
        intro τ ρ m hF hG h9 h8 hd h10 h11 hy h7 hP' hm
        rw [if_neg (show ¬ (1 : Int32) = 0 by decide)]
        have okQ := sw_ok_nI (show Q < 8 by omega) (by decide)
        have fin : ∀ (kd' v : Int32) (τ' : sw_St) (x m1 : Nat), (v = 4 ∨ v = 5) → sw_FrA σ τ' → τ' 9 0 = nI (Q + 1) → (∀ j : Nat, j < Q → τ' 10 j = τ 10 j) → τ' 11 = τ 11 → τ' 12 = τ 12 → τ' 10 Q = kd' → ((kd' = 0 ∧ sd = 0) ∨ ((kd' = 1 ∨ kd' = 2) ∧ (sd = -1 ∨ sd = 1))) → x ≤ n → n - x < m1 → (x < n → cd x = 104 → v = 4 → ¬ kd' = 1) → sw_jt σ ρ0 (fX6_read_L11 9 m1 (nI k) (nI i) (nI n) v (nI x) τ') (fX10_readsSaw_L10 (m' + 1) (nI b) (nI n) (sw_up (sw_up (sw_up (sw_up ρ 37 7 (nI x)) 44 Q sd) 43 Q kd') 37 8 (nI (Q + 1)))) := by
          intro kd' v τ' x m1 hv hF' h9' e10 e11 e12 eQ hks' hx' hm1 hh
          refine sw_stail hx (Q := Q + 1) (by omega) (by omega) nx hv hF' ⟨fun c a1 a2 a3 a4 => ?_, fun k a1 a2 => ?_⟩ h9' ?_ ?_ ?_ hx' hm1 (by rw [Nat.add_sub_cancel, eQ]; exact hh)
          · rw [sw_up_ne a1, sw_up_ne a2, sw_up_ne a3, sw_up_ne a1]; exact hG.1 c a1 a2 a3 a4
          · rw [sw_up_eq, sw_un a2, sw_up_ne (by decide), sw_up_ne (by decide), sw_up_eq, sw_un a1]; exact hG.2 k a1 a2
          · rw [sw_up_eq, sw_ue]
          · intro j hj
            have q43 : (sw_up (sw_up (sw_up (sw_up ρ 37 7 (nI x)) 44 Q sd) 43 Q kd') 37 8 (nI (Q + 1))) 43 = upd (ρ 43) Q kd' := by rw [sw_up_ne (by decide), sw_up_eq, sw_up_ne (by decide), sw_up_ne (by decide)]
            have q44 : (sw_up (sw_up (sw_up (sw_up ρ 37 7 (nI x)) 44 Q sd) 43 Q kd') 37 8 (nI (Q + 1))) 44 = upd (ρ 44) Q sd := by rw [sw_up_ne (by decide), sw_up_ne (by decide), sw_up_eq, sw_up_ne (by decide)]
            have q45 : (sw_up (sw_up (sw_up (sw_up ρ 37 7 (nI x)) 44 Q sd) 43 Q kd') 37 8 (nI (Q + 1))) 45 = ρ 45 := by rw [sw_up_ne (by decide), sw_up_ne (by decide), sw_up_ne (by decide), sw_up_ne (by decide)]
            unfold sw_tt1
            rw [q43, q44, q45, e11, e12]
            by_cases z : j = Q
            · subst z
              rw [sw_ue, sw_ue, eQ, h11]
              exact ⟨rfl, rfl, (hy 0 (by omega)).1, (hy 1 (by omega)).1, (hy 2 (by omega)).1, hks', (hy 0 (by omega)).2, (hy 1 (by omega)).2, (hy 2 (by omega)).2⟩
            · rw [sw_un z, sw_un z, e10 j (by omega)]
              exact hd j (by omega)
          · rw [sw_up_eq, sw_un (by decide), sw_up_ne (by decide), sw_up_ne (by decide), sw_up_eq, sw_ue]
        have B180 : ∀ (x : Nat) (h h1 : Int32), nI (P + 1 + 3) + h1 = nI x → fX10_readsSaw_B180 (fX10_readsSaw_L10 (m' + 1)) (nI b) (nI n) sd h h1 (nI (P + 1 + 3)) ρ = fX10_readsSaw_L10 (m' + 1) (nI b) (nI n) (sw_up (sw_up (sw_up (sw_up ρ 37 7 (nI x)) 44 Q sd) 43 Q (if sd = 0 then 0 else if h = 0 then 1 else 2)) 37 8 (nI (Q + 1))) := by
          intro x h h1 ex
          have r1 : (sw_up ρ 37 7 (nI x)) 37 8 = nI Q := by rw [sw_up_eq, sw_un (by decide), h8]
          have r2 : (sw_up (sw_up ρ 37 7 (nI x)) 44 Q sd) 37 8 = nI Q := by rw [sw_up_ne (by decide)]; exact r1
          have r3 : ∀ w : Int32, (sw_up (sw_up (sw_up ρ 37 7 (nI x)) 44 Q sd) 43 Q w) 37 8 = nI Q := fun w => by rw [sw_up_ne (by decide)]; exact r2
          have r4 : ∀ w : Int32, fX10_readsSaw_B220 (fX10_readsSaw_L10 (m' + 1)) (nI b) (nI n) w (nI Q) (sw_up (sw_up ρ 37 7 (nI x)) 44 Q sd) = fX10_readsSaw_L10 (m' + 1) (nI b) (nI n) (sw_up (sw_up (sw_up (sw_up ρ 37 7 (nI x)) 44 Q sd) 43 Q w) 37 8 (nI (Q + 1))) := fun w => by
            rw [fX10_readsSaw_B220, if_pos okQ, sw_le, sw_le, nI_clamp (by omega), r3, nI_1]
          rw [fX10_readsSaw_B180, ex, sw_le, r1, if_pos okQ, sw_le, nI_clamp (by omega), r2, r4, r4, r4]
          by_cases z : sd = 0
          · rw [if_pos z, if_pos z]
          · rw [if_neg z, if_neg z]
            by_cases y : h = 0
            · rw [if_pos y, if_pos y]
            · rw [if_neg y, if_neg y]
        have B162 : fX10_readsSaw_B162 (fX10_readsSaw_L10 (m' + 1)) (nI b) (nI n) sd ρ = fX10_readsSaw_L10 (m' + 1) (nI b) (nI n) (sw_up (sw_up (sw_up (sw_up ρ 37 7 (nI (P + 1 + 3))) 44 Q sd) 43 Q kd) 37 8 (nI (Q + 1))) := by
          rw [fX10_readsSaw_B162, fX10_readsSaw_B163, if_pos rfl, h7, B180 (P + 1 + 3) 0 0 (Int32.add_zero _)]
          rcases hks with ⟨rfl, rfl⟩ | ⟨rfl, rfl | rfl⟩ <;> rfl
        have hks2 : ((kd = 0 ∧ sd = 0) ∨ ((kd = 1 ∨ kd = 2) ∧ (sd = -1 ∨ sd = 1))) := by
          rcases hks with z | ⟨z1, z2⟩
          · exact Or.inl z
          · exact Or.inr ⟨Or.inl z1, z2⟩
        rw [h7, B162]
        by_cases s0 : sd = 0
        · have k0 : ¬ kd = 1 := by
            rcases hks with ⟨rfl, _⟩ | ⟨_, z⟩
            · decide
            · rw [s0] at z; exact absurd z (by decide)
          rw [if_pos s0]
          exact fin kd 4 τ _ m (Or.inl rfl) hF h9 (fun _ _ => rfl) rfl rfl h10 hks2 hP' hm (fun _ _ _ => k0)
        · have k1 : kd = 1 := by
            rcases hks with ⟨_, z⟩ | ⟨z, _⟩
            · exact absurd z s0
            · exact z
          have s1 : sd = -1 ∨ sd = 1 := by
            rcases hks with ⟨_, z⟩ | ⟨_, z⟩
            · exact absurd z s0
            · exact z
          rw [if_neg s0]
          by_cases e4 : P + 1 + 3 = n
          · rw [if_pos (nI_le (by omega) (by omega))]
            exact fin kd 4 τ _ m (Or.inl rfl) hF h9 (fun _ _ => rfl) rfl rfl h10 hks2 hP' hm (fun z => by omega)
          · have lt4 : P + 1 + 3 < n := by omega
            rw [if_neg (nI_ge lt4 (by omega)), nI_add, if_pos (sw_ok_nI (show b + (P + 1 + 3) < 320 by omega) (by decide)), nI_clamp (by omega), hG.1 61 (by decide) (by decide) (by decide) (by decide), hc _ lt4]
            by_cases ch : cd (P + 1 + 3) = 104
            · obtain ⟨m, rfl⟩ : ∃ m1, m = m1 + 1 := ⟨m - 1, by omega⟩
              rw [if_pos ch, fX10_readsSaw_B163, if_neg (show ¬ (1 : Int32) = 0 by decide), h7, B180 (P + 1 + 3 + 1) 1 1 (nI_1 _), if_neg s0, if_neg (show ¬ (1 : Int32) = 0 by decide), sw_sst hx hF lt4, ch, fX6_readCode, if_neg (show ¬ (4 : Int32) = 0 by decide), if_pos (show (3 : Int32) < 4 by decide), if_neg (show ¬ (104 : Int32) = 59 by decide), if_pos (show (104 : Int32) = 104 from rfl), if_pos (show (4 : Int32) = 4 from rfl), h9, sw_pr, sw_kindOf (N := Q + 1) (by omega) h9 (by omega), sw_bs, if_pos (show τ (9 + 1) Q = 1 from h10.trans k1), h9, sw_pr, if_pos okQ, sw_le, sw_bs, if_neg (show ¬ (5 : Int32) = -1 by decide), nI_clamp (show Q < 2 ^ 31 by omega)]
              refine fin 2 5 _ _ m (Or.inr rfl) (fun c a1 a2 a3 a4 => ?_) ?_ (fun j hj => ?_) ?_ ?_ ?_ (Or.inr ⟨Or.inr rfl, s1⟩) (by omega) (by omega) (fun _ _ z => absurd z (by decide))
              · rw [sw_up_ne a2]; exact hF c a1 a2 a3 a4
              · rw [sw_up_ne (by decide)]; exact h9
              · rw [sw_up_eq, sw_un (by omega)]
              · rw [sw_up_ne (by decide)]
              · rw [sw_up_ne (by decide)]
              · rw [sw_up_eq, sw_ue]
            · rw [if_neg ch]
              exact fin kd 4 τ _ m (Or.inl rfl) hF h9 (fun _ _ => rfl) rfl rfl h10 hks2 hP' hm (fun _ z => absurd z ch)
      · intro c a1 a2 a3 a4
        rw [sw_up_ne a1, sw_up_ne a3, sw_up_ne a2]
        exact hF c a1 a2 a3 a4
      · rw [sw_up_eq, sw_ue]
      · rw [sw_up_eq, sw_un (by decide)]; exact h8
      · refine sw_td_up hd (fun j hj => by rw [sw_up_ne (by decide), sw_up_ne (by decide), sw_up_eq, sw_un (by omega)]) (fun j hj => by rw [sw_up_ne (by decide), sw_up_eq, sw_un (by omega), sw_up_ne (by decide)]) (fun j hj => by rw [sw_up_ne (by decide), sw_up_ne (by decide), sw_up_ne (by decide)]) (fun _ _ => by rw [sw_up_ne (by decide)]) (fun _ _ => by rw [sw_up_ne (by decide)]) (fun _ _ => by rw [sw_up_ne (by decide)])
      · rw [sw_up_ne (by decide), sw_up_ne (by decide), sw_up_eq, sw_ue]
      · rw [sw_up_ne (by decide), sw_up_eq, sw_ue]
      · rw [sw_up_eq, sw_ue]
    have okQ := sw_ok_nI (show Q < 8 by omega) (by decide)
    have n10 : ∀ v : Int32, (sw_up τ (9 + 1) Q v) 9 0 = nI Q := fun v => by rw [sw_up_ne (by decide)]; exact h9
    have n11 : ∀ v w : Int32, (sw_up (sw_up τ (9 + 1) Q v) (9 + 2) Q w) 9 0 = nI Q := fun v w => by rw [sw_up_ne (by decide)]; exact n10 v
    rw [sw_sst hx hF lt, if_neg (nI_ge lt (by omega)), nI_add, if_pos (sw_ok_nI (show b + P < 320 by omega) (by decide)), nI_clamp (by omega), hG.1 61 (by decide) (by decide) (by decide) (by decide), hc _ lt, fX6_readCode, if_pos rfl, fX6_beginTooth, h9, if_neg (show ¬ (8 : Int32) ≤ nI Q from nI_ge (b := 8) (by omega) (by decide)), fX10_sideBy]
    by_cases c1 : cd P = 108
    · rw [if_pos c1, if_pos c1, fX6_beginTooth_B29, c1, if_neg (by decide), fX6_beginTooth_B48, h9, if_pos okQ, sw_le, if_pos rfl, nI_clamp (by omega), n10, fX6_beginTooth_B78, if_pos okQ, sw_le, sw_le, nI_clamp (by omega), n11, nI_1, sw_bs, if_neg (by decide), sw_bs, if_neg (by decide), sw_bs]
      exact tooth 1 (-1) (Or.inr ⟨rfl, Or.inl rfl⟩)
    · rw [if_neg c1, if_neg c1]
      by_cases c2 : cd P = 99
      · rw [if_pos c2, if_pos c2, fX6_beginTooth_B29, c2, if_pos rfl, fX6_beginTooth_B48, h9, if_pos okQ, sw_le, if_neg (by decide), if_neg (by decide), nI_clamp (by omega), n10, fX6_beginTooth_B78, if_pos okQ, sw_le, sw_le, nI_clamp (by omega), n11, nI_1, sw_bs, if_neg (by decide), sw_bs, if_neg (by decide), sw_bs]
        exact tooth 0 0 (Or.inl ⟨rfl, rfl⟩)
      · rw [if_neg c2, if_neg c2]
        by_cases c3 : cd P = 114
        · rw [if_pos c3, if_pos c3, fX6_beginTooth_B29, c3, if_neg (by decide), fX6_beginTooth_B48, h9, if_pos okQ, sw_le, if_neg (by decide), if_pos rfl, nI_clamp (by omega), n10, fX6_beginTooth_B78, if_pos okQ, sw_le, sw_le, nI_clamp (by omega), n11, nI_1, sw_bs, if_neg (by decide), sw_bs, if_neg (by decide), sw_bs]
          exact tooth 1 1 (Or.inr ⟨rfl, Or.inr rfl⟩)
        · rw [if_neg c3, if_neg c3, sw_bs, if_pos rfl, sw_bs, if_pos rfl, sw_bs, fX10_readsSaw_B96, if_pos rfl]
          exact sw_jt_fail (by omega) rfl rfl hF hG h7
