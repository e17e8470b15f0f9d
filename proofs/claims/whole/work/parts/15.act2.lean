theorem sw_d9b : ∀ j : Nat, j ≤ 9 → (¬ 8 ≤ nI j → nI j + 2 = nI (j + 2) ∧ j + 2 ≤ 9) ∧ (¬ nI j ≤ 0 → nI j - 1 = nI (j - 1) ∧ j - 1 ≤ 9) ∧ (¬ 9 ≤ nI j → nI j + 1 = nI (j + 1) ∧ j + 1 ≤ 9) := by decide +kernel
theorem sw_dg_up2 {x : Int32} (h : sw_dg x) (c : ¬ 8 ≤ x) : sw_dg (x + 2) := by
  obtain ⟨j, hj, rfl⟩ := h
  exact ⟨j + 2, ((sw_d9b j hj).1 c).2, ((sw_d9b j hj).1 c).1⟩
theorem sw_dg_dn {x : Int32} (h : sw_dg x) (c : ¬ x ≤ 0) : sw_dg (x - 1) := by
  obtain ⟨j, hj, rfl⟩ := h
  exact ⟨j - 1, ((sw_d9b j hj).2.1 c).2, ((sw_d9b j hj).2.1 c).1⟩
theorem sw_dg_up {x : Int32} (h : sw_dg x) (c : ¬ 9 ≤ x) : sw_dg (x + 1) := by
  obtain ⟨j, hj, rfl⟩ := h
  exact ⟨j + 1, ((sw_d9b j hj).2.2 c).2, ((sw_d9b j hj).2.2 c).1⟩
theorem sw_dg0 : sw_dg 0 := ⟨0, by decide, rfl⟩
theorem sw_act_rel {σ : sw_St} (hR : sw_Rel σ) {k N a : Nat} (hn : σ 5 0 = nI N) (hN : N ≤ 8) (hk : k < N) (ha : a ≤ 3) (hm : sw_may a (σ 6 k) (σ 8 (3 * k)) (σ 8 (3 * k + 1)) (σ 8 (3 * k + 2)) = true) : sw_Rel (sw_actm (sw_actx σ 5 a k) a k) := by
  have z0 := sw_tz (w := 0) hR hn hN hk (by decide)
  have z1 := sw_tz (w := 1) hR hn hN hk (by decide)
  have z2 := sw_tz (w := 2) hR hn hN hk (by decide)
  have hd : sw_dg (σ 8 (3 * k)) ∧ sw_dg (σ 8 (3 * k + 1)) ∧ sw_dg (σ 8 (3 * k + 2)) := by
    obtain ⟨⟨hm, N', hN', hn', hT⟩, -⟩ := hR
    have e : N' = N := (nI_eq (by omega) (by omega)).mp (hn'.symm.trans hn)
    subst e
    exact (hT k hk).2.2
  rcases (show a = 0 ∨ a = 1 ∨ a = 2 ∨ a = 3 by omega) with rfl | rfl | rfl | rfl
  · simp only [sw_may, Bool.and_eq_true, Bool.not_eq_true', decide_eq_false_iff_not] at hm
    have h1 := sw_set_rel (w := 2) hR hn hN hk (by decide) (sw_dg_up2 hd.2.2 hm.1)
    have h2 := sw_set_rel (w := 1) (N := N) h1 (by simp [sw_up_ne, hn]) hN hk (by decide) (sw_dg_dn hd.2.1 hm.2)
    have e : sw_actm (sw_actx σ 5 0 k) 0 k = sw_up (sw_up (sw_up (sw_up σ 8 (3 * k + 2) (σ 8 (3 * k + 2) + 2)) (40 + 2) k (σ 8 (3 * k + 2) + 2)) 8 (3 * k + 1) (σ 8 (3 * k + 1) - 1)) (40 + 1) k (σ 8 (3 * k + 1) - 1) := by
      simp only [sw_actm, sw_actx, sw_up_ne, ne_eq, Nat.reduceEqDiff, Nat.reduceAdd, not_false_eq_true]
      rw [show σ 42 k = σ 8 (3 * k + 2) from z2, show σ 41 k = σ 8 (3 * k + 1) from z1]
      rw [sw_up_comm (c := 42) (c' := 8) (by decide)]
    rw [e]
    exact h2
  · simp only [sw_may, Bool.and_eq_true, Bool.not_eq_true', decide_eq_false_iff_not] at hm
    have h1 := sw_set_rel (w := 0) hR hn hN hk (by decide) (sw_dg_dn hd.1 hm.2)
    simp only [sw_actm, sw_actx, sw_up_ne, ne_eq, Nat.reduceEqDiff, Nat.reduceAdd, not_false_eq_true]
    rw [show σ 40 k = σ 8 (3 * k) from z0]
    exact h1
  · simp only [sw_may, Bool.and_eq_true, Bool.not_eq_true', decide_eq_false_iff_not] at hm
    have h1 := sw_set_rel (w := 0) hR hn hN hk (by decide) (sw_dg_up hd.1 hm.2)
    simp only [sw_actm, sw_actx, sw_up_ne, ne_eq, Nat.reduceEqDiff, Nat.reduceAdd, not_false_eq_true]
    rw [show σ 40 k = σ 8 (3 * k) from z0]
    exact h1
  · exact sw_set_rel (w := 1) hR hn hN hk (by decide) sw_dg0
theorem sw_actx_ne {σ : sw_St} {c a k c' : Nat} (h : c' ≠ c + 3) : sw_actx σ c a k c' = σ c' := by
  unfold sw_actx
  split <;> simp [sw_up_ne h]
theorem sim_act (a0 a1 : Int32) : sw_sim (fX9_act a0 a1) (fX10_act a0 a1) := by
  intro σ hR
  obtain ⟨⟨hm, N, hN, hn, hT⟩, hB, hH, hF, hRd, hS, hZ⟩ := id hR
  have hm2 : σ 37 1 = nI N := by rw [hm, hn]
  have i03 : ∀ (x : Int32) (τ : sw_St), fX10_in x.toInt64 0 3 τ = some (if 0 ≤ x ∧ x ≤ 3 then 1 else 0, τ) := fun x τ => sw_in32 (l := 0) (h := 3) rfl rfl τ
  by_cases h : sw_ok a0 N = true
  · by_cases c1 : 0 ≤ a1 ∧ a1 ≤ 3
    · obtain ⟨k, hk, rfl⟩ := (sw_okE (by omega)).mp h
      obtain ⟨a, ha, rfl⟩ := nI_of2 (x := a1) (M := 3) (n := 3) rfl (Int32.not_lt.mpr c1.1) c1.2
      obtain ⟨⟨e1, e2, e3, e4, e5⟩, ht⟩ := hT k hk
      have X := sw_mendBy (c := 5) hN hn hk ha ht
      have Y := fun τ : sw_St => sw_mayBe (k := k) (a := a) (σ := τ) (by omega) ha
      by_cases c2 : sw_may a (σ 6 k) (σ 8 (3 * k)) (σ 8 (3 * k + 1)) (σ 8 (3 * k + 2)) = true
      · rw [if_pos c2] at X
        refine ⟨1, sw_actx σ 5 a k, sw_actm (sw_actx σ 5 a k) a k, ?_, ?_, sw_act_rel hR hn hN hk ha c2⟩
        · simp [fX9_act, sw_has6 hN hn, sw_bs, h, sw_within, c1, X]
        · rw [fX10_act, sw_noTooth hN (by rw [sw_actx_ne (by decide)]; exact hm2)]
          simp only [sw_bs, h, if_true, i03, c1, and_self, Y, sw_doAct (show k < 8 by omega) ha]
          simp only [sw_actx_ne (show 38 ≠ 5 + 3 by decide), sw_actx_ne (show 40 ≠ 5 + 3 by decide), sw_actx_ne (show 41 ≠ 5 + 3 by decide), sw_actx_ne (show 42 ≠ 5 + 3 by decide), e1, e3, e4, e5, c2]
          simp
      · rw [if_neg c2] at X
        refine sw_ro hR 0 (by simp [fX9_act, sw_has6 hN hn, sw_bs, h, sw_within, c1, X]) ?_
        simp only [fX10_act, sw_noTooth hN hm2, sw_bs, h, if_true, i03, c1, and_self, Y, e1, e3, e4, e5, c2]
        simp
    · exact sw_ro hR (-2) (by simp [fX9_act, sw_has6 hN hn, sw_within, sw_bs, h, c1]) (by simp [fX10_act, sw_noTooth hN hm2, i03, sw_bs, h, c1])
  · exact sw_ro hR (-1) (by simp [fX9_act, sw_has6 hN hn, sw_bs, h]) (by simp [fX10_act, sw_noTooth hN hm2, sw_bs, h])
