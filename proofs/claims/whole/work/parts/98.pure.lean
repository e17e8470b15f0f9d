/-! The law's loop: class and reference answer alike, call after call. -/
theorem sw_ei {α : Type} {c : Prop} [Decidable c] {a b : Option α} (h1 : c → ∃ t, a = some t) (h2 : ¬ c → ∃ t, b = some t) : ∃ t, (if c then a else b) = some t := by
  by_cases h : c
  · rw [if_pos h]; exact h1 h
  · rw [if_neg h]; exact h2 h
theorem sw_et {α : Type} {c : Prop} [Decidable c] {a b : Option α} (h : c) (h1 : ∃ t, a = some t) : ∃ t, (if c then a else b) = some t := by
  rw [if_pos h]; exact h1
theorem sw_eb {α β : Type} {f : Option (β × sw_St)} {K : β → sw_St → Option α} {r : β} {σ' : sw_St} (h : f = some (r, σ')) (h1 : ∃ t, K r σ' = some t) : ∃ t, sw_bind f K = some t := by
  rw [h, sw_bs]; exact h1
theorem sw_cmp0 (r : Int64) : lg_cmp r r = 0 := by unfold lg_cmp; simp
theorem sw_R0 : sw_Rel sw_s0 := by
  refine ⟨⟨rfl, 0, by decide, rfl, fun k hk => by omega⟩, ⟨rfl, 0, by decide, rfl, fun k hk => by omega⟩, ⟨⟨rfl, rfl, rfl, rfl⟩, 0, by decide, rfl⟩, ⟨rfl, 0, by decide, rfl, fun k hk => by omega⟩, ⟨rfl, 0, by decide, rfl, fun k hk => by omega⟩, fun k hk => Or.inl ?_, ⟨rfl, rfl⟩⟩
  rcases (show k = 0 ∨ k = 1 ∨ k = 2 ∨ k = 3 by omega) with rfl | rfl | rfl | rfl <;> exact ⟨rfl, rfl⟩
theorem sw_end {L v : Nat} (hL : L ≤ 3072) (hv : v ≤ 6144) : (nI L - 6 < nI v) ↔ L < v + 6 := by
  have e : (nI L - 6).toInt = (L : Int) - 6 := pk_sub_toInt (a := L) (b := 6) (by omega) (by decide)
  rw [Int32.lt_iff_toInt_lt, e, nI_toInt (by omega)]
  omega
theorem sw_loop {L : Nat} {xs : Nat → Int32} (hL : L ≤ 3072) : ∀ (n v : Nat) (σ : sw_St), v ≤ L → L - v < n → sw_Rel σ → ∃ t, fL_law_L18 L xs n (nI v) σ = some t := by
  intro n
  induction n with
  | zero =>
    intro v σ hv hn hR
    exact absurd hn (by omega)
  | succ n ih =>
    intro v σ hv hn hR
    rw [fL_law_L18]
    refine sw_ei (fun _ => ⟨_, rfl⟩) (fun hq => ?_)
    have lt : v + 6 ≤ L := by
      by_cases z : L < v + 6
      · exact absurd ((sw_end hL (by omega)).mpr z) hq
      · omega
    have go : ∀ ρ : sw_St, sw_Rel ρ → ∃ t, fL_law_B1323 (fL_law_L18 L xs n) (nI v) ρ = some t := fun ρ h => by
      rw [fL_law_B1323, show nI v + 6 = nI (v + 6) from nI_add v 6]
      exact ih (v + 6) ρ (by omega) (by omega) h
    have o0 : sw_ok (nI v) L = true := sw_ok_nI (by omega) (by omega)
    have o1 : sw_ok (nI v + 1) L = true := by rw [show nI v + 1 = nI (v + 1) from nI_add v 1]; exact sw_ok_nI (by omega) (by omega)
    have o2 : sw_ok (nI v + 2) L = true := by rw [show nI v + 2 = nI (v + 2) from nI_add v 2]; exact sw_ok_nI (by omega) (by omega)
    have o3 : sw_ok (nI v + 3) L = true := by rw [show nI v + 3 = nI (v + 3) from nI_add v 3]; exact sw_ok_nI (by omega) (by omega)
    have o4 : sw_ok (nI v + 4) L = true := by rw [show nI v + 4 = nI (v + 4) from nI_add v 4]; exact sw_ok_nI (by omega) (by omega)
    have o5 : sw_ok (nI v + 5) L = true := by rw [show nI v + 5 = nI (v + 5) from nI_add v 5]; exact sw_ok_nI (by omega) (by omega)
    refine sw_et o0 ?_
    rw [sw_le]
    refine sw_ei (fun _ => ?_) (fun _ => ?_)
    · obtain ⟨r, σ1, σ2, h1, h2, h3⟩ := sim_saw (xs (Int32.toNatClampNeg (nI v + 1))) (xs (Int32.toNatClampNeg (nI v + 2))) (xs (Int32.toNatClampNeg (nI v + 3))) (xs (Int32.toNatClampNeg (nI v + 4))) σ hR
      exact sw_et o1 (sw_et o2 (sw_et o3 (sw_et o4 (sw_eb h1 (sw_et o1 (sw_et o2 (sw_et o3 (sw_et o4 (sw_eb h2 (sw_et rfl (go σ2 h3)))))))))))
    refine sw_ei (fun _ => ?_) (fun _ => ?_)
    · obtain ⟨r, σ1, σ2, h1, h2, h3⟩ := sim_ofTooth (xs (Int32.toNatClampNeg (nI v + 1))) (xs (Int32.toNatClampNeg (nI v + 2))) σ hR
      exact sw_et o1 (sw_et o2 (sw_eb h1 (sw_et o1 (sw_et o2 (sw_eb h2 (sw_et rfl (go σ2 h3)))))))
    refine sw_ei (fun _ => ?_) (fun _ => ?_)
    · obtain ⟨r, σ1, σ2, h1, h2, h3⟩ := sim_set (xs (Int32.toNatClampNeg (nI v + 1))) (xs (Int32.toNatClampNeg (nI v + 2))) (xs (Int32.toNatClampNeg (nI v + 3))) σ hR
      exact sw_et o1 (sw_et o2 (sw_et o3 (sw_eb h1 (sw_et o1 (sw_et o2 (sw_et o3 (sw_eb h2 (sw_et rfl (go σ2 h3)))))))))
    refine sw_ei (fun _ => ?_) (fun _ => ?_)
    · obtain ⟨r, σ1, σ2, h1, h2, h3⟩ := sim_ofSaw (xs (Int32.toNatClampNeg (nI v + 1))) σ hR
      exact sw_et o1 (sw_eb h1 (sw_et o1 (sw_eb h2 (sw_et rfl (go σ2 h3)))))
    refine sw_ei (fun _ => ?_) (fun _ => ?_)
    · obtain ⟨r, σ1, σ2, h1, h2, h3⟩ := sim_board (xs (Int32.toNatClampNeg (nI v + 1))) (xs (Int32.toNatClampNeg (nI v + 2))) (xs (Int32.toNatClampNeg (nI v + 3))) (xs (Int32.toNatClampNeg (nI v + 4))) σ hR
      exact sw_et o1 (sw_et o2 (sw_et o3 (sw_et o4 (sw_eb h1 (sw_et o1 (sw_et o2 (sw_et o3 (sw_et o4 (sw_eb h2 (sw_et rfl (go σ2 h3)))))))))))
    refine sw_ei (fun _ => ?_) (fun _ => ?_)
    · obtain ⟨r, σ1, σ2, h1, h2, h3⟩ := sim_ofLine (xs (Int32.toNatClampNeg (nI v + 1))) (xs (Int32.toNatClampNeg (nI v + 2))) σ hR
      exact sw_et o1 (sw_et o2 (sw_eb h1 (sw_et o1 (sw_et o2 (sw_eb h2 (sw_et rfl (go σ2 h3)))))))
    refine sw_ei (fun _ => ?_) (fun _ => ?_)
    · obtain ⟨r, σ1, σ2, h1, h2, h3⟩ := sim_hand (xs (Int32.toNatClampNeg (nI v + 1))) (xs (Int32.toNatClampNeg (nI v + 2))) (xs (Int32.toNatClampNeg (nI v + 3))) σ hR
      exact sw_et o1 (sw_et o2 (sw_et o3 (sw_eb h1 (sw_et o1 (sw_et o2 (sw_et o3 (sw_eb h2 (sw_et rfl (go σ2 h3)))))))))
    refine sw_ei (fun _ => ?_) (fun _ => ?_)
    · obtain ⟨r, σ1, σ2, h1, h2, h3⟩ := sim_ofHand (xs (Int32.toNatClampNeg (nI v + 1))) σ hR
      exact sw_et o1 (sw_eb h1 (sw_et o1 (sw_eb h2 (sw_et rfl (go σ2 h3)))))
    refine sw_ei (fun _ => ?_) (fun _ => ?_)
    · obtain ⟨r, σ1, σ2, h1, h2, h3⟩ := sim_fence (xs (Int32.toNatClampNeg (nI v + 1))) σ hR
      exact sw_et o1 (sw_eb h1 (sw_et o1 (sw_eb h2 (sw_et rfl (go σ2 h3)))))
    refine sw_ei (fun _ => ?_) (fun _ => ?_)
    · obtain ⟨r, σ1, σ2, h1, h2, h3⟩ := sim_where (xs (Int32.toNatClampNeg (nI v + 1))) σ hR
      exact sw_et o1 (sw_eb h1 (sw_et o1 (sw_eb h2 (sw_et (sw_cmp0 _) (go σ2 h3)))))
    refine sw_ei (fun _ => ?_) (fun _ => ?_)
    · obtain ⟨r, σ1, σ2, h1, h2, h3⟩ := sim_heading (xs (Int32.toNatClampNeg (nI v + 1))) σ hR
      exact sw_et o1 (sw_eb h1 (sw_et o1 (sw_eb h2 (sw_et (sw_cmp0 _) (go σ2 h3)))))
    refine sw_ei (fun _ => ?_) (fun _ => ?_)
    · obtain ⟨r, σ1, σ2, h1, h2, h3⟩ := sim_off σ hR
      exact sw_eb h1 (sw_eb h2 (sw_et rfl (go σ2 h3)))
    refine sw_ei (fun _ => ?_) (fun _ => ?_)
    · obtain ⟨r, σ1, σ2, h1, h2, h3⟩ := sim_pinched σ hR
      exact sw_eb h1 (sw_eb h2 (sw_et rfl (go σ2 h3)))
    refine sw_ei (fun _ => ?_) (fun _ => ?_)
    · obtain ⟨r, σ1, σ2, h1, h2, h3⟩ := sim_marks (xs (Int32.toNatClampNeg (nI v + 1))) σ hR
      exact sw_et o1 (sw_eb h1 (sw_et o1 (sw_eb h2 (sw_et rfl (go σ2 h3)))))
    refine sw_ei (fun _ => ?_) (fun _ => ?_)
    · obtain ⟨r, σ1, σ2, h1, h2, h3⟩ := sim_which (xs (Int32.toNatClampNeg (nI v + 1))) (xs (Int32.toNatClampNeg (nI v + 2))) σ hR
      exact sw_et o1 (sw_et o2 (sw_eb h1 (sw_et o1 (sw_et o2 (sw_eb h2 (sw_et rfl (go σ2 h3)))))))
    refine sw_ei (fun _ => ?_) (fun _ => ?_)
    · obtain ⟨r, σ1, σ2, h1, h2, h3⟩ := sim_straightest (xs (Int32.toNatClampNeg (nI v + 1))) σ hR
      exact sw_et o1 (sw_eb h1 (sw_et o1 (sw_eb h2 (sw_et rfl (go σ2 h3)))))
    refine sw_ei (fun _ => ?_) (fun _ => ?_)
    · obtain ⟨r, σ1, σ2, h1, h2, h3⟩ := sim_flaw (xs (Int32.toNatClampNeg (nI v + 1))) (xs (Int32.toNatClampNeg (nI v + 2))) (xs (Int32.toNatClampNeg (nI v + 3))) σ hR
      exact sw_et o1 (sw_et o2 (sw_et o3 (sw_eb h1 (sw_et o1 (sw_et o2 (sw_et o3 (sw_eb h2 (sw_et rfl (go σ2 h3)))))))))
    refine sw_ei (fun _ => ?_) (fun _ => ?_)
    · obtain ⟨r, σ1, σ2, h1, h2, h3⟩ := sim_ofFlaw (xs (Int32.toNatClampNeg (nI v + 1))) (xs (Int32.toNatClampNeg (nI v + 2))) σ hR
      exact sw_et o1 (sw_et o2 (sw_eb h1 (sw_et o1 (sw_et o2 (sw_eb h2 (sw_et rfl (go σ2 h3)))))))
    refine sw_ei (fun _ => ?_) (fun _ => ?_)
    · obtain ⟨r, σ1, σ2, h1, h2, h3⟩ := sim_reading (xs (Int32.toNatClampNeg (nI v + 1))) (xs (Int32.toNatClampNeg (nI v + 2))) σ hR
      exact sw_et o1 (sw_et o2 (sw_eb h1 (sw_et o1 (sw_et o2 (sw_eb h2 (sw_et rfl (go σ2 h3)))))))
    refine sw_ei (fun _ => ?_) (fun _ => ?_)
    · obtain ⟨r, σ1, σ2, h1, h2, h3⟩ := sim_back (xs (Int32.toNatClampNeg (nI v + 1))) σ hR
      exact sw_et o1 (sw_eb h1 (sw_et o1 (sw_eb h2 (sw_et rfl (go σ2 h3)))))
    refine sw_ei (fun _ => ?_) (fun _ => ?_)
    · obtain ⟨r, σ1, σ2, h1, h2, h3⟩ := sim_likely (xs (Int32.toNatClampNeg (nI v + 1))) σ hR
      exact sw_et o1 (sw_eb h1 (sw_et o1 (sw_eb h2 (sw_et rfl (go σ2 h3)))))
    refine sw_ei (fun _ => ?_) (fun _ => ?_)
    · obtain ⟨r, σ1, σ2, h1, h2, h3⟩ := sim_each (xs (Int32.toNatClampNeg (nI v + 1))) σ hR
      exact sw_et o1 (sw_eb h1 (sw_et o1 (sw_eb h2 (sw_et rfl (go σ2 h3)))))
    refine sw_ei (fun _ => ?_) (fun _ => ?_)
    · obtain ⟨r, σ1, σ2, h1, h2, h3⟩ := sim_act (xs (Int32.toNatClampNeg (nI v + 1))) (xs (Int32.toNatClampNeg (nI v + 2))) σ hR
      exact sw_et o1 (sw_et o2 (sw_eb h1 (sw_et o1 (sw_et o2 (sw_eb h2 (sw_et rfl (go σ2 h3)))))))
    refine sw_ei (fun _ => ?_) (fun _ => ?_)
    · obtain ⟨r, σ1, σ2, h1, h2, h3⟩ := sim_mend (xs (Int32.toNatClampNeg (nI v + 1))) (xs (Int32.toNatClampNeg (nI v + 2))) σ hR
      exact sw_et o1 (sw_et o2 (sw_eb h1 (sw_et o1 (sw_et o2 (sw_eb h2 (sw_et rfl (go σ2 h3)))))))
    refine sw_ei (fun _ => ?_) (fun _ => ?_)
    · obtain ⟨r, σ1, σ2, h1, h2, h3⟩ := sim_log (xs (Int32.toNatClampNeg (nI v + 1))) (xs (Int32.toNatClampNeg (nI v + 2))) (xs (Int32.toNatClampNeg (nI v + 3))) (xs (Int32.toNatClampNeg (nI v + 4))) (xs (Int32.toNatClampNeg (nI v + 5))) σ hR
      exact sw_et o1 (sw_et o2 (sw_et o3 (sw_et o4 (sw_et o5 (sw_eb h1 (sw_et o1 (sw_et o2 (sw_et o3 (sw_et o4 (sw_et o5 (sw_eb h2 (sw_et rfl (go σ2 h3)))))))))))))
    refine sw_ei (fun _ => ?_) (fun _ => ?_)
    · obtain ⟨r, σ1, σ2, h1, h2, h3⟩ := sim_sheet (xs (Int32.toNatClampNeg (nI v + 1))) (xs (Int32.toNatClampNeg (nI v + 2))) (xs (Int32.toNatClampNeg (nI v + 3))) σ hR
      exact sw_et o1 (sw_et o2 (sw_et o3 (sw_eb h1 (sw_et o1 (sw_et o2 (sw_et o3 (sw_eb h2 (sw_et rfl (go σ2 h3)))))))))
    refine sw_ei (fun _ => ?_) (fun _ => ?_)
    · obtain ⟨r, σ1, σ2, h1, h2, h3⟩ := sim_lose (xs (Int32.toNatClampNeg (nI v + 1))) σ hR
      exact sw_et o1 (sw_eb h1 (sw_et o1 (sw_eb h2 (sw_et rfl (go σ2 h3)))))
    refine sw_ei (fun _ => ?_) (fun _ => ?_)
    · obtain ⟨r, σ1, σ2, h1, h2, h3⟩ := sim_put (xs (Int32.toNatClampNeg (nI v + 1))) (xs (Int32.toNatClampNeg (nI v + 2))) (xs (Int32.toNatClampNeg (nI v + 3))) σ hR
      exact sw_et o1 (sw_et o2 (sw_et o3 (sw_eb h1 (sw_et o1 (sw_et o2 (sw_et o3 (sw_eb h2 (sw_et rfl (go σ2 h3)))))))))
    refine sw_ei (fun _ => ?_) (fun _ => ?_)
    · obtain ⟨r, σ1, σ2, h1, h2, h3⟩ := sim_cell (xs (Int32.toNatClampNeg (nI v + 1))) (xs (Int32.toNatClampNeg (nI v + 2))) (xs (Int32.toNatClampNeg (nI v + 3))) σ hR
      exact sw_et o1 (sw_et o2 (sw_et o3 (sw_eb h1 (sw_et o1 (sw_et o2 (sw_et o3 (sw_eb h2 (sw_et (sw_cmp0 _) (go σ2 h3)))))))))
    refine sw_ei (fun _ => ?_) (fun _ => ?_)
    · obtain ⟨r, σ1, σ2, h1, h2, h3⟩ := sim_copy (xs (Int32.toNatClampNeg (nI v + 1))) (xs (Int32.toNatClampNeg (nI v + 2))) (xs (Int32.toNatClampNeg (nI v + 3))) (xs (Int32.toNatClampNeg (nI v + 4))) (xs (Int32.toNatClampNeg (nI v + 5))) σ hR
      exact sw_et o1 (sw_et o2 (sw_et o3 (sw_et o4 (sw_et o5 (sw_eb h1 (sw_et o1 (sw_et o2 (sw_et o3 (sw_et o4 (sw_et o5 (sw_eb h2 (sw_et rfl (go σ2 h3)))))))))))))
    refine sw_ei (fun _ => ?_) (fun _ => ?_)
    · obtain ⟨r, σ1, σ2, h1, h2, h3⟩ := sim_tell (xs (Int32.toNatClampNeg (nI v + 1))) σ hR
      exact sw_et o1 (sw_eb h1 (sw_et o1 (sw_eb h2 (sw_et rfl (go σ2 h3)))))
    refine sw_ei (fun _ => ?_) (fun _ => ?_)
    · obtain ⟨r, σ1, σ2, h1, h2, h3⟩ := sim_joint (xs (Int32.toNatClampNeg (nI v + 1))) σ hR
      exact sw_et o1 (sw_eb h1 (sw_et o1 (sw_eb h2 (sw_et rfl (go σ2 h3)))))
    refine sw_ei (fun _ => ?_) (fun _ => ?_)
    · obtain ⟨r, σ1, σ2, h1, h2, h3⟩ := sim_as (xs (Int32.toNatClampNeg (nI v + 1))) (xs (Int32.toNatClampNeg (nI v + 2))) σ hR
      exact sw_et o1 (sw_et o2 (sw_eb h1 (sw_et o1 (sw_et o2 (sw_eb h2 (sw_et rfl (go σ2 h3)))))))
    refine sw_ei (fun _ => ?_) (fun _ => ?_)
    · obtain ⟨r, σ1, σ2, h1, h2, h3⟩ := sim_trace σ hR
      exact sw_eb h1 (sw_eb h2 (sw_et rfl (go σ2 h3)))
    refine sw_ei (fun _ => ?_) (fun _ => ?_)
    · obtain ⟨r, σ1, σ2, h1, h2, h3⟩ := sim_fault σ hR
      exact sw_eb h1 (sw_eb h2 (sw_et rfl (go σ2 h3)))
    refine sw_ei (fun _ => ?_) (fun _ => ?_)
    · obtain ⟨r, σ1, σ2, h1, h2, h3⟩ := sim_many (xs (Int32.toNatClampNeg (nI v + 1))) σ hR
      exact sw_et o1 (sw_eb h1 (sw_et o1 (sw_eb h2 (sw_et rfl (go σ2 h3)))))
    exact go σ hR
theorem sw_pure : ∀ (L : Nat) (xs : Nat → Int32), L ≤ 3072 → ∃ t, fL_law_L18 L xs sw_fuel 0 sw_s0 = some t := by
  intro L xs hL
  have hb := sw_fuel_big
  have h := sw_loop (xs := xs) hL sw_fuel 0 sw_s0 (Nat.zero_le _) (by omega) sw_R0
  rw [nI_0] at h
  exact h
