theorem sw_1 : nI 1 = 1 := rfl
/-- a place of a tooth, a line, a flaw: the class's look and the reference's -/
theorem sw_has6 {c N : Nat} {x : Int32} {σ : sw_St} (hN : N ≤ 8) (hc : σ c 0 = nI N) : fX6_has c x σ = some (if sw_ok x N = true then 1 else 0, σ) := by
  unfold fX6_has
  rw [hc]
  by_cases h : sw_ok x N = true
  · rw [if_pos h]
    obtain ⟨j, hj, rfl⟩ := (sw_okE (by omega)).mp h
    rw [if_neg (nI_pos (by omega)), if_neg (nI_ge hj (by omega)), if_neg (show ¬ 8 ≤ nI j from nI_ge (b := 8) (by omega) (by decide))]
  · rw [if_neg h]
    split
    · rfl
    · split
      · rfl
      · rename_i h1 h2
        exfalso
        apply h
        rcases pk_ix x (n := N) (by omega) with q | q | q
        · exact absurd q h1
        · exact absurd q h2
        · exact (sw_okE (by omega)).mpr q
theorem sw_has0 {N : Nat} {x : Int32} {σ : sw_St} (hN : N ≤ 24) (hc : σ 17 0 = nI N) : fX0_has x σ = some (if sw_ok x N = true then 1 else 0, σ) := by
  unfold fX0_has
  rw [hc]
  by_cases h : sw_ok x N = true
  · rw [if_pos h]
    obtain ⟨j, hj, rfl⟩ := (sw_okE (by omega)).mp h
    rw [if_neg (nI_pos (by omega)), if_neg (nI_ge hj (by omega)), if_neg (show ¬ 24 ≤ nI j from nI_ge (b := 24) (by omega) (by decide))]
  · rw [if_neg h]
    split
    · rfl
    · split
      · rfl
      · rename_i h1 h2
        exfalso
        apply h
        rcases pk_ix x (n := N) (by omega) with q | q | q
        · exact absurd q h1
        · exact absurd q h2
        · exact (sw_okE (by omega)).mpr q
theorem sw_has2 {N : Nat} {x : Int32} {σ : sw_St} (hN : N ≤ 6) (hc : σ 26 0 = nI N) : fX2_has x σ = some (if sw_ok x N = true then 1 else 0, σ) := by
  unfold fX2_has
  rw [hc]
  by_cases h : sw_ok x N = true
  · rw [if_pos h]
    obtain ⟨j, hj, rfl⟩ := (sw_okE (by omega)).mp h
    rw [if_neg (nI_pos (by omega)), if_neg (nI_ge hj (by omega)), if_neg (show ¬ 6 ≤ nI j from nI_ge (b := 6) (by omega) (by decide))]
  · rw [if_neg h]
    split
    · rfl
    · split
      · rfl
      · rename_i h1 h2
        exfalso
        apply h
        rcases pk_ix x (n := N) (by omega) with q | q | q
        · exact absurd q h1
        · exact absurd q h2
        · exact (sw_okE (by omega)).mpr q
theorem sw_inN {N : Nat} {x : Int32} {σ : sw_St} (hN : N ≤ 24) : fX10_in x.toInt64 0 ((nI N).toInt64 - 1) σ = some (if sw_ok x N = true then 1 else 0, σ) := by
  rw [sw_m1 N (by omega), sw_in32 (l := 0) (h := nI N - 1) (l' := 0) rfl rfl]
  have e := sw_ok_le (N := N) (x := x) (by omega)
  by_cases h : sw_ok x N = true
  · rw [if_pos h, if_pos (e.mp h)]
  · rw [if_neg h, if_neg (fun q => h (e.mpr q))]
theorem sw_noTooth {N : Nat} {x : Int32} {σ : sw_St} (hN : N ≤ 8) (hc : σ 37 1 = nI N) : fX10_noTooth x σ = some (if sw_ok x N = true then 0 else 1, σ) := by
  unfold fX10_noTooth
  rw [hc, sw_inN (by omega), sw_bs]
  by_cases h : sw_ok x N = true <;> simp [h]
theorem sw_noLine {N : Nat} {x : Int32} {σ : sw_St} (hN : N ≤ 24) (hc : σ 37 12 = nI N) : fX10_noLine x σ = some (if sw_ok x N = true then 0 else 1, σ) := by
  unfold fX10_noLine
  rw [hc, sw_inN (by omega), sw_bs]
  by_cases h : sw_ok x N = true <;> simp [h]
theorem sw_noFlaw {N : Nat} {x : Int32} {σ : sw_St} (hN : N ≤ 6) (hc : σ 37 24 = nI N) : fX10_noFlaw x σ = some (if sw_ok x N = true then 0 else 1, σ) := by
  unfold fX10_noFlaw
  rw [hc, sw_inN (by omega), sw_bs]
  by_cases h : sw_ok x N = true <;> simp [h]
theorem sw_isSize (x : Int32) (σ : sw_St) : fX6_isSize x σ = some (if 0 ≤ x ∧ x ≤ 2 then 1 else 0, σ) := by
  exact sw_within x 0 2 σ
theorem sim_trace : sw_sim fX9_trace fX10_trace := by
  intro σ hR
  obtain ⟨hT, hB, hH, hF, hRd, hS, hZ⟩ := id hR
  exact ⟨_, σ, σ, rfl, by unfold fX10_trace; rw [hZ.2], hR⟩
theorem sim_fault : sw_sim fX9_fault fX10_fault := by
  intro σ hR
  obtain ⟨hT, hB, hH, hF, hRd, hS, hZ⟩ := id hR
  exact ⟨_, σ, σ, rfl, by unfold fX10_fault; rw [hZ.1], hR⟩
theorem sim_ofHand (a0 : Int32) : sw_sim (fX9_ofHand a0) (fX10_ofHand a0) := by
  intro σ hR
  obtain ⟨hT, hB, ⟨⟨h1, h2, h3, h4⟩, h5⟩, hF, hRd, hS, hZ⟩ := id hR
  unfold fX9_ofHand fX10_ofHand
  by_cases c0 : a0 = 0
  · exact ⟨_, σ, σ, by rw [if_pos c0], by rw [if_pos c0, h1], hR⟩
  · by_cases c1 : a0 = 1
    · exact ⟨_, σ, σ, by rw [if_neg c0, if_pos c1], by rw [if_neg c0, if_pos c1, h2], hR⟩
    · by_cases c2 : a0 = 2
      · exact ⟨_, σ, σ, by rw [if_neg c0, if_neg c1, if_pos c2], by rw [if_neg c0, if_neg c1, if_pos c2, h3], hR⟩
      · exact ⟨_, σ, σ, by rw [if_neg c0, if_neg c1, if_neg c2], by rw [if_neg c0, if_neg c1, if_neg c2], hR⟩
theorem sim_hand (a0 a1 a2 : Int32) : sw_sim (fX9_hand a0 a1 a2) (fX10_hand a0 a1 a2) := by
  intro σ hR
  obtain ⟨hT, hB, ⟨⟨h1, h2, h3, h4⟩, h5⟩, hF, hRd, hS, hZ⟩ := id hR
  unfold fX9_hand fX10_hand
  simp only [sw_within, sw_bs, sw_le, sw_in32 (l := -9) (h := 9) (l' := -9) (h' := 9) rfl rfl, sw_in32 (l := 0) (h := 9) (l' := 0) (h' := 9) rfl rfl, sw_in32 (l := 0) (h := 5) (l' := 0) (h' := 5) rfl rfl]
  by_cases c0 : -9 ≤ a0 ∧ a0 ≤ 9
  · by_cases c1 : 0 ≤ a1 ∧ a1 ≤ 9
    · by_cases c2 : 0 ≤ a2 ∧ a2 ≤ 5
      · refine ⟨1, _, _, by simp [c0, c1, c2]; rfl, by simp [c0, c1, c2]; rfl, ?_⟩
        obtain ⟨j, hj, e⟩ := nI_of2 (x := a2) (M := 5) (n := 5) rfl (Int32.not_lt.mpr c2.1) c2.2
        simp only [sw_Rel, sw_up_eq, sw_ue, sw_un, sw_up_ne, ne_eq, Nat.reduceEqDiff, not_false_eq_true]
        exact ⟨hT, hB, ⟨⟨rfl, rfl, rfl, h4⟩, j, hj, e⟩, hF, hRd, hS, hZ⟩
      · exact ⟨-2, σ, σ, by simp [c0, c1, c2], by simp [c0, c1, c2], hR⟩
    · exact ⟨-2, σ, σ, by simp [c0, c1], by simp [c0, c1], hR⟩
  · exact ⟨-2, σ, σ, by simp [c0], by simp [c0], hR⟩
theorem sim_fence (a0 : Int32) : sw_sim (fX9_fence a0) (fX10_fence a0) := by
  intro σ hR
  obtain ⟨hT, hB, ⟨⟨h1, h2, h3, h4⟩, h5⟩, hF, hRd, hS, hZ⟩ := id hR
  unfold fX9_fence fX10_fence
  simp only [sw_within, sw_bs, sw_le, sw_in32 (l := 0) (h := 99) (l' := 0) (h' := 99) rfl rfl]
  by_cases c0 : 0 ≤ a0 ∧ a0 ≤ 99
  · refine ⟨σ 21 3, _, _, by simp [c0]; rfl, by simp [c0, sw_up_ne, h4]; rfl, ?_⟩
    simp only [sw_Rel, sw_up_eq, sw_ue, sw_un, sw_up_ne, ne_eq, Nat.reduceEqDiff, not_false_eq_true]
    exact ⟨hT, hB, ⟨⟨h1, h2, h3, rfl⟩, h5⟩, hF, hRd, hS, hZ⟩
  · exact ⟨-2, σ, σ, by simp [c0], by simp [c0], hR⟩
theorem sw_ro {α : Type} {f g : sw_St → Option (α × sw_St)} {σ : sw_St} (hR : sw_Rel σ) (r : α) (h1 : f σ = some (r, σ)) (h2 : g σ = some (r, σ)) : ∃ (r : α) (σ1 σ2 : sw_St), f σ = some (r, σ1) ∧ g σ1 = some (r, σ2) ∧ sw_Rel σ2 := ⟨r, σ, σ, h1, h2, hR⟩
theorem sim_ofLine (a0 a1 : Int32) : sw_sim (fX9_ofLine a0 a1) (fX10_ofLine a0 a1) := by
  intro σ hR
  obtain ⟨hT, ⟨hm, N, hN, hn, hB⟩, hH, hF, hRd, hS, hZ⟩ := id hR
  have hm2 : σ 37 12 = nI N := by rw [hm, hn]
  by_cases h : sw_ok a0 N = true
  · obtain ⟨j, hj, rfl⟩ := (sw_okE (by omega)).mp h
    obtain ⟨⟨e1, e2, e3⟩, -⟩ := hB j hj
    have h24 : sw_ok (nI j) 24 = true := sw_ok_nI (by omega) (by decide)
    have hcl : (nI j).toNatClampNeg = j := nI_clamp (by omega)
    by_cases c0 : a1 = 0
    · exact sw_ro hR (σ 18 j) (by simp [fX9_ofLine, fX0_hardOf, sw_has0 hN hn, sw_bs, h, h24, hcl, c0]) (by simp [fX10_ofLine, sw_noLine hN hm2, sw_bs, h, h24, hcl, c0, e1])
    · by_cases c1 : a1 = 1
      · exact sw_ro hR (σ 19 j) (by simp [fX9_ofLine, fX0_grainOf, sw_has0 hN hn, sw_bs, h, h24, hcl, c1]) (by simp [fX10_ofLine, sw_noLine hN hm2, sw_bs, h, h24, hcl, c1, e2])
      · by_cases c2 : a1 = 2
        · exact sw_ro hR (σ 20 j) (by simp [fX9_ofLine, fX0_closesOf, sw_has0 hN hn, sw_bs, h, h24, hcl, c2]) (by simp [fX10_ofLine, sw_noLine hN hm2, sw_bs, h, h24, hcl, c2, e3])
        · exact sw_ro hR (-2) (by simp [fX9_ofLine, sw_has0 hN hn, sw_bs, h, c0, c1, c2]) (by simp [fX10_ofLine, sw_noLine hN hm2, sw_bs, h, c0, c1, c2])
  · exact sw_ro hR (-1) (by simp [fX9_ofLine, sw_has0 hN hn, sw_bs, h]) (by simp [fX10_ofLine, sw_noLine hN hm2, sw_bs, h])
theorem sim_ofFlaw (a0 a1 : Int32) : sw_sim (fX9_ofFlaw a0 a1) (fX10_ofFlaw a0 a1) := by
  intro σ hR
  obtain ⟨hT, hB, hH, ⟨hm, N, hN, hn, hF⟩, hRd, hS, hZ⟩ := id hR
  have hm2 : σ 37 24 = nI N := by rw [hm, hn]
  by_cases h : sw_ok a0 N = true
  · obtain ⟨j, hj, rfl⟩ := (sw_okE (by omega)).mp h
    obtain ⟨⟨e1, e2, e3⟩, -⟩ := hF j hj
    have h6 : sw_ok (nI j) 6 = true := sw_ok_nI (by omega) (by decide)
    have hcl : (nI j).toNatClampNeg = j := nI_clamp (by omega)
    by_cases c0 : a1 = 0
    · exact sw_ro hR (σ 27 j) (by simp [fX9_ofFlaw, fX2_toothOf, sw_has2 hN hn, sw_bs, h, h6, hcl, c0]) (by simp [fX10_ofFlaw, sw_noFlaw hN hm2, sw_bs, h, h6, hcl, c0, e1])
    · by_cases c1 : a1 = 1
      · exact sw_ro hR (σ 28 j) (by simp [fX9_ofFlaw, fX2_whatOf, sw_has2 hN hn, sw_bs, h, h6, hcl, c1]) (by simp [fX10_ofFlaw, sw_noFlaw hN hm2, sw_bs, h, h6, hcl, c1, e2])
      · by_cases c2 : a1 = 2
        · exact sw_ro hR (σ 29 j) (by simp [fX9_ofFlaw, fX2_valueOf, sw_has2 hN hn, sw_bs, h, h6, hcl, c2]) (by simp [fX10_ofFlaw, sw_noFlaw hN hm2, sw_bs, h, h6, hcl, c2, e3])
        · exact sw_ro hR (-2) (by simp [fX9_ofFlaw, sw_has2 hN hn, sw_bs, h, c0, c1, c2]) (by simp [fX10_ofFlaw, sw_noFlaw hN hm2, sw_bs, h, c0, c1, c2])
  · exact sw_ro hR (-1) (by simp [fX9_ofFlaw, sw_has2 hN hn, sw_bs, h]) (by simp [fX10_ofFlaw, sw_noFlaw hN hm2, sw_bs, h])
theorem sim_back (a0 : Int32) : sw_sim (fX9_back a0) (fX10_back a0) := by
  intro σ hR
  obtain ⟨hT, hB, hH, hF, ⟨hm, N, hN, hn, hRd⟩, hS, hZ⟩ := id hR
  unfold fX9_back fX10_back
  simp only [sw_within, sw_bs, sw_le]
  by_cases c0 : 0 ≤ a0 ∧ a0 ≤ σ 30 0
  · obtain ⟨j, hj, e⟩ := nI_of2 (x := a0) (M := σ 30 0) (n := N) (by rw [hn, nI_toInt (by omega)]) (Int32.not_lt.mpr c0.1) c0.2
    refine ⟨σ 30 0 - a0, sw_up σ 30 0 (σ 30 0 - a0), sw_up (sw_up σ 30 0 (σ 30 0 - a0)) 37 28 (σ 30 0 - a0), by simp [c0, sw_up_eq, sw_ue], ?_, ?_⟩
    · rw [show sw_up σ 30 0 (σ 30 0 - a0) 37 = σ 37 from sw_up_ne (by decide), hm, sw_in32 (l := 0) (h := σ 30 0) (l' := 0) rfl rfl]
      simp [c0, sw_bs, sw_up_eq, sw_ue, sw_up_ne, hm]
    · simp only [sw_Rel, sw_up_eq, sw_ue, sw_un, sw_up_ne, ne_eq, Nat.reduceEqDiff, not_false_eq_true]
      refine ⟨hT, hB, hH, hF, ⟨rfl, N - j, by omega, by rw [hn, e, pk_sub hj], fun i hi => hRd i (by omega)⟩, hS, hZ⟩
  · refine ⟨-2, σ, σ, by simp [c0], ?_, hR⟩
    rw [hm, sw_in32 (l := 0) (h := σ 30 0) (l' := 0) rfl rfl]
    simp [c0, sw_bs]
theorem sim_reading (a0 a1 : Int32) : sw_sim (fX9_reading a0 a1) (fX10_reading a0 a1) := by
  intro σ hR
  obtain ⟨hT, ⟨hmB, L, hL, hnB, hB⟩, hH, hF, ⟨hm, N, hN, hn, hRd⟩, hS, hZ⟩ := id hR
  have hm2 : σ 37 28 = nI N := by rw [hm, hn]
  have hm3 : σ 37 12 = nI L := by rw [hmB, hnB]
  by_cases h : sw_ok a0 L = true
  · by_cases hf : N = 8
    · subst hf
      exact sw_ro hR (-4) (by simp [fX9_reading, fX5_add, sw_has0 hL hnB, sw_bs, h, hn, show ¬ nI 8 < 0 by decide, show ¬ nI 8 < 8 by decide]) (by simp [fX10_reading, sw_noLine hL hm3, sw_bs, h, hm2, show nI 8 = 8 from rfl])
    · have hlt : N < 8 := by omega
      have k8 : sw_ok (nI N) 8 = true := sw_ok_nI hlt (by decide)
      have hcl : (nI N).toNatClampNeg = N := nI_clamp (by omega)
      have p0 : ¬ nI N < 0 := nI_pos (by omega)
      have p8 : nI N < 8 := nI_lt (b := 8) hlt (by decide)
      have pe : ¬ nI N = 8 := fun q => by have := (nI_eq (a := N) (b := 8) (by omega) (by decide)).mp q; omega
      have hs1 : nI N + 1 - 1 = nI N := by rw [nI_1]; exact nI_pred N
      obtain ⟨j, hj, ej⟩ := (sw_okE (by omega)).mp h
      refine ⟨nI N, sw_up (sw_up (sw_up σ 31 N a0) 32 N a1) 30 0 (nI N + 1), sw_up (sw_up (sw_up (sw_up (sw_up (sw_up σ 31 N a0) 32 N a1) 30 0 (nI N + 1)) 54 N a0) 55 N a1) 37 28 (nI N + 1), ?_, ?_, ?_⟩
      · simp [fX9_reading, fX5_add, sw_has0 hL hnB, sw_bs, sw_le, h, hn, p0, p8, k8, hcl, sw_up_ne, sw_up_eq, sw_ue, hs1]
      · have hm3' : (sw_up (sw_up (sw_up σ 31 N a0) 32 N a1) 30 0 (nI N + 1)) 37 12 = nI L := by simp [sw_up_ne, hm3]
        simp [fX10_reading, sw_noLine hL hm3', sw_bs, sw_le, h, hm2, pe, k8, hcl, sw_up_ne, sw_up_eq, sw_ue, hs1]
      · simp only [sw_Rel, sw_up_eq, sw_ue, sw_un, sw_up_ne, ne_eq, Nat.reduceEqDiff, not_false_eq_true]
        refine ⟨hT, ⟨hmB, L, hL, hnB, hB⟩, hH, hF, ⟨rfl, N + 1, by omega, nI_1 N, fun i hi => ?_⟩, hS, hZ⟩
        by_cases hiN : i = N
        · subst hiN
          rw [sw_ue, sw_ue, sw_ue, sw_ue]
          exact ⟨⟨rfl, rfl⟩, j, L, hj, hL, hnB, ej⟩
        · rw [sw_un hiN, sw_un hiN, sw_un hiN, sw_un hiN]
          exact hRd i (by omega)
  · exact sw_ro hR (-1) (by simp [fX9_reading, sw_has0 hL hnB, sw_bs, h]) (by simp [fX10_reading, sw_noLine hL hm3, sw_bs, h])
theorem sim_flaw (a0 a1 a2 : Int32) : sw_sim (fX9_flaw a0 a1 a2) (fX10_flaw a0 a1 a2) := by
  intro σ hR
  obtain ⟨⟨hmT, T, hT8, hnT, hT⟩, hB, hH, ⟨hm, N, hN, hn, hF⟩, hRd, hS, hZ⟩ := id hR
  have hm2 : σ 37 24 = nI N := by rw [hm, hn]
  have hm3 : σ 37 1 = nI T := by rw [hmT, hnT]
  have i02 : ∀ (x : Int32) (τ : sw_St), fX10_in x.toInt64 0 2 τ = some (if 0 ≤ x ∧ x ≤ 2 then 1 else 0, τ) := fun x τ => sw_in32 (l := 0) (h := 2) rfl rfl τ
  have i09 : ∀ (x : Int32) (τ : sw_St), fX10_in x.toInt64 0 9 τ = some (if 0 ≤ x ∧ x ≤ 9 then 1 else 0, τ) := fun x τ => sw_in32 (l := 0) (h := 9) rfl rfl τ
  by_cases h : sw_ok a0 T = true
  · by_cases c1 : 0 ≤ a1 ∧ a1 ≤ 2
    · by_cases c2 : 0 ≤ a2 ∧ a2 ≤ 9
      · by_cases hf : N = 6
        · subst hf
          exact sw_ro hR (-4) (by simp [fX9_flaw, fX2_add, sw_has6 hT8 hnT, sw_isSize, sw_within, sw_bs, h, c1, c2, hn, show ¬ nI 6 < 0 by decide, show ¬ nI 6 < 6 by decide]) (by simp [fX10_flaw, sw_noTooth hT8 hm3, i02, i09, sw_bs, h, c1, c2, hm2, show nI 6 = 6 from rfl])
        · have hlt : N < 6 := by omega
          have k8 : sw_ok (nI N) 6 = true := sw_ok_nI hlt (by decide)
          have hcl : (nI N).toNatClampNeg = N := nI_clamp (by omega)
          have p0 : ¬ nI N < 0 := nI_pos (by omega)
          have p8 : nI N < 6 := nI_lt (b := 6) hlt (by decide)
          have pe : ¬ nI N = 6 := fun q => by have := (nI_eq (a := N) (b := 6) (by omega) (by decide)).mp q; omega
          have hs1 : nI N + 1 - 1 = nI N := by rw [nI_1]; exact nI_pred N
          obtain ⟨j, hj, ej⟩ := (sw_okE (by omega)).mp h
          obtain ⟨w, hw, ew⟩ := nI_of2 (x := a1) (M := 2) (n := 2) rfl (Int32.not_lt.mpr c1.1) c1.2
          obtain ⟨z, hz, ez⟩ := nI_of2 (x := a2) (M := 9) (n := 9) rfl (Int32.not_lt.mpr c2.1) c2.2
          refine ⟨nI N, sw_up (sw_up (sw_up (sw_up σ 27 N a0) 28 N a1) 29 N a2) 26 0 (nI N + 1), sw_up (sw_up (sw_up (sw_up (sw_up (sw_up (sw_up (sw_up σ 27 N a0) 28 N a1) 29 N a2) 26 0 (nI N + 1)) 51 N a0) 52 N a1) 53 N a2) 37 24 (nI N + 1), ?_, ?_, ?_⟩
          · simp [fX9_flaw, fX2_add, sw_has6 hT8 hnT, sw_isSize, sw_within, sw_bs, sw_le, h, c1, c2, hn, p0, p8, k8, hcl, sw_up_ne, sw_up_eq, sw_ue, hs1]
          · have hm3' : (sw_up (sw_up (sw_up (sw_up σ 27 N a0) 28 N a1) 29 N a2) 26 0 (nI N + 1)) 37 1 = nI T := by simp [sw_up_ne, hm3]
            simp [fX10_flaw, sw_noTooth hT8 hm3', i02, i09, sw_bs, sw_le, h, c1, c2, hm2, pe, k8, hcl, sw_up_ne, sw_up_eq, sw_ue, hs1]
          · simp only [sw_Rel, sw_up_eq, sw_ue, sw_un, sw_up_ne, ne_eq, Nat.reduceEqDiff, not_false_eq_true]
            refine ⟨⟨hmT, T, hT8, hnT, hT⟩, hB, hH, ⟨rfl, N + 1, by omega, nI_1 N, fun i hi => ?_⟩, hRd, hS, hZ⟩
            by_cases hiN : i = N
            · subst hiN
              rw [sw_ue, sw_ue, sw_ue, sw_ue, sw_ue, sw_ue]
              exact ⟨⟨rfl, rfl, rfl⟩, ⟨j, T, hj, hT8, hnT, ej⟩, ⟨w, hw, ew⟩, z, hz, ez⟩
            · rw [sw_un hiN, sw_un hiN, sw_un hiN, sw_un hiN, sw_un hiN, sw_un hiN]
              exact hF i (by omega)
      · exact sw_ro hR (-2) (by simp [fX9_flaw, sw_has6 hT8 hnT, sw_isSize, sw_within, sw_bs, h, c1, c2]) (by simp [fX10_flaw, sw_noTooth hT8 hm3, i02, i09, sw_bs, h, c1, c2])
    · exact sw_ro hR (-2) (by simp [fX9_flaw, sw_has6 hT8 hnT, sw_isSize, sw_bs, h, c1]) (by simp [fX10_flaw, sw_noTooth hT8 hm3, i02, sw_bs, h, c1])
  · exact sw_ro hR (-1) (by simp [fX9_flaw, sw_has6 hT8 hnT, sw_bs, h]) (by simp [fX10_flaw, sw_noTooth hT8 hm3, sw_bs, h])
