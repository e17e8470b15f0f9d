theorem sw_lacks {N L : Nat} {σ : sw_St} (hN : N ≤ 8) (hn : σ 5 0 = nI N) (hL : L ≤ 24) (hl : σ 17 0 = nI L) : fX9_lacksSawOrBoard σ = some (if N = 0 ∨ L = 0 then 1 else 0, σ) := by
  rw [fX9_lacksSawOrBoard, hn, hl]
  by_cases z : N = 0
  · subst z; rw [if_pos nI_0, if_pos (Or.inl rfl)]
  · rw [if_neg (nI_ne0 (by omega) (by omega))]
    by_cases y : L = 0
    · subst y; rw [if_pos nI_0, if_pos (Or.inr rfl)]
    · rw [if_neg (nI_ne0 (by omega) (by omega)), if_neg (by omega)]
theorem sw_bare {N L : Nat} {σ : sw_St} (hN : N ≤ 8) (hn : σ 37 1 = nI N) (hL : L ≤ 24) (hl : σ 37 12 = nI L) : fX10_isBare σ = some (if N = 0 ∨ L = 0 then 1 else 0, σ) := by
  rw [fX10_isBare, hn, hl]
  by_cases z : N = 0
  · subst z; rw [if_pos nI_0, if_pos (Or.inl rfl)]
  · rw [if_neg (nI_ne0 (by omega) (by omega))]
    by_cases y : L = 0
    · subst y; rw [if_pos nI_0, if_pos (Or.inr rfl)]
    · rw [if_neg (nI_ne0 (by omega) (by omega)), if_neg (by omega)]
theorem sw_rel_m12 {σ : sw_St} (hR : sw_Rel σ) : σ 37 1 = σ 5 0 ∧ σ 37 12 = σ 17 0 := ⟨hR.1.1, hR.2.1.1⟩
theorem sw_x_as {σ τ : sw_St} (h : fX1_go 5 21 σ = some ((), τ)) : fX9_cutAsItIs σ = some ((), τ) := by rw [fX9_cutAsItIs, h, sw_bs]
theorem sim_off : sw_sim fX9_off fX10_off := by
  intro σ hR
  obtain ⟨N, L, la, hN, hn, hL, hl, hla, ha⟩ := sw_rel_n hR
  obtain ⟨m1, m12⟩ := sw_rel_m12 hR
  by_cases z : N = 0 ∨ L = 0
  · exact sw_ro hR (-3) (by rw [fX9_off, sw_lacks hN hn hL hl, if_pos z, sw_bs, if_neg (by decide)]) (by rw [fX10_off, sw_bare hN (by rw [m1]; exact hn) hL (by rw [m12]; exact hl), if_pos z, sw_bs, if_neg (by decide)])
  · obtain ⟨τ, e1, hF, i0, i1, i2, i3⟩ := sw_xcut hR hN hn hL hl hla ha
    have hR1 := sw_Rel_x hF hR
    have fn : τ 5 0 = nI N := by rw [hF 5 (by decide) (by decide) (by decide)]; exact hn
    have fl : τ 17 0 = nI L := by rw [hF 17 (by decide) (by decide) (by decide)]; exact hl
    have fa : τ 21 2 = nI la := by rw [hF 21 (by decide) (by decide) (by decide)]; exact ha
    obtain ⟨m1', m12'⟩ := sw_rel_m12 hR1
    obtain ⟨τ', g1, hG, j0, j2, j3⟩ := sw_mcut hR1 hN fn hL fl hla fa
    obtain ⟨s1, s2⟩ := sw_Sn_x hF N L la (sw_Sn σ N L)
    rw [if_neg (show ¬ N = 0 by omega), s1, s2] at j2
    refine ⟨(sw_Zn σ N la (sw_Sn σ N L)).2.2, τ, τ', ?_, ?_, sw_Rel_m hG hR1⟩
    · rw [fX9_off, sw_lacks hN hn hL hl, if_neg z, sw_bs, if_pos rfl, sw_x_as e1, sw_bs, i2]
    · rw [fX10_off, sw_bare hN (by rw [m1']; exact fn) hL (by rw [m12']; exact fl), if_neg z, sw_bs, if_pos rfl, g1, sw_bs, j2]
theorem sim_pinched : sw_sim fX9_pinched fX10_pinched := by
  intro σ hR
  obtain ⟨N, L, la, hN, hn, hL, hl, hla, ha⟩ := sw_rel_n hR
  obtain ⟨m1, m12⟩ := sw_rel_m12 hR
  by_cases z : N = 0 ∨ L = 0
  · exact sw_ro hR (-3) (by rw [fX9_pinched, sw_lacks hN hn hL hl, if_pos z, sw_bs, if_neg (by decide)]) (by rw [fX10_pinched, sw_bare hN (by rw [m1]; exact hn) hL (by rw [m12]; exact hl), if_pos z, sw_bs, if_neg (by decide)])
  · obtain ⟨τ, e1, hF, i0, i1, i2, i3⟩ := sw_xcut hR hN hn hL hl hla ha
    have hR1 := sw_Rel_x hF hR
    have fn : τ 5 0 = nI N := by rw [hF 5 (by decide) (by decide) (by decide)]; exact hn
    have fl : τ 17 0 = nI L := by rw [hF 17 (by decide) (by decide) (by decide)]; exact hl
    have fa : τ 21 2 = nI la := by rw [hF 21 (by decide) (by decide) (by decide)]; exact ha
    obtain ⟨m1', m12'⟩ := sw_rel_m12 hR1
    obtain ⟨τ', g1, hG, j0, j2, j3⟩ := sw_mcut hR1 hN fn hL fl hla fa
    obtain ⟨s1, s2⟩ := sw_Sn_x hF N L la (sw_Sn σ N L)
    rw [if_neg (show ¬ N = 0 by omega), s1] at j0
    have hs : sw_Sn σ N L ≤ L := sw_ns_le _ _ _
    have g12 : τ' 37 12 = nI L := by rw [hG.2 12 (by decide) (by decide), m12']; exact fl
    refine ⟨if sw_Sn σ N L < L then nI (sw_Sn σ N L) else -9, τ, τ', ?_, ?_, sw_Rel_m hG hR1⟩
    · rw [fX9_pinched, sw_lacks hN hn hL hl, if_neg z, sw_bs, if_pos rfl, sw_x_as e1, sw_bs, i1]
    · rw [fX10_pinched, sw_bare hN (by rw [m1']; exact fn) hL (by rw [m12']; exact fl), if_neg z, sw_bs, if_pos rfl, g1, sw_bs, g12, j0]
      by_cases c : sw_Sn σ N L < L
      · rw [if_pos c, if_neg (nI_ge c (by omega))]
      · rw [if_neg c, if_pos (nI_le (by omega) (by omega))]
/-- strokes as both count them -/
def sw_S1 (σ : sw_St) (N L : Nat) : Nat := if N = 0 then 0 else sw_Sn σ N L
theorem sw_xcount {σ : sw_St} (hR : sw_Rel σ) {N L la : Nat} (hN : N ≤ 8) (hn : σ 5 0 = nI N) (hL : L ≤ 24) (hl : σ 17 0 = nI L) (hla : la ≤ 5) (ha : σ 21 2 = nI la) : ∃ τ : sw_St, fX9_countStrokes σ = some (nI (sw_S1 σ N L), τ) ∧ sw_Fr σ τ ∧ (0 < sw_S1 σ N L → τ 23 0 = nI (sw_S1 σ N L) ∧ ∀ j : Nat, j < sw_S1 σ N L → τ 24 j = (sw_Zn σ N la (sw_S1 σ N L)).1 j ∧ τ 25 j = (sw_Zn σ N la (sw_S1 σ N L)).2.1 j) := by
  by_cases z : N = 0 ∨ L = 0
  · have hs : sw_S1 σ N L = 0 := by
      unfold sw_S1
      split
      · rfl
      · have := sw_ns_le (sw_kf (sw_X6 σ 5) N) (σ 20) L
        unfold sw_Sn
        omega
    refine ⟨σ, ?_, fun _ _ _ _ => rfl, fun q => by omega⟩
    rw [fX9_countStrokes, sw_lacks hN hn hL hl, if_pos z, sw_bs, if_neg (by decide), hs]
    rfl
  · obtain ⟨τ, e1, hF, i0, i1, i2, i3⟩ := sw_xcut hR hN hn hL hl hla ha
    have e : sw_S1 σ N L = sw_Sn σ N L := by unfold sw_S1; rw [if_neg (by omega)]
    rw [e]
    refine ⟨τ, ?_, hF, fun _ => ⟨i0, i3⟩⟩
    rw [fX9_countStrokes, sw_lacks hN hn hL hl, if_neg z, sw_bs, if_pos rfl, sw_x_as e1, sw_bs, i0]
theorem sw_mcutS {σ τ : sw_St} (hF : sw_Fr σ τ) (hR : sw_Rel σ) {N L la : Nat} (hN : N ≤ 8) (hn : σ 5 0 = nI N) (hL : L ≤ 24) (hl : σ 17 0 = nI L) (hla : la ≤ 5) (ha : σ 21 2 = nI la) : ∃ τ' : sw_St, fX10_cut τ = some ((), τ') ∧ sw_CM τ τ' (sw_Zn σ N la (sw_S1 σ N L)) (sw_S1 σ N L) := by
  have fn : τ 5 0 = nI N := by rw [hF 5 (by decide) (by decide) (by decide)]; exact hn
  have fl : τ 17 0 = nI L := by rw [hF 17 (by decide) (by decide) (by decide)]; exact hl
  have fa : τ 21 2 = nI la := by rw [hF 21 (by decide) (by decide) (by decide)]; exact ha
  obtain ⟨τ', g1, g2⟩ := sw_mcut (sw_Rel_x hF hR) hN fn hL fl hla fa
  obtain ⟨s1, s2⟩ := sw_Sn_x hF N L la (if N = 0 then 0 else sw_Sn σ N L)
  rw [s1, s2] at g2
  exact ⟨τ', g1, g2⟩
theorem sim_many (a0 : Int32) : sw_sim (fX9_many a0) (fX10_many a0) := by
  intro σ hR
  obtain ⟨N, L, la, hN, hn, hL, hl, hla, ha⟩ := sw_rel_n hR
  by_cases c4 : a0 = 4
  · obtain ⟨τ, e1, hF, -⟩ := sw_xcount hR hN hn hL hl hla ha
    obtain ⟨τ', g1, hG, j0, -⟩ := sw_mcutS hF hR hN hn hL hl hla ha
    refine ⟨nI (sw_S1 σ N L), τ, τ', ?_, ?_, sw_Rel_m hG (sw_Rel_x hF hR)⟩
    · rw [fX9_many, c4, if_neg (by decide), if_neg (by decide), if_neg (by decide), if_neg (by decide), if_pos rfl, e1, sw_bs]
    · rw [fX10_many, g1, sw_bs, c4, if_neg (by decide), if_neg (by decide), if_neg (by decide), if_neg (by decide), if_pos rfl, j0]
  · obtain ⟨τ', g1, hG, -⟩ := sw_mcutS (fun _ _ _ _ => rfl : sw_Fr σ σ) hR hN hn hL hl hla ha
    have hR2 := sw_Rel_m hG hR
    obtain ⟨r1, r2, -, r4, r5, -⟩ := id hR
    have q1 : τ' 37 1 = σ 5 0 := by rw [hG.2 1 (by decide) (by decide)]; exact r1.1
    have q2 : τ' 37 12 = σ 17 0 := by rw [hG.2 12 (by decide) (by decide)]; exact r2.1
    have q3 : τ' 37 24 = σ 26 0 := by rw [hG.2 24 (by decide) (by decide)]; exact r4.1
    have q4 : τ' 37 28 = σ 30 0 := by rw [hG.2 28 (by decide) (by decide)]; exact r5.1
    by_cases c0 : a0 = 0
    · exact ⟨_, σ, τ', by rw [fX9_many, if_pos c0], by rw [fX10_many, g1, sw_bs, if_pos c0, q1], hR2⟩
    by_cases c1 : a0 = 1
    · exact ⟨_, σ, τ', by rw [fX9_many, if_neg c0, if_pos c1], by rw [fX10_many, g1, sw_bs, if_neg c0, if_pos c1, q2], hR2⟩
    by_cases c2 : a0 = 2
    · exact ⟨_, σ, τ', by rw [fX9_many, if_neg c0, if_neg c1, if_pos c2], by rw [fX10_many, g1, sw_bs, if_neg c0, if_neg c1, if_pos c2, q3], hR2⟩
    by_cases c3 : a0 = 3
    · exact ⟨_, σ, τ', by rw [fX9_many, if_neg c0, if_neg c1, if_neg c2, if_pos c3], by rw [fX10_many, g1, sw_bs, if_neg c0, if_neg c1, if_neg c2, if_pos c3, q4], hR2⟩
    · exact ⟨_, σ, τ', by rw [fX9_many, if_neg c0, if_neg c1, if_neg c2, if_neg c3, if_neg c4], by rw [fX10_many, g1, sw_bs, if_neg c0, if_neg c1, if_neg c2, if_neg c3, if_neg c4], hR2⟩
/-- the look at one stroke -/
theorem sw_xst {σ : sw_St} (hR : sw_Rel σ) {N L la t : Nat} (hN : N ≤ 8) (hn : σ 5 0 = nI N) (hL : L ≤ 24) (hl : σ 17 0 = nI L) (hla : la ≤ 5) (ha : σ 21 2 = nI la) (ht : t < L) : ∃ τ : sw_St, fX9_refusalOfStroke (nI t) σ = some (if t < sw_S1 σ N L then 0 else -3, τ) ∧ sw_Fr σ τ ∧ (t < sw_S1 σ N L → fX1_placeBehind (nI t) τ = some ((sw_Zn σ N la (sw_S1 σ N L)).1 t, τ) ∧ fX1_headingBehind (nI t) τ = some ((sw_Zn σ N la (sw_S1 σ N L)).2.1 t, τ)) := by
  obtain ⟨τ, e1, hF, h3⟩ := sw_xcount hR hN hn hL hl hla ha
  have hs : sw_S1 σ N L ≤ 24 := by
    unfold sw_S1 sw_Sn
    have := sw_ns_le (sw_kf (sw_X6 σ 5) N) (σ 20) L
    split <;> omega
  refine ⟨τ, ?_, hF, fun q => ?_⟩
  · rw [fX9_refusalOfStroke, sw_has0 hL hl, if_pos (sw_ok_nI ht (by omega)), sw_bs, if_neg (by decide), e1, sw_bs]
    by_cases c : t < sw_S1 σ N L
    · rw [if_pos c, if_neg (nI_ge c (by omega))]
    · rw [if_neg c, if_pos (nI_le (by omega) (by omega))]
  · obtain ⟨i0, i3⟩ := h3 (by omega)
    obtain ⟨p1, p2⟩ := i3 t q
    rw [fX1_placeBehind, fX1_headingBehind, if_neg (nI_pos (by omega)), i0, if_neg (nI_ge q (by omega)), if_neg (show ¬ 24 ≤ nI t from nI_ge (b := 24) (by omega) (by decide)), if_pos (sw_ok_nI (by omega) (by decide)), if_neg (nI_pos (by omega)), if_neg (nI_ge q (by omega)), if_neg (show ¬ 24 ≤ nI t from nI_ge (b := 24) (by omega) (by decide)), if_pos (sw_ok_nI (by omega) (by decide)), nI_clamp (by omega), p1, p2]
    exact ⟨rfl, rfl⟩
theorem sw_mst {σ τ : sw_St} (hF : sw_Fr σ τ) (hR : sw_Rel σ) {N L la t : Nat} (hN : N ≤ 8) (hn : σ 5 0 = nI N) (hL : L ≤ 24) (hl : σ 17 0 = nI L) (hla : la ≤ 5) (ha : σ 21 2 = nI la) (ht : t < L) : ∃ τ' : sw_St, fX10_isUncut (nI t) τ = some (if t < sw_S1 σ N L then 0 else 1, τ') ∧ sw_CM τ τ' (sw_Zn σ N la (sw_S1 σ N L)) (sw_S1 σ N L) := by
  obtain ⟨τ', g1, g2⟩ := sw_mcutS hF hR hN hn hL hl hla ha
  have hs : sw_S1 σ N L ≤ 24 := by
    unfold sw_S1 sw_Sn
    have := sw_ns_le (sw_kf (sw_X6 σ 5) N) (σ 20) L
    split <;> omega
  refine ⟨τ', ?_, g2⟩
  rw [fX10_isUncut, g1, sw_bs, g2.2.1]
  by_cases c : t < sw_S1 σ N L
  · rw [if_pos c, if_pos (nI_lt c (by omega))]
  · rw [if_neg c, if_neg (nI_nlt (by omega) (by omega))]
theorem sim_where (a0 : Int32) : sw_sim (fX9_where a0) (fX10_where a0) := by
  intro σ hR
  obtain ⟨N, L, la, hN, hn, hL, hl, hla, ha⟩ := sw_rel_n hR
  have m12 := (sw_rel_m12 hR).2
  by_cases h : sw_ok a0 L = true
  · obtain ⟨t, ht, rfl⟩ := (sw_okE (by omega)).mp h
    obtain ⟨τ, e1, hF, h3⟩ := sw_xst hR hN hn hL hl hla ha ht
    obtain ⟨τ', g1, hG, j0, j2, j3⟩ := sw_mst hF hR hN hn hL hl hla ha ht
    have nl : fX10_noLine (nI t) τ = some (0, τ) := by rw [sw_noLine hL (by rw [hF 37 (by decide) (by decide) (by decide), m12]; exact hl), if_pos h]
    by_cases c : t < sw_S1 σ N L
    · refine ⟨Int32.toInt64 ((sw_Zn σ N la (sw_S1 σ N L)).1 t), τ, τ', ?_, ?_, sw_Rel_m hG (sw_Rel_x hF hR)⟩
      · rw [fX9_where, e1, if_pos c, sw_bs, if_pos rfl, (h3 c).1, sw_bs]
      · rw [fX10_where, nl, sw_bs, if_pos rfl, g1, if_pos c, sw_bs, if_pos rfl, if_pos (sw_ok_nI (by omega) (by decide)), nI_clamp (by omega), (j3 t c).1]
    · refine ⟨-9223372036854775808, τ, τ', ?_, ?_, sw_Rel_m hG (sw_Rel_x hF hR)⟩
      · rw [fX9_where, e1, if_neg c, sw_bs, if_neg (by decide)]
      · rw [fX10_where, nl, sw_bs, if_pos rfl, g1, if_neg c, sw_bs, if_neg (by decide)]
        rfl
  · exact sw_ro hR (-9223372036854775808) (by rw [fX9_where, fX9_refusalOfStroke, sw_has0 hL hl, if_neg h, sw_bs, if_pos rfl, sw_bs, if_neg (by decide)]) (by rw [fX10_where, sw_noLine hL (by rw [m12]; exact hl), if_neg h, sw_bs, if_neg (by decide)]; rfl)
theorem sim_heading (a0 : Int32) : sw_sim (fX9_heading a0) (fX10_heading a0) := by
  intro σ hR
  obtain ⟨N, L, la, hN, hn, hL, hl, hla, ha⟩ := sw_rel_n hR
  have m12 := (sw_rel_m12 hR).2
  by_cases h : sw_ok a0 L = true
  · obtain ⟨t, ht, rfl⟩ := (sw_okE (by omega)).mp h
    obtain ⟨τ, e1, hF, h3⟩ := sw_xst hR hN hn hL hl hla ha ht
    obtain ⟨τ', g1, hG, j0, j2, j3⟩ := sw_mst hF hR hN hn hL hl hla ha ht
    have nl : fX10_noLine (nI t) τ = some (0, τ) := by rw [sw_noLine hL (by rw [hF 37 (by decide) (by decide) (by decide), m12]; exact hl), if_pos h]
    by_cases c : t < sw_S1 σ N L
    · refine ⟨Int32.toInt64 ((sw_Zn σ N la (sw_S1 σ N L)).2.1 t), τ, τ', ?_, ?_, sw_Rel_m hG (sw_Rel_x hF hR)⟩
      · rw [fX9_heading, e1, if_pos c, sw_bs, if_pos rfl, (h3 c).2, sw_bs]
      · rw [fX10_heading, nl, sw_bs, if_pos rfl, g1, if_pos c, sw_bs, if_pos rfl, if_pos (sw_ok_nI (by omega) (by decide)), nI_clamp (by omega), (j3 t c).2]
    · refine ⟨-9223372036854775808, τ, τ', ?_, ?_, sw_Rel_m hG (sw_Rel_x hF hR)⟩
      · rw [fX9_heading, e1, if_neg c, sw_bs, if_neg (by decide)]
      · rw [fX10_heading, nl, sw_bs, if_pos rfl, g1, if_neg c, sw_bs, if_neg (by decide)]
        rfl
  · exact sw_ro hR (-9223372036854775808) (by rw [fX9_heading, fX9_refusalOfStroke, sw_has0 hL hl, if_neg h, sw_bs, if_pos rfl, sw_bs, if_neg (by decide)]) (by rw [fX10_heading, sw_noLine hL (by rw [m12]; exact hl), if_neg h, sw_bs, if_neg (by decide)]; rfl)
