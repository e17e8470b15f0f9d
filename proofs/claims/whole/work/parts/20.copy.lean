theorem sw_ix08b (k i x : Nat) : 80 * nI k + nI i + nI x = nI (80 * k + i + x) := by rw [sw_ix08, nI_add]
theorem sw_cp2 {o j n : Nat} (hn : n ≤ 80) (ho : 80 * o + j + n ≤ 320) : ∀ (m x : Nat) (σ : sw_St), x ≤ n → n - x < m → ∃ g : Nat → Int32, fX10_copy_L144 m (nI o) (nI j) (nI n) (nI x) σ = some (nI n, sw_up (sw_ar σ 61 g) 37 0 0) ∧ (∀ y : Nat, x ≤ y → y < n → g (80 * o + j + y) = σ 62 y) ∧ ∀ z : Nat, (z < 80 * o + j + x ∨ 80 * o + j + n ≤ z) → g z = σ 61 z := by
  intro m
  induction m with
  | zero => intro x σ _ h; omega
  | succ m ih =>
    intro x σ hx hm
    unfold fX10_copy_L144
    by_cases h : x = n
    · subst h
      refine ⟨σ 61, ?_, fun y h1 h2 => by omega, fun _ _ => rfl⟩
      rw [if_pos (nI_le (Nat.le_refl _) (by omega)), fX10_refused, sw_le, sw_bs]
      congr 3
      funext c
      by_cases hc : c = 61
      · subst hc; rw [sw_ar_eq]
      · rw [sw_ar_ne hc]
    · rw [if_neg (nI_ge (show x < n by omega) (by omega)), if_pos (sw_ok_nI (show x < 80 by omega) (by decide)), sw_ix08b, if_pos (sw_ok_nI (show 80 * o + j + x < 320 by omega) (by decide)), sw_le, nI_clamp (show 80 * o + j + x < 2 ^ 31 by omega), nI_clamp (show x < 2 ^ 31 by omega), nI_1]
      obtain ⟨g, e1, e2, e3⟩ := ih (x + 1) (sw_up σ 61 (80 * o + j + x) (σ 62 x)) (by omega) (by omega)
      refine ⟨g, ?_, fun y h1 h2 => ?_, fun z hz => ?_⟩
      · rw [e1]
        congr 3
        funext c
        by_cases hc : c = 61
        · subst hc; rw [sw_ar_eq, sw_ar_eq]
        · rw [sw_ar_ne hc, sw_ar_ne hc, sw_up_ne hc]
      · by_cases hy : y = x
        · subst hy
          rw [e3 _ (by omega), sw_up_eq, sw_ue]
        · rw [e2 y (by omega) h2, sw_up_ne (by decide)]
      · rw [e3 z (by omega), sw_up_eq, sw_un (by omega)]
theorem sw_cp1 {k i o j n : Nat} (hn : n ≤ 80) (hk : 80 * k + i + n ≤ 320) : ∀ (m x : Nat) (σ : sw_St), x ≤ n → n - x < m → ∃ g : Nat → Int32, fX10_copy_L107 m (nI k) (nI i) (nI o) (nI j) (nI n) (nI x) σ = fX10_copy_L144 sw_fuel (nI o) (nI j) (nI n) 0 (sw_ar σ 62 g) ∧ (∀ y : Nat, x ≤ y → y < n → g y = σ 61 (80 * k + i + y)) ∧ ∀ y : Nat, y < x → g y = σ 62 y := by
  intro m
  induction m with
  | zero => intro x σ _ h; omega
  | succ m ih =>
    intro x σ hx hm
    unfold fX10_copy_L107
    by_cases h : x = n
    · subst h
      refine ⟨σ 62, ?_, fun y h1 h2 => by omega, fun _ _ => rfl⟩
      rw [if_pos (nI_le (Nat.le_refl _) (by omega))]
      congr 1
      funext c
      by_cases hc : c = 62
      · subst hc; rw [sw_ar_eq]
      · rw [sw_ar_ne hc]
    · rw [if_neg (nI_ge (show x < n by omega) (by omega)), sw_ix08b, if_pos (sw_ok_nI (show 80 * k + i + x < 320 by omega) (by decide)), if_pos (sw_ok_nI (show x < 80 by omega) (by decide)), sw_le, nI_clamp (show 80 * k + i + x < 2 ^ 31 by omega), nI_clamp (show x < 2 ^ 31 by omega), nI_1]
      obtain ⟨g, e1, e2, e3⟩ := ih (x + 1) (sw_up σ 62 x (σ 61 (80 * k + i + x))) (by omega) (by omega)
      refine ⟨g, ?_, fun y h1 h2 => ?_, fun y hy => ?_⟩
      · rw [e1]
        congr 1
        funext c
        by_cases hc : c = 62
        · subst hc; rw [sw_ar_eq, sw_ar_eq]
        · rw [sw_ar_ne hc, sw_ar_ne hc, sw_up_ne hc]
      · by_cases hy : y = x
        · subst hy
          rw [e3 _ (by omega), sw_up_eq, sw_ue]
        · rw [e2 y (by omega) h2, sw_up_ne (by decide)]
      · rw [e3 y (by omega), sw_up_eq, sw_un (by omega)]
theorem sw_csE {N : Nat} {x y : Int32} (hN : N ≤ 80) (h : sw_cs N x y = true) : ∃ i n : Nat, x = nI i ∧ y = nI n ∧ i + n ≤ N := by
  simp only [sw_cs, Bool.and_eq_true, decide_eq_true_eq] at h
  refine ⟨x.toInt.toNat, y.toInt.toNat, ?_, ?_, by omega⟩
  · apply Int32.toInt_inj.mp
    rw [nI_toInt (by omega)]
    omega
  · apply Int32.toInt_inj.mp
    rw [nI_toInt (by omega)]
    omega
theorem sw_oneLane {k o : Nat} {σ : sw_St} (hk : k < 4) (ho : o < 4) : fX7_areOfOneLane (nI k) (nI o) σ = some (if σ 2 k = σ 2 o then 1 else 0, σ) := by
  rw [fX7_areOfOneLane, sw_isSheet, if_pos (sw_k4 hk), sw_bs, if_neg (by decide), sw_isSheet, if_pos (sw_k4 ho), sw_bs, if_neg (by decide), if_pos (sw_k4 hk), if_pos (sw_k4 ho), nI_clamp (show k < 2 ^ 31 by omega), nI_clamp (show o < 2 ^ 31 by omega)]
  by_cases h : σ 2 k = σ 2 o
  · rw [if_pos h, if_pos h]
  · rw [if_neg h, if_neg h]
theorem sw_mfail (f : Int32) (σ : sw_St) : sw_bind (fX10_failed f σ) (fun r s => some (r, s)) = some (-10 - f, sw_up σ 37 0 f) := rfl
theorem sw_xfail (f : Int32) (σ : sw_St) : sw_bind (fX9_answerOfFault f σ) (fun r s => some (r, s)) = some (-10 - f, sw_up σ 0 13 f) := rfl
theorem sw_mref (f : Int32) (σ : sw_St) : sw_bind (fX10_refused f σ) (fun r s => some (r, s)) = some (f, sw_up σ 37 0 0) := rfl
theorem sim_copy (a0 a1 a2 a3 a4 : Int32) : sw_sim (fX9_copy a0 a1 a2 a3 a4) (fX10_copy a0 a1 a2 a3 a4) := by
  intro σ hR
  obtain ⟨hT, hB, hH, hF, hRd, hS, ⟨hZ1, hZ2⟩⟩ := id hR
  have f0 := sw_fault_rel hR
  have u59 : ∀ b : Int32, (sw_up σ 0 13 b) 59 = σ 59 := fun b => sw_up_ne (by decide)
  have u60 : ∀ b : Int32, (sw_up σ 0 13 b) 60 = σ 60 := fun b => sw_up_ne (by decide)
  have u2 : ∀ b : Int32, (sw_up σ 0 13 b) 2 = σ 2 := fun b => sw_up_ne (by decide)
  have u3 : ∀ b : Int32, (sw_up σ 0 13 b) 3 = σ 3 := fun b => sw_up_ne (by decide)
  by_cases h : sw_ok a0 4 = true
  · by_cases h' : sw_ok a2 4 = true
    · obtain ⟨k, hk, rfl⟩ := (sw_okE (by decide)).mp h
      obtain ⟨o, ho, rfl⟩ := (sw_okE (by decide)).mp h'
      have ck : (nI k).toNatClampNeg = k := nI_clamp (by omega)
      have co : (nI o).toNatClampNeg = o := nI_clamp (by omega)
      have X : fX9_copy (nI k) a1 (nI o) a3 a4 σ = (if σ 2 k = -1 then some (-10 - 1, sw_up σ 0 13 1) else if σ 2 o = -1 then some (-10 - 1, sw_up σ 0 13 1) else if σ 2 k = σ 2 o then (sw_bind (fX7_hasCells (nI k) a1 a4 (sw_up σ 0 13 0)) (fun r12 σ13 => (if r12 = 0 then fX9_copy_B96 σ13 else sw_bind (fX7_hasCells (nI o) a3 a4 σ13) (fun r14 σ15 => (if r14 = 0 then fX9_copy_B96 σ15 else sw_bind (fX7_carry (nI k) a1 (nI o) a3 a4 σ15) (fun r16 σ17 => some (a4, σ17))))))) else some (-10 - 2, sw_up σ 0 13 2)) := by
        rw [fX9_copy, sw_le, sw_isSheet, if_pos h, sw_bs, if_neg (by decide), sw_isSheet, if_pos h', sw_bs, if_neg (by decide), sw_isNothing hk, u2]
        by_cases c1 : σ 2 k = -1
        · rw [if_pos c1, if_pos c1, sw_bs, if_neg (by decide), fX9_copy_B43, sw_xfail, sw_up_up]
        · rw [if_neg c1, if_neg c1, sw_bs, if_pos rfl, sw_isNothing ho, u2]
          by_cases c2 : σ 2 o = -1
          · rw [if_pos c2, if_pos c2, sw_bs, if_neg (by decide), fX9_copy_B43, sw_xfail, sw_up_up]
          · rw [if_neg c2, if_neg c2, sw_bs, if_pos rfl, sw_oneLane hk ho, u2]
            by_cases c3 : σ 2 k = σ 2 o
            · rw [if_pos c3, if_pos c3, sw_bs, if_neg (by decide)]
            · rw [if_neg c3, if_neg c3, sw_bs, if_pos rfl, sw_xfail, sw_up_up]
      have Y : ∀ τ : sw_St, fX10_copy (nI k) a1 (nI o) a3 a4 τ = (if τ 59 k < 0 then some (-10 - 1, sw_up τ 37 0 1) else if 0 ≤ τ 59 o then (if τ 60 k = τ 60 o then sw_bind (fX10_isBeyond a1 (Int32.toInt64 a4) (τ 59 k) τ) (fun r5 σ6 => (if r5 = 0 then sw_bind (fX10_isBeyond a3 (Int32.toInt64 a4) (σ6 59 o) σ6) (fun r7 σ8 => (if r7 = 0 then fX10_copy_L107 sw_fuel (nI k) a1 (nI o) a3 a4 0 σ8 else fX10_copy_B98 σ8)) else fX10_copy_B98 σ6)) else some (-10 - 2, sw_up τ 37 0 2)) else some (-10 - 1, sw_up τ 37 0 1)) := by
        intro τ
        rw [fX10_copy, sw_noSheet, if_pos h, sw_bs, if_pos rfl, sw_noSheet, if_pos h', sw_bs, if_pos rfl, if_pos h, if_pos h', if_pos h, if_pos h', if_pos h, ck, co, fX10_copy_B38, sw_mfail, sw_mfail]
        simp only [if_pos h']
      rcases hS k hk with ⟨q1, q2⟩ | ⟨N, q1, q2, q3, q4, q5, q6⟩
      · refine ⟨_, _, _, by rw [X, if_pos q1], ?_, f0 1⟩
        rw [Y, u59, q2, if_pos (by decide)]
      · have hl : ¬ σ 2 k = -1 := sw_lane_ne q5
        have np : ¬ nI N < 0 := nI_pos (by omega)
        rcases hS o ho with ⟨p1, p2⟩ | ⟨M, p1, p2, p3, p4, p5, p6⟩
        · refine ⟨_, _, _, by rw [X, if_neg hl, if_pos p1], ?_, f0 1⟩
          rw [Y, u59, q3, if_neg np, p2, if_neg (by decide)]
        · have hl' : ¬ σ 2 o = -1 := sw_lane_ne p5
          have pp : 0 ≤ nI M := nI_pos' (by omega)
          rw [if_neg hl, if_neg hl'] at X
          by_cases c3 : σ 2 k = σ 2 o
          · rw [if_pos c3, sw_hasCells hk q1 (by rw [u2]; exact hl) (by rw [u3]; exact q2), sw_bs] at X
            have Y1 := fun b : Int32 => Y (sw_up σ 0 13 b)
            simp only [u59, u60, q3, p3, if_neg np, if_pos pp, q4, p4, if_pos c3, sw_isBeyond q1, sw_isBeyond p1, sw_bs] at Y1
            by_cases c4 : sw_cs N a1 a4 = true
            · rw [if_pos c4, if_neg (by decide), sw_hasCells ho p1 (by rw [u2]; exact hl') (by rw [u3]; exact p2), sw_bs] at X
              by_cases c5 : sw_cs M a3 a4 = true
              · obtain ⟨i, n, rfl, rfl, hin⟩ := sw_csE q1 c4
                obtain ⟨j, n', rfl, e', hjn⟩ := sw_csE p1 c5
                have hnn : n = n' := (nI_eq (by omega) (by omega)).mp e'
                subst hnn
                rw [if_pos c5, if_neg (by decide), fX7_carry, sw_hasCells hk q1 (by rw [u2]; exact hl) (by rw [u3]; exact q2), if_pos c4, sw_bs, if_neg (by decide), sw_hasCells ho p1 (by rw [u2]; exact hl') (by rw [u3]; exact p2), if_pos c5, sw_bs, if_neg (by decide), sw_ix80, sw_ix80, nI_clamp (show 80 * k + i < 2 ^ 31 by omega), nI_clamp (show 80 * o + j < 2 ^ 31 by omega), nI_clamp (show n < 2 ^ 31 by omega)] at X
                have hck : sw_cok (nI (80 * k + i)) (nI (80 * o + j)) (nI n) 320 320 = true := by
                  simp only [sw_cok, nI_toInt (show 80 * k + i < 2 ^ 31 by omega), nI_toInt (show 80 * o + j < 2 ^ 31 by omega), nI_toInt (show n < 2 ^ 31 by omega), nI_clamp (show 80 * k + i < 2 ^ 31 by omega), nI_clamp (show 80 * o + j < 2 ^ 31 by omega), nI_clamp (show n < 2 ^ 31 by omega), Bool.and_eq_true, decide_eq_true_eq]
                  omega
                rw [if_pos hck, sw_le, sw_bs] at X
                have hb := sw_fuel_big
                obtain ⟨g, g1, g2, g3⟩ := sw_cp1 (k := k) (i := i) (o := o) (j := j) (n := n) (by omega) (by omega) sw_fuel 0 (sw_ar (sw_up σ 0 13 0) 4 (va_cpy ((sw_up σ 0 13 0) 4) ((sw_up σ 0 13 0) 4) (80 * k + i) (80 * o + j) n)) (Nat.zero_le _) (by omega)
                obtain ⟨g', h1, h2, h3⟩ := sw_cp2 (o := o) (j := j) (n := n) (by omega) (by omega) sw_fuel 0 (sw_ar (sw_ar (sw_up σ 0 13 0) 4 (va_cpy ((sw_up σ 0 13 0) 4) ((sw_up σ 0 13 0) 4) (80 * k + i) (80 * o + j) n)) 62 g) (Nat.zero_le _) (by omega)
                rw [show nI 0 = 0 from rfl] at g1 h1
                refine ⟨_, _, sw_up (sw_ar (sw_ar (sw_ar (sw_up σ 0 13 0) 4 (va_cpy ((sw_up σ 0 13 0) 4) ((sw_up σ 0 13 0) 4) (80 * k + i) (80 * o + j) n)) 62 g) 61 g') 37 0 0, X, ?_, ?_⟩
                · rw [Y]
                  simp only [sw_ar_ne (show 59 ≠ 4 by decide), sw_ar_ne (show 60 ≠ 4 by decide), u59, u60, q3, p3, if_neg np, if_pos pp, q4, p4, if_pos c3, sw_isBeyond q1, sw_isBeyond p1, sw_bs, c4, c5, if_true]
                  rw [g1, h1]
                · simp only [sw_Rel, sw_up_eq, sw_ue, sw_un, sw_up_ne, sw_ar_eq, sw_ar_ne, ne_eq, Nat.reduceEqDiff, not_false_eq_true]
                  simp only [sw_up_ne, sw_ar_eq, sw_ar_ne, ne_eq, Nat.reduceEqDiff, not_false_eq_true] at g2 h2 h3
                  refine ⟨hT, hB, hH, hF, hRd, sw_RS_cells hS _ _ (fun j' i' N' hj hi' hN' hs he => ?_), ⟨rfl, hZ2⟩⟩
                  by_cases hz : 80 * o + j ≤ 80 * j' + i' ∧ 80 * j' + i' < 80 * o + j + n
                  · have e1 : 80 * j' + i' = 80 * o + j + (80 * j' + i' - (80 * o + j)) := by omega
                    have e2 := h2 (80 * j' + i' - (80 * o + j)) (Nat.zero_le _) (by omega)
                    rw [← e1] at e2
                    rw [e2, g2 _ (Nat.zero_le _) (by omega)]
                    simp only [va_cpy, if_pos hz]
                    have e3 := q6 (i + (80 * j' + i' - (80 * o + j))) (by omega)
                    rw [← Nat.add_assoc] at e3
                    exact e3
                  · rw [h3 _ (by omega)]
                    simp only [va_cpy, if_neg hz]
                    exact he
              · rw [if_neg c5, if_pos rfl, fX9_copy_B96, sw_xfail, sw_up_up] at X
                refine ⟨_, _, _, X, ?_, f0 3⟩
                rw [Y1, if_pos c4, if_pos rfl, if_neg c5, if_neg (by decide), fX10_copy_B98, sw_mfail]
            · rw [if_neg c4, if_pos rfl, fX9_copy_B96, sw_xfail, sw_up_up] at X
              refine ⟨_, _, _, X, ?_, f0 3⟩
              rw [Y1, if_neg c4, if_neg (by decide), fX10_copy_B98, sw_mfail]
          · rw [if_neg c3] at X
            refine ⟨_, _, _, X, ?_, f0 2⟩
            rw [Y, u59, u60, q3, p3, if_neg np, if_pos pp, q4, p4, if_neg c3]
    · refine ⟨-1, sw_up σ 0 13 0, sw_up (sw_up σ 0 13 0) 37 0 0, ?_, ?_, f0 0⟩
      · rw [fX9_copy, sw_le, sw_isSheet, if_pos h, sw_bs, if_neg (by decide), sw_isSheet, if_neg h', sw_bs, if_pos rfl]
      · rw [fX10_copy, sw_noSheet, if_pos h, sw_bs, if_pos rfl, sw_noSheet, if_neg h', sw_bs, if_neg (by decide), fX10_copy_B14, sw_mref]
  · refine ⟨-1, sw_up σ 0 13 0, sw_up (sw_up σ 0 13 0) 37 0 0, ?_, ?_, f0 0⟩
    · rw [fX9_copy, sw_le, sw_isSheet, if_neg h, sw_bs, if_pos rfl]
    · rw [fX10_copy, sw_noSheet, if_neg h, sw_bs, if_neg (by decide), fX10_copy_B14, sw_mref]
