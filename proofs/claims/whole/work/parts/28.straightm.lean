def sw_FrH (σ τ : sw_St) : Prop := (∀ c : Nat, c ≠ 37 → c ≠ 49 → c ≠ 50 → τ c = σ c) ∧ ∀ k : Nat, k ≠ 16 → k ≠ 17 → k ≠ 20 → k ≠ 23 → τ 37 k = σ 37 k
theorem sw_mcutH {σ τ : sw_St} (hF : sw_FrH σ τ) (hR : sw_Rel σ) {N L la : Nat} (hN1 : ¬ N = 0) (hN : N ≤ 8) (hn : σ 5 0 = nI N) (hL : L ≤ 24) (hl : σ 17 0 = nI L) (hla : la ≤ 5) (ha : σ 21 2 = nI la) : ∃ τ' : sw_St, fX10_cut τ = some ((), τ') ∧ sw_FrH σ τ' ∧ τ' 37 16 = τ 37 16 ∧ τ' 37 17 = τ 37 17 ∧ τ' 37 23 = sw_of σ N L la (τ 37 16) (τ 37 17) := by
  obtain ⟨hm2, hv, he⟩ := sw_rel_saw hR hn hN
  obtain ⟨-, ⟨hmB, L', hL', hl', hB⟩, ⟨⟨h1, h2, h3, h4⟩, -⟩, -⟩ := id hR
  have e : L' = L := (nI_eq (by omega) (by omega)).mp (hl'.symm.trans hl)
  subst e
  obtain ⟨g1, g2, g3, g4⟩ := sw_ps_congr he
  obtain ⟨f, fk⟩ := hF
  have hM : sw_M6 τ = sw_M6 σ := by
    funext k
    show (τ 38 k, τ 39 k, τ 40 k, τ 41 k, τ 42 k) = (σ 38 k, σ 39 k, σ 40 k, σ 41 k, σ 42 k)
    rw [f 38 (by decide) (by decide) (by decide), f 39 (by decide) (by decide) (by decide), f 40 (by decide) (by decide) (by decide), f 41 (by decide) (by decide) (by decide), f 42 (by decide) (by decide) (by decide)]
  have f46 := f 46 (by decide) (by decide) (by decide)
  have f47 := f 47 (by decide) (by decide) (by decide)
  have f48 := f 48 (by decide) (by decide) (by decide)
  obtain ⟨τ', e1, ⟨k1, k2⟩, -, i2, -⟩ := sw_mcut0 (σ := τ) (N := N) (L := L') (la := la) hN (by rw [fk 1 (by decide) (by decide) (by decide) (by decide)]; exact hm2) (by rw [hM]; exact sw_okS_congr he hv) hL (by rw [fk 12 (by decide) (by decide) (by decide) (by decide), hmB]; exact hl) (fun t ht => by
    obtain ⟨⟨q1, -, -⟩, j, j1, j2, j3⟩ := hB t ht
    exact ⟨j, j1, j2, by rw [f46, q1]; exact j3⟩) hla (by rw [fk 18 (by decide) (by decide) (by decide) (by decide), h3]; exact ha)
  refine ⟨τ', e1, ⟨fun c a1 a2 a3 => ?_, fun k a1 a2 a3 a4 => ?_⟩, k2 16 (by decide) (by decide), k2 17 (by decide) (by decide), ?_⟩
  · rw [k1 c a1 a2 a3]; exact f c a1 a2 a3
  · rw [k2 k a3 a4]; exact fk k a1 a2 a3 a4
  · have ek : sw_kf (sw_M6 σ) N = sw_kf (sw_X6 σ 5) N := by unfold sw_kf; rw [g3, g4]
    have es : sw_ns (sw_kf (sw_M6 σ) N) (σ 48) L' = sw_Sn σ N L' := by
      rw [ek]
      exact sw_ns_congr (fun t ht => (hB t ht).1.2.2)
    have hs : sw_Sn σ N L' ≤ L' := sw_ns_le _ _ _
    rw [i2, if_neg hN1, hM, f46, f47, f48, es, fk 19 (by decide) (by decide) (by decide) (by decide), g1, h4]
    unfold sw_of
    rw [sw_cu_congr (hd' := σ 18) (gr' := σ 19) (fun t ht => ⟨(hB t (by omega)).1.1, (hB t (by omega)).1.2.1⟩)]
def sw_pv (b : Nat → Int32 × Int32) (k : Nat) : Int32 × Int32 := if k = 0 then (0, -9) else b (k - 1)
theorem sw_mleanL {σ : sw_St} (hR : sw_Rel σ) {N L la : Nat} (hN1 : ¬ N = 0) (hN : N ≤ 8) (hn : σ 5 0 = nI N) (hL : L ≤ 24) (hl : σ 17 0 = nI L) (hla : la ≤ 5) (ha : σ 21 2 = nI la) (a : Int32) : ∀ (n k : Nat) (τ : sw_St), k ≤ 19 → 19 - k < n → sw_FrH σ τ → τ 37 17 = σ 37 17 → ∃ τ' : sw_St, fX10_straightest_L63 n a 1 (σ 37 16) (sw_pv (sw_bb (fun x => sw_of σ N L la x (σ 21 1)) sw_sq) k).1 (sw_pv (sw_bb (fun x => sw_of σ N L la x (σ 21 1)) sw_sq) k).2 (nI k) τ = some (if 2 ≤ a then (sw_bb (fun x => sw_of σ N L la x (σ 21 1)) sw_sq 18).2 else (sw_bb (fun x => sw_of σ N L la x (σ 21 1)) sw_sq 18).1, τ') ∧ sw_FrM σ τ' := by
  obtain ⟨-, -, ⟨⟨r1, r2, -, -⟩, -⟩, -⟩ := id hR
  intro n
  induction n with
  | zero => intro k τ _ h; omega
  | succ n ih =>
    intro k τ hk hm hF ho
    rw [fX10_straightest_L63]
    rw [if_neg (by decide)]
    rw [fX10_straightest_B76]
    by_cases e : k = 19
    · subst e
      refine ⟨sw_up τ 37 16 (σ 37 16), ?_, ⟨fun c a1 a2 a3 => by rw [sw_up_ne a1]; exact hF.1 c a1 a2 a3, fun j a1 a2 => ?_⟩⟩
      · rw [if_pos (by decide), if_neg (by decide), sw_le, fX10_straightest_B182]
        by_cases c : 2 ≤ a
        · rw [if_pos c, if_pos c]; rfl
        · rw [if_neg c, if_neg c]; rfl
      · rw [sw_up_eq]
        by_cases j1 : j = 16
        · subst j1; rw [sw_ue]
        · rw [sw_un j1]
          by_cases j2 : j = 17
          · subst j2; exact ho
          · exact hF.2 j (by omega) (by omega) a1 a2
    · have hk' : k < 19 := by omega
      rw [if_neg (show ¬ (19 : Int32) ≤ nI k from nI_ge (b := 19) hk' (by decide)), if_neg (by decide)]
      have B : ∀ its : Int32, its = sw_sq k → ∃ τ' : sw_St, fX10_straightest_B110 (fX10_straightest_L63 n) a 1 (σ 37 16) (sw_pv (sw_bb (fun x => sw_of σ N L la x (σ 21 1)) sw_sq) k).1 (sw_pv (sw_bb (fun x => sw_of σ N L la x (σ 21 1)) sw_sq) k).2 (nI k) its τ = some (if 2 ≤ a then (sw_bb (fun x => sw_of σ N L la x (σ 21 1)) sw_sq 18).2 else (sw_bb (fun x => sw_of σ N L la x (σ 21 1)) sw_sq 18).1, τ') ∧ sw_FrM σ τ' := by
        intro its hits
        have hF1 : sw_FrH σ (sw_up τ 37 16 its) := ⟨fun c a1 a2 a3 => by rw [sw_up_ne a1]; exact hF.1 c a1 a2 a3, fun j a1 a2 a3 a4 => by rw [sw_up_eq, sw_un (by omega)]; exact hF.2 j a1 a2 a3 a4⟩
        obtain ⟨τ1, c1, c2, c3, c4, c5⟩ := sw_mcutH hF1 hR hN1 hN hn hL hl hla ha
        have oI : (sw_up τ 37 16 its) 37 16 = its := by rw [sw_up_eq, sw_ue]
        have oO : (sw_up τ 37 16 its) 37 17 = σ 37 17 := by rw [sw_up_eq, sw_un (by decide)]; exact ho
        obtain ⟨τ', g1, g2⟩ := ih (k + 1) τ1 (by omega) (by omega) c2 (by rw [c4, oO])
        have hoff : τ1 37 23 = (fun x => sw_of σ N L la x (σ 21 1)) (sw_sq k) := by rw [c5, oI, oO, r2, hits]
        refine ⟨τ', ?_, g2⟩
        rw [fX10_straightest_B110, if_neg (by decide), sw_le, fX10_straightest_B131, c1, sw_bs]
        have pk1 : sw_pv (sw_bb (fun x => sw_of σ N L la x (σ 21 1)) sw_sq) (k + 1) = sw_bb (fun x => sw_of σ N L la x (σ 21 1)) sw_sq k := by unfold sw_pv; rw [if_neg (by omega), show k + 1 - 1 = k by omega]
        rw [pk1] at g1
        by_cases z : k = 0
        · subst z
          rw [show (sw_pv (sw_bb (fun x => sw_of σ N L la x (σ 21 1)) sw_sq) 0).2 = -9 from rfl, if_pos (by decide), fX10_straightest_B149, sw_le, fX10_straightest_B159, hoff, hits, nI_1]
          exact g1
        · have pk : sw_pv (sw_bb (fun x => sw_of σ N L la x (σ 21 1)) sw_sq) k = sw_bb (fun x => sw_of σ N L la x (σ 21 1)) sw_sq (k - 1) := by unfold sw_pv; rw [if_neg z]
          have hpos : ¬ (sw_bb (fun x => sw_of σ N L la x (σ 21 1)) sw_sq (k - 1)).2 < 0 := by
            rw [← sw_bb_2]
            exact Int32.not_lt.mpr (sw_of_pos _ _ _ _ _ _)
          obtain ⟨j, rfl⟩ : ∃ j, k = j + 1 := ⟨k - 1, by omega⟩
          rw [pk, if_neg hpos, show j + 1 - 1 = j by omega, hoff]
          rw [sw_bb] at g1
          by_cases c : (sw_bb (fun x => sw_of σ N L la x (σ 21 1)) sw_sq j).2 ≤ (fun x => sw_of σ N L la x (σ 21 1)) (sw_sq (j + 1))
          · rw [if_pos c] at g1
            rw [if_pos c, fX10_straightest_B159, nI_1]
            exact g1
          · rw [if_neg c] at g1
            rw [if_neg c, fX10_straightest_B149, sw_le, fX10_straightest_B159, hoff, hits, nI_1]
            exact g1
      obtain ⟨s1, s2, s3⟩ := sw_sq_m k hk'
      by_cases c : k % 2 = 1
      · rw [if_pos (s1.mpr c)]
        exact B _ (s2 c)
      · rw [if_neg (fun q => c (s1.mp q))]
        exact B _ (s3 c)
theorem sw_msteersL {σ : sw_St} (hR : sw_Rel σ) {N L la : Nat} (hN1 : ¬ N = 0) (hN : N ≤ 8) (hn : σ 5 0 = nI N) (hL : L ≤ 24) (hl : σ 17 0 = nI L) (hla : la ≤ 5) (ha : σ 21 2 = nI la) (a : Int32) : ∀ (n k : Nat) (τ : sw_St), k ≤ 10 → 10 - k < n → sw_FrH σ τ → τ 37 16 = σ 37 16 → ∃ τ' : sw_St, fX10_straightest_L63 n a 0 (σ 37 17) (sw_pv (sw_bb (sw_of σ N L la (σ 21 0)) nI) k).1 (sw_pv (sw_bb (sw_of σ N L la (σ 21 0)) nI) k).2 (nI k) τ = some (if 2 ≤ a then (sw_bb (sw_of σ N L la (σ 21 0)) nI 9).2 else (sw_bb (sw_of σ N L la (σ 21 0)) nI 9).1, τ') ∧ sw_FrM σ τ' := by
  obtain ⟨-, -, ⟨⟨r1, r2, -, -⟩, -⟩, -⟩ := id hR
  intro n
  induction n with
  | zero => intro k τ _ h; omega
  | succ n ih =>
    intro k τ hk hm hF ho
    rw [fX10_straightest_L63]
    rw [if_pos rfl]
    rw [fX10_straightest_B76]
    by_cases e : k = 10
    · subst e
      refine ⟨sw_up τ 37 17 (σ 37 17), ?_, ⟨fun c a1 a2 a3 => by rw [sw_up_ne a1]; exact hF.1 c a1 a2 a3, fun j a1 a2 => ?_⟩⟩
      · rw [if_pos (by decide), if_pos rfl, sw_le, fX10_straightest_B182]
        by_cases c : 2 ≤ a
        · rw [if_pos c, if_pos c]; rfl
        · rw [if_neg c, if_neg c]; rfl
      · rw [sw_up_eq]
        by_cases j1 : j = 17
        · subst j1; rw [sw_ue]
        · rw [sw_un j1]
          by_cases j2 : j = 16
          · subst j2; exact ho
          · exact hF.2 j (by omega) (by omega) a1 a2
    · have hk' : k < 10 := by omega
      rw [if_neg (show ¬ (10 : Int32) ≤ nI k from nI_ge (b := 10) hk' (by decide)), if_pos rfl]
      have B : ∀ its : Int32, its = nI k → ∃ τ' : sw_St, fX10_straightest_B110 (fX10_straightest_L63 n) a 0 (σ 37 17) (sw_pv (sw_bb (sw_of σ N L la (σ 21 0)) nI) k).1 (sw_pv (sw_bb (sw_of σ N L la (σ 21 0)) nI) k).2 (nI k) its τ = some (if 2 ≤ a then (sw_bb (sw_of σ N L la (σ 21 0)) nI 9).2 else (sw_bb (sw_of σ N L la (σ 21 0)) nI 9).1, τ') ∧ sw_FrM σ τ' := by
        intro its hits
        have hF1 : sw_FrH σ (sw_up τ 37 17 its) := ⟨fun c a1 a2 a3 => by rw [sw_up_ne a1]; exact hF.1 c a1 a2 a3, fun j a1 a2 a3 a4 => by rw [sw_up_eq, sw_un (by omega)]; exact hF.2 j a1 a2 a3 a4⟩
        obtain ⟨τ1, c1, c2, c3, c4, c5⟩ := sw_mcutH hF1 hR hN1 hN hn hL hl hla ha
        have oI : (sw_up τ 37 17 its) 37 17 = its := by rw [sw_up_eq, sw_ue]
        have oO : (sw_up τ 37 17 its) 37 16 = σ 37 16 := by rw [sw_up_eq, sw_un (by decide)]; exact ho
        obtain ⟨τ', g1, g2⟩ := ih (k + 1) τ1 (by omega) (by omega) c2 (by rw [c3, oO])
        have hoff : τ1 37 23 = sw_of σ N L la (σ 21 0) (nI k) := by rw [c5, oI, oO, r1, hits]
        refine ⟨τ', ?_, g2⟩
        rw [fX10_straightest_B110, if_pos rfl, sw_le, fX10_straightest_B131, c1, sw_bs]
        have pk1 : sw_pv (sw_bb (sw_of σ N L la (σ 21 0)) nI) (k + 1) = sw_bb (sw_of σ N L la (σ 21 0)) nI k := by unfold sw_pv; rw [if_neg (by omega), show k + 1 - 1 = k by omega]
        rw [pk1] at g1
        by_cases z : k = 0
        · subst z
          rw [show (sw_pv (sw_bb (sw_of σ N L la (σ 21 0)) nI) 0).2 = -9 from rfl, if_pos (by decide), fX10_straightest_B149, sw_le, fX10_straightest_B159, hoff, hits, nI_1]
          exact g1
        · have pk : sw_pv (sw_bb (sw_of σ N L la (σ 21 0)) nI) k = sw_bb (sw_of σ N L la (σ 21 0)) nI (k - 1) := by unfold sw_pv; rw [if_neg z]
          have hpos : ¬ (sw_bb (sw_of σ N L la (σ 21 0)) nI (k - 1)).2 < 0 := by
            rw [← sw_bb_2]
            exact Int32.not_lt.mpr (sw_of_pos _ _ _ _ _ _)
          obtain ⟨j, rfl⟩ : ∃ j, k = j + 1 := ⟨k - 1, by omega⟩
          rw [pk, if_neg hpos, show j + 1 - 1 = j by omega, hoff]
          rw [sw_bb] at g1
          by_cases c : (sw_bb (sw_of σ N L la (σ 21 0)) nI j).2 ≤ (sw_of σ N L la (σ 21 0)) (nI (j + 1))
          · rw [if_pos c] at g1
            rw [if_pos c, fX10_straightest_B159, nI_1]
            exact g1
          · rw [if_neg c] at g1
            rw [if_neg c, fX10_straightest_B149, sw_le, fX10_straightest_B159, hoff, hits, nI_1]
            exact g1
      exact B _ rfl
theorem sw_what : ∀ j : Nat, j ≤ 3 → ((nI j - nI j / 2 * 2 = 0) ↔ j % 2 = 0) ∧ ((2 ≤ nI j) ↔ 2 ≤ j) ∧ ((nI j = 0) ↔ j = 0) ∧ ((nI j = 1) ↔ j = 1) ∧ ((nI j = 2) ↔ j = 2) := by decide +kernel
theorem sim_straightest (a0 : Int32) : sw_sim (fX9_straightest a0) (fX10_straightest a0) := by
  intro σ hR
  obtain ⟨N, L, la, hN, hn, hL, hl, hla, ha⟩ := sw_rel_n hR
  obtain ⟨m1, m12⟩ := sw_rel_m12 hR
  have hb := sw_fuel_big
  by_cases c0 : 0 ≤ a0 ∧ a0 ≤ 3
  · by_cases z : N = 0 ∨ L = 0
    · exact sw_ro hR (-3) (by rw [fX9_straightest, sw_within, if_pos c0, sw_bs, if_neg (by decide), sw_lacks hN hn hL hl, if_pos z, sw_bs, if_neg (by decide)]) (by rw [fX10_straightest, sw_in32 (l := 0) (h := 3) (l' := 0) (h' := 3) rfl rfl, if_pos c0, sw_bs, if_neg (by decide), sw_bare hN (by rw [m1]; exact hn) hL (by rw [m12]; exact hl), if_pos z, sw_bs, if_neg (by decide)])
    · obtain ⟨j, hj, rfl⟩ := nI_of2 (x := a0) (M := 3) (n := 3) rfl (Int32.not_lt.mpr c0.1) c0.2
      obtain ⟨w0, w1, w2, w3, w4⟩ := sw_what j hj
      have nz : ¬ N = 0 := by omega
      have fr : sw_Fr2 σ σ := fun _ _ _ _ _ => rfl
      -- the class
      have XL : ∃ τ : sw_St, fX9_straightestLean σ = some ((sw_bb (fun x => sw_of σ N L la x (σ 21 1)) sw_sq 18).1, τ) ∧ sw_Fr2 σ τ := by
        obtain ⟨τ1, e1, e2⟩ := sw_offLean fr hR hN hn hL hl hla ha 0
        obtain ⟨τ2, g1, g2⟩ := sw_xleanL hR hN hn hL hl hla ha sw_fuel 1 τ1 (by decide) (by decide) (by omega) e2
        exact ⟨τ2, by rw [fX9_straightestLean, e1, sw_bs]; exact g1, g2⟩
      have XS : ∃ τ : sw_St, fX9_straightestSteers σ = some ((sw_bb (sw_of σ N L la (σ 21 0)) nI 9).1, τ) ∧ sw_Fr2 σ τ := by
        obtain ⟨τ1, e1, e2⟩ := sw_offSteers fr hR hN hn hL hl hla ha 0
        obtain ⟨τ2, g1, g2⟩ := sw_xsteersL hR hN hn hL hl hla ha sw_fuel 1 τ1 (by decide) (by decide) (by omega) e2
        exact ⟨τ2, by rw [fX9_straightestSteers, e1, sw_bs]; exact g1, g2⟩
      -- the reference, in any state of the class's making
      have YY : ∀ τ : sw_St, sw_Fr2 σ τ → ∃ τ' : sw_St, fX10_straightest (nI j) τ = some (if j % 2 = 0 then (if 2 ≤ nI j then (sw_bb (fun x => sw_of σ N L la x (σ 21 1)) sw_sq 18).2 else (sw_bb (fun x => sw_of σ N L la x (σ 21 1)) sw_sq 18).1) else (if 2 ≤ nI j then (sw_bb (sw_of σ N L la (σ 21 0)) nI 9).2 else (sw_bb (sw_of σ N L la (σ 21 0)) nI 9).1), τ') ∧ sw_Rel τ' := by
        intro τ hF
        have hR1 := sw_Rel_x2 hF hR
        have f := fun (c : Nat) (a : c ≠ 22) (a1 : c ≠ 23) (a2 : c ≠ 24) (a3 : c ≠ 25) => hF c a a1 a2 a3
        have n1 : τ 5 0 = nI N := by rw [f 5 (by decide) (by decide) (by decide) (by decide)]; exact hn
        have n2 : τ 17 0 = nI L := by rw [f 17 (by decide) (by decide) (by decide) (by decide)]; exact hl
        have f21 := f 21 (by decide) (by decide) (by decide) (by decide)
        have n3 : τ 21 2 = nI la := by rw [f21]; exact ha
        obtain ⟨p1, p12⟩ := sw_rel_m12 hR1
        have hof : ∀ x y : Int32, sw_of τ N L la x y = sw_of σ N L la x y := by
          intro x y
          have hX : sw_X6 τ 5 = sw_X6 σ 5 := by
            funext k
            show (τ 6 k, τ 7 k, τ 8 (3 * k), τ 8 (3 * k + 1), τ 8 (3 * k + 2)) = (σ 6 k, σ 7 k, σ 8 (3 * k), σ 8 (3 * k + 1), σ 8 (3 * k + 2))
            rw [f 6 (by decide) (by decide) (by decide) (by decide), f 7 (by decide) (by decide) (by decide) (by decide), f 8 (by decide) (by decide) (by decide) (by decide)]
          unfold sw_of sw_Sn
          rw [hX, f 18 (by decide) (by decide) (by decide) (by decide), f 19 (by decide) (by decide) (by decide) (by decide), f 20 (by decide) (by decide) (by decide) (by decide), f21]
        have e1 : (fun x => sw_of τ N L la x (τ 21 1)) = (fun x => sw_of σ N L la x (σ 21 1)) := by
          funext x
          rw [hof, f21]
        have e2 : sw_of τ N L la (τ 21 0) = sw_of σ N L la (σ 21 0) := by
          funext x
          rw [hof, f21]
        have g0 : sw_FrH τ τ := ⟨fun _ _ _ _ => rfl, fun _ _ _ _ _ => rfl⟩
        rw [fX10_straightest, sw_in32 (l := 0) (h := 3) (l' := 0) (h' := 3) rfl rfl, if_pos c0, sw_bs, if_neg (by decide), sw_bare hN (by rw [p1]; exact n1) hL (by rw [p12]; exact n2), if_neg z, sw_bs, if_pos rfl]
        by_cases c : j % 2 = 0
        · obtain ⟨τ', h1, h2⟩ := sw_mleanL hR1 nz hN n1 hL n2 hla n3 (nI j) sw_fuel 0 τ (Nat.zero_le _) (by omega) g0 rfl
          rw [e1] at h1
          refine ⟨τ', ?_, sw_Rel_m h2 hR1⟩
          rw [if_pos (w0.mpr c), if_pos c, fX10_straightest_B36, if_neg (by decide), fX10_straightest_B52]
          exact h1
        · obtain ⟨τ', h1, h2⟩ := sw_msteersL hR1 nz hN n1 hL n2 hla n3 (nI j) sw_fuel 0 τ (Nat.zero_le _) (by omega) g0 rfl
          rw [e2] at h1
          refine ⟨τ', ?_, sw_Rel_m h2 hR1⟩
          rw [if_neg (fun q => c (w0.mp q)), if_neg c, fX10_straightest_B36, if_pos rfl, fX10_straightest_B52]
          exact h1
      have X0 : fX9_straightest (nI j) σ = (if nI j = 0 then sw_bind (fX9_straightestLean σ) (fun r6 σ7 => some (r6, σ7)) else (if nI j = 1 then sw_bind (fX9_straightestSteers σ) (fun r9 σ10 => some (r9, σ10)) else (if nI j = 2 then sw_bind (fX9_straightestLean σ) (fun r12 σ13 => sw_bind (fX9_offByLean r12 σ13) (fun r14 σ15 => some (r14, σ15))) else sw_bind (fX9_straightestSteers σ) (fun r16 σ17 => sw_bind (fX9_offBySteers r16 σ17) (fun r18 σ19 => some (r18, σ19)))))) := by
        rw [fX9_straightest, sw_within, if_pos c0, sw_bs, if_neg (by decide), sw_lacks hN hn hL hl, if_neg z, sw_bs, if_pos rfl]
      obtain ⟨τL, l1, l2⟩ := XL
      obtain ⟨τS, s1, s2⟩ := XS
      rcases (show j = 0 ∨ j = 1 ∨ j = 2 ∨ j = 3 by omega) with q | q | q | q
      · obtain ⟨τ', y1, y2⟩ := YY τL l2
        refine ⟨_, τL, τ', ?_, y1, y2⟩
        rw [X0, if_pos (w2.mpr q), l1, sw_bs, if_pos (by omega), if_neg (fun p => by have := w1.mp p; omega)]
      · obtain ⟨τ', y1, y2⟩ := YY τS s2
        refine ⟨_, τS, τ', ?_, y1, y2⟩
        rw [X0, if_neg (fun p => by have := w2.mp p; omega), if_pos (w3.mpr q), s1, sw_bs, if_neg (by omega), if_neg (fun p => by have := w1.mp p; omega)]
      · obtain ⟨τ2, o1, o2⟩ := sw_offLean l2 hR hN hn hL hl hla ha (sw_bb (fun x => sw_of σ N L la x (σ 21 1)) sw_sq 18).1
        obtain ⟨τ', y1, y2⟩ := YY τ2 o2
        refine ⟨_, τ2, τ', ?_, y1, y2⟩
        rw [X0, if_neg (fun p => by have := w2.mp p; omega), if_neg (fun p => by have := w3.mp p; omega), if_pos (w4.mpr q), l1, sw_bs, o1, sw_bs, if_pos (by omega), if_pos (w1.mpr (by omega))]
        rw [← sw_bb_2]
      · obtain ⟨τ2, o1, o2⟩ := sw_offSteers s2 hR hN hn hL hl hla ha (sw_bb (sw_of σ N L la (σ 21 0)) nI 9).1
        obtain ⟨τ', y1, y2⟩ := YY τ2 o2
        refine ⟨_, τ2, τ', ?_, y1, y2⟩
        rw [X0, if_neg (fun p => by have := w2.mp p; omega), if_neg (fun p => by have := w3.mp p; omega), if_neg (fun p => by have := w4.mp p; omega), s1, sw_bs, o1, sw_bs, if_neg (by omega), if_pos (w1.mpr (by omega))]
        rw [← sw_bb_2]
  · exact sw_ro hR (-2) (by rw [fX9_straightest, sw_within, if_neg c0, sw_bs, if_pos rfl]) (by rw [fX10_straightest, sw_in32 (l := 0) (h := 3) (l' := 0) (h' := 3) rfl rfl, if_neg c0, sw_bs, if_pos rfl])
