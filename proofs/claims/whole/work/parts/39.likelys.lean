/-! The reference's round through the masks; sim_likely, sim_each. -/
theorem sw_z13 {σ : sw_St} {N L la F R : Nat} (hC : sw_Cn σ N L la F R) : ∀ (n v : Nat) (τ : sw_St), v ≤ 6 → 6 - v < n → sw_ZS σ τ → (∀ j : Nat, j < v → τ 56 j = 0) → τ 37 31 = 0 → τ 37 32 = -9 → ∃ τ' : sw_St, fX10_layLikely_L13 n (nI v) τ = fX10_layLikely_B58 τ' ∧ sw_ZS σ τ' ∧ sw_JL (sw_ft σ N L la F R) [0] τ' := by
  intro n
  induction n with
  | zero => intro v τ _ h; omega
  | succ n ih =>
    intro v τ hv hn hZ h56 h31 h32
    rw [fX10_layLikely_L13]
    by_cases c : v = 6
    · subst c
      obtain ⟨τ1, g1, g2⟩ := sw_df0 hC hZ.1 (sw_ZS_S hC hZ)
      have Z1 := sw_ZS_M hZ g2
      have J0 : sw_JL (sw_ft σ N L la F R) [] τ1 := sw_JL_M ⟨h31, Or.inr ⟨rfl, h32⟩, fun j hj => h56 j hj⟩ g2
      rw [if_pos (show (6 : Int32) ≤ nI 6 by decide), g1, sw_bs]
      by_cases f : sw_ft σ N L la F R 0 = true
      · rw [if_pos f, if_neg (by decide), sw_le, sw_le]
        refine ⟨_, rfl, sw_ZS_up (sw_ZS_up Z1 (Or.inl ⟨rfl, by decide, by decide⟩)) (Or.inl ⟨rfl, by decide, by decide⟩), sw_JL_yes (P := []) (v := 0) (τ := τ1) (by decide) J0 f ?_ ?_ (fun j hj => ?_)⟩
        · rw [sw_up_eq, sw_un (by decide), sw_up_eq, sw_ue]
        · rw [sw_up_eq, sw_ue, g2.2 32 (by decide) (by decide), h32, if_neg (by decide)]; rfl
        · rw [sw_up_ne (by decide), sw_up_ne (by decide), Nat.zero_testBit, if_neg (by decide)]
      · rw [if_neg f, if_pos rfl]
        exact ⟨τ1, rfl, Z1, sw_JL_no (P := []) J0 f rfl rfl rfl⟩
    · have ok := sw_ok_nI (show v < 6 by omega) (by decide)
      rw [if_neg (show ¬ (6 : Int32) ≤ nI v from nI_ge (b := 6) (by omega) (by decide)), if_pos ok, sw_le, nI_clamp (by omega), nI_1]
      refine ih (v + 1) _ (by omega) (by omega) (sw_ZS_up hZ (Or.inr (Or.inl rfl))) (fun j hj => ?_) ?_ ?_
      · rw [sw_up_eq]
        by_cases e : j = v
        · subst e; rw [sw_ue]
        · rw [sw_un e]; exact h56 j (by omega)
      · rw [sw_up_ne (by decide)]; exact h31
      · rw [sw_up_ne (by decide)]; exact h32
theorem sw_Cn_m24 {σ : sw_St} {N L la F R : Nat} (hC : sw_Cn σ N L la F R) {τ : sw_St} (h : sw_ZS σ τ) : τ 37 24 = nI F := by
  rw [h.1.2 24 (by decide), hC.1.2.2.2.1.1]
  exact hC.2.2.2.2.1.2
theorem sw_shl1 : ∀ j : Nat, j < 7 → (1 : Int32) <<< (nI j &&& 31) = nI (2 ^ j) := by decide +kernel
theorem sw_shl2 : ∀ j : Nat, j < 6 → ∀ i : Nat, i < j → ((1 : Int32) <<< (nI i &&& 31)) ||| ((1 : Int32) <<< (nI j &&& 31)) = nI (2 ^ i + 2 ^ j) := by decide +kernel
theorem sw_p2 : ∀ j : Nat, j < 6 → 2 ^ j < 64 ∧ ∀ i : Nat, i < j → 2 ^ i + 2 ^ j < 64 := by decide +kernel
theorem sw_sg_s (j : Nat) : sw_sg (j + 1) = sw_sg j ++ [2 ^ j] := by
  unfold sw_sg
  rw [List.range_succ, List.map_append]; rfl
theorem sw_pj_s (j i : Nat) : sw_pj j (i + 1) = sw_pj j i ++ [2 ^ i + 2 ^ j] := by
  unfold sw_pj
  rw [List.range_succ, List.map_append]; rfl
theorem sw_l60 {σ : sw_St} {N L la F R : Nat} (hC : sw_Cn σ N L la F R) : ∀ (n j : Nat) (τ : sw_St), j ≤ F → F - j < n → sw_ZS σ τ → sw_JL (sw_ft σ N L la F R) ([0] ++ sw_sg j) τ → ∃ (τ' : sw_St) (v1 : Int32), fX10_layLikely_L60 n (nI j) τ = fX10_layLikely_L140 sw_fuel v1 1 τ' ∧ sw_ZS σ τ' ∧ sw_JL (sw_ft σ N L la F R) ([0] ++ sw_sg F) τ' ∧ (v1 = 0 ∨ (([0] ++ sw_sg F).find? (sw_ft σ N L la F R)).isSome = true) := by
  have hF6 := hC.2.2.2.2.1.1
  intro n
  induction n with
  | zero => intro j τ _ h; omega
  | succ n ih =>
    intro j τ hj hn hZ hJ
    rw [fX10_layLikely_L60, sw_Cn_m24 hC hZ]
    by_cases c : j = F
    · subst c
      obtain ⟨e1, e2⟩ := sw_JL_ge hJ
      rw [if_pos (nI_le (Nat.le_refl _) (by omega))]
      by_cases d : 0 ≤ τ 37 32
      · rw [if_neg (fun q => e2.mp q d), fX10_layLikely_B137]
        exact ⟨τ, 1, rfl, hZ, hJ, Or.inr (e1.mp d)⟩
      · rw [if_pos (e2.mpr d), fX10_layLikely_B137]
        exact ⟨τ, 0, rfl, hZ, hJ, Or.inl rfl⟩
    · have lt : j < F := by omega
      obtain ⟨τ1, g1, g2⟩ := sw_df1 hC hZ.1 (sw_ZS_S hC hZ) lt
      have Z1 := sw_ZS_M hZ g2
      have J1 := sw_JL_M hJ g2
      have ok := sw_ok_nI (show j < 6 by omega) (by decide)
      rw [if_neg (nI_ge lt (by omega)), g1, sw_bs]
      by_cases f : sw_ft σ N L la F R (2 ^ j) = true
      · have n32 : (sw_up (sw_up τ1 37 31 (τ1 37 31 + 1)) 56 j ((sw_up τ1 37 31 (τ1 37 31 + 1)) 56 j + 1)) 37 32 = τ1 37 32 := by rw [sw_up_ne (by decide), sw_up_eq, sw_un (by decide)]
        have ZZ : ∀ x : Int32, sw_ZS σ (sw_up (sw_up (sw_up τ1 37 31 (τ1 37 31 + 1)) 56 j ((sw_up τ1 37 31 (τ1 37 31 + 1)) 56 j + 1)) 37 32 x) := fun x => sw_ZS_up (sw_ZS_up (sw_ZS_up Z1 (Or.inl ⟨rfl, by decide, by decide⟩)) (Or.inr (Or.inl rfl))) (Or.inl ⟨rfl, by decide, by decide⟩)
        have JJ : ∀ x : Int32, x = (if 0 ≤ τ1 37 32 then τ1 37 32 else nI (2 ^ j)) → sw_JL (sw_ft σ N L la F R) ([0] ++ sw_sg (j + 1)) (sw_up (sw_up (sw_up τ1 37 31 (τ1 37 31 + 1)) 56 j ((sw_up τ1 37 31 (τ1 37 31 + 1)) 56 j + 1)) 37 32 x) := fun x hx => by
          rw [sw_sg_s, ← List.append_assoc]
          refine sw_JL_yes (sw_p2 j (by omega)).1 J1 f ?_ ?_ (fun q hq => ?_)
          · rw [sw_up_eq, sw_un (by decide), sw_up_ne (by decide), sw_up_eq, sw_ue]
          · rw [sw_up_eq, sw_ue, hx]
          · rw [sw_up_ne (by decide), sw_up_eq, sw_tb1b j (by omega) q hq, sw_up_ne (show 56 ≠ 37 by decide)]
            by_cases z : q = j
            · subst z; rw [sw_ue, if_pos (by simp)]
            · rw [sw_un z, if_neg (by simp [z])]
        rw [if_pos f, if_neg (by decide), sw_le, if_pos ok, if_pos ok, sw_le, nI_clamp (show j < 2 ^ 31 by omega), n32, sw_shl1 j (by omega)]
        by_cases d : 0 ≤ τ1 37 32
        · rw [if_pos d, fX10_layLikely_B116, sw_le, fX10_layLikely_B119, nI_1]
          exact ih (j + 1) _ (by omega) (by omega) (ZZ _) (JJ _ (by rw [if_pos d]))
        · rw [if_neg d, fX10_layLikely_B116, sw_le, fX10_layLikely_B119, nI_1]
          exact ih (j + 1) _ (by omega) (by omega) (ZZ _) (JJ _ (by rw [if_neg d]))
      · rw [if_neg f, if_pos rfl, fX10_layLikely_B119, nI_1]
        refine ih (j + 1) _ (by omega) (by omega) Z1 ?_
        rw [sw_sg_s, ← List.append_assoc]
        exact sw_JL_no J1 f rfl rfl rfl
theorem sw_l150 {σ : sw_St} {N L la F R : Nat} (hC : sw_Cn σ N L la F R) {B : List Nat} {v1 : Int32} (hv1 : v1 = 0 ∨ (B.find? (sw_ft σ N L la F R)).isSome = true) {K : Int32 → Int32 → sw_St → Option (Unit × sw_St)} {j : Nat} (hj : j < F) : ∀ (n i : Nat) (τ : sw_St), i ≤ j → j - i < n → sw_ZS σ τ → sw_JL (sw_ft σ N L la F R) (B ++ (sw_prs j ++ sw_pj j i)) τ → ∃ τ' : sw_St, fX10_layLikely_L150 K n v1 (nI j) (nI i) τ = K v1 (nI (j + 1)) τ' ∧ sw_ZS σ τ' ∧ sw_JL (sw_ft σ N L la F R) (B ++ sw_prs (j + 1)) τ' := by
  have hF6 := hC.2.2.2.2.1.1
  intro n
  induction n with
  | zero => intro i τ _ h; omega
  | succ n ih =>
    intro i τ hi hn hZ hJ
    rw [fX10_layLikely_L150]
    by_cases c : i = j
    · subst c
      rw [if_pos (nI_le (Nat.le_refl _) (by omega)), nI_1]
      exact ⟨τ, rfl, hZ, hJ⟩
    · have lt : i < j := by omega
      obtain ⟨τ1, g1, g2⟩ := sw_df2 hC hZ.1 (sw_ZS_S hC hZ) hj lt
      have Z1 := sw_ZS_M hZ g2
      have J1 := sw_JL_M hJ g2
      have ok := sw_ok_nI (show j < 6 by omega) (by decide)
      have oki := sw_ok_nI (show i < 6 by omega) (by decide)
      rw [if_neg (nI_ge lt (by omega)), g1, sw_bs]
      by_cases f : sw_ft σ N L la F R (2 ^ i + 2 ^ j) = true
      · generalize hρ : sw_up (sw_up (sw_up τ1 37 31 (τ1 37 31 + 1)) 56 i ((sw_up τ1 37 31 (τ1 37 31 + 1)) 56 i + 1)) 56 j ((sw_up (sw_up τ1 37 31 (τ1 37 31 + 1)) 56 i ((sw_up τ1 37 31 (τ1 37 31 + 1)) 56 i + 1)) 56 j + 1) = ρ
        have n32 : ρ 37 32 = τ1 37 32 := by rw [← hρ, sw_up_ne (by decide), sw_up_ne (by decide), sw_up_eq, sw_un (by decide)]
        have n31 : ρ 37 31 = τ1 37 31 + 1 := by rw [← hρ, sw_up_ne (by decide), sw_up_ne (by decide), sw_up_eq, sw_ue]
        have Zρ : sw_ZS σ ρ := by rw [← hρ]; exact sw_ZS_up (sw_ZS_up (sw_ZS_up Z1 (Or.inl ⟨rfl, by decide, by decide⟩)) (Or.inr (Or.inl rfl))) (Or.inr (Or.inl rfl))
        have n56 : ∀ q : Nat, q < 6 → ρ 56 q = if (2 ^ i + 2 ^ j).testBit q = true then τ1 56 q + 1 else τ1 56 q := fun q hq => by
          rw [← hρ, sw_up_eq, sw_tb2b j (by omega) i lt q hq, sw_up_eq, sw_up_ne (show 56 ≠ 37 by decide)]
          by_cases z : q = j
          · subst z; rw [sw_ue, sw_un (by omega), if_pos (by simp)]
          · rw [sw_un z]
            by_cases y : q = i
            · subst y; rw [sw_ue, if_pos (by simp)]
            · rw [sw_un y, if_neg (by simp [y, z])]
        have ZZ : ∀ x : Int32, sw_ZS σ (sw_up ρ 37 32 x) := fun x => sw_ZS_up Zρ (Or.inl ⟨rfl, by decide, by decide⟩)
        have JJ : ∀ x : Int32, x = (if 0 ≤ τ1 37 32 then τ1 37 32 else nI (2 ^ i + 2 ^ j)) → sw_JL (sw_ft σ N L la F R) (B ++ (sw_prs j ++ sw_pj j (i + 1))) (sw_up ρ 37 32 x) := fun x hx => by
          rw [sw_pj_s, ← List.append_assoc, ← List.append_assoc, List.append_assoc B]
          refine sw_JL_yes ((sw_p2 j (by omega)).2 i lt) J1 f ?_ ?_ (fun q hq => ?_)
          · rw [sw_up_eq, sw_un (by decide), n31]
          · rw [sw_up_eq, sw_ue, hx]
          · rw [sw_up_ne (by decide), n56 q hq]
        rw [if_pos f, if_neg (by decide), sw_le, if_pos oki, if_pos oki, sw_le, if_pos ok, if_pos ok, sw_le, nI_clamp (show j < 2 ^ 31 by omega), nI_clamp (show i < 2 ^ 31 by omega), hρ, n32, sw_shl2 j (by omega) i lt, fX10_layLikely_B216, fX10_layLikely_B220, fX10_layLikely_B220, sw_le, sw_le, fX10_layLikely_B223, fX10_layLikely_B223, n32, nI_1]
        by_cases d : 0 ≤ τ1 37 32
        · rw [if_pos d, ite_self]
          exact ih (i + 1) _ (by omega) (by omega) (ZZ _) (JJ _ (by rw [if_pos d]))
        · have v0 : v1 = 0 := by
            rcases hv1 with q | q
            · exact q
            · exfalso
              apply d
              rw [(sw_JL_ge J1).1, List.find?_append]
              cases hq : B.find? (sw_ft σ N L la F R) with
              | none => rw [hq] at q; exact absurd q (by decide)
              | some w => rfl
          rw [if_pos v0, if_neg d]
          exact ih (i + 1) _ (by omega) (by omega) (ZZ _) (JJ _ (by rw [if_neg d]))
      · rw [if_neg f, if_pos rfl, fX10_layLikely_B223, nI_1]
        refine ih (i + 1) _ (by omega) (by omega) Z1 ?_
        rw [sw_pj_s, ← List.append_assoc, ← List.append_assoc, List.append_assoc B]
        exact sw_JL_no J1 f rfl rfl rfl
theorem sw_l140 {σ : sw_St} {N L la F R : Nat} (hC : sw_Cn σ N L la F R) {B : List Nat} {v1 : Int32} (hv1 : v1 = 0 ∨ (B.find? (sw_ft σ N L la F R)).isSome = true) : ∀ (n j : Nat) (τ : sw_St), (j ≤ F ∨ j = 1) → F - j < n → sw_ZS σ τ → sw_JL (sw_ft σ N L la F R) (B ++ sw_prs j) τ → ∃ τ' : sw_St, fX10_layLikely_L140 n v1 (nI j) τ = some ((), τ') ∧ sw_ZS σ τ' ∧ sw_JL (sw_ft σ N L la F R) (B ++ sw_prs F) τ' := by
  have hF6 := hC.2.2.2.2.1.1
  have hb := sw_fuel_big
  intro n
  induction n with
  | zero => intro j τ _ h; omega
  | succ n ih =>
    intro j τ hj hn hZ hJ
    rw [fX10_layLikely_L140, sw_Cn_m24 hC hZ]
    by_cases c : F ≤ j
    · rw [if_pos (nI_le c (by omega))]
      refine ⟨τ, rfl, hZ, ?_⟩
      have e : sw_prs F = sw_prs j := by
        rcases (show j = F ∨ (F = 0 ∧ j = 1) by omega) with q | ⟨q1, q2⟩
        · rw [q]
        · rw [q1, q2]; rfl
      rw [e]; exact hJ
    · rw [if_neg (nI_ge (show j < F by omega) (by omega))]
      obtain ⟨τ1, g1, g2, g3⟩ := sw_l150 hC hv1 (K := fX10_layLikely_L140 n) (show j < F by omega) sw_fuel 0 τ (Nat.zero_le _) (by omega) hZ (by rw [show sw_pj j 0 = [] from rfl, List.append_nil]; exact hJ)
      rw [nI_0] at g1
      rw [g1]
      exact ih (j + 1) τ1 (by omega) (by omega) g2 g3
theorem sw_lay {σ : sw_St} {N L la F R : Nat} (hC : sw_Cn σ N L la F R) {τ : sw_St} (hZ : sw_ZS σ τ) : ∃ τ' : sw_St, fX10_layLikely τ = some ((), τ') ∧ sw_ZS σ τ' ∧ sw_JL (sw_ft σ N L la F R) (sw_ord F) τ' := by
  have hb := sw_fuel_big
  have hF6 := hC.2.2.2.2.1.1
  obtain ⟨τ1, a1, a2, a3⟩ := sw_z13 hC sw_fuel 0 (sw_up (sw_up τ 37 31 0) 37 32 (-9)) (Nat.zero_le _) (by omega) (sw_ZS_up (sw_ZS_up hZ (Or.inl ⟨rfl, by decide, by decide⟩)) (Or.inl ⟨rfl, by decide, by decide⟩)) (fun j hj => by omega) (by rw [sw_up_eq, sw_un (by decide), sw_up_eq, sw_ue]) (by rw [sw_up_eq, sw_ue])
  obtain ⟨τ2, v1, b1, b2, b3, b4⟩ := sw_l60 hC sw_fuel 0 τ1 (Nat.zero_le _) (by omega) a2 a3
  obtain ⟨τ3, c1, c2, c3⟩ := sw_l140 hC b4 sw_fuel 1 τ2 (Or.inr rfl) (by omega) b2 (by rw [show sw_prs 1 = [] from rfl, List.append_nil]; exact b3)
  rw [nI_0] at a1 b1
  rw [show nI 1 = 1 from rfl] at c1
  exact ⟨τ3, by rw [fX10_layLikely, sw_le, sw_le, a1, fX10_layLikely_B58, b1, c1], c2, c3⟩
theorem sw_Cn_ex {σ : sw_St} (hR : sw_Rel σ) : ∃ N L la F R : Nat, (N ≤ 8 ∧ σ 5 0 = nI N) ∧ (L ≤ 24 ∧ σ 17 0 = nI L) ∧ (F ≤ 6 ∧ σ 26 0 = nI F) ∧ (1 ≤ N → sw_Cn σ N L la F R) := by
  obtain ⟨N, L, la, hN, hn, hL, hl, hla, ha⟩ := sw_rel_n hR
  obtain ⟨-, F, hF, hf, -⟩ := hR.2.2.2.1
  obtain ⟨-, R, hR8, hr, -⟩ := hR.2.2.2.2.1
  exact ⟨N, L, la, F, R, ⟨hN, hn⟩, ⟨hL, hl⟩, ⟨hF, hf⟩, fun h => ⟨hR, ⟨h, hN, hn⟩, ⟨hL, hl⟩, ⟨hla, ha⟩, ⟨hF, hf⟩, hR8, hr⟩⟩
theorem sw_p2F : ∀ F : Nat, F < 7 → 2 ^ F ≤ 64 := by decide
theorem sw_xcount2 {σ : sw_St} {N L la F R : Nat} (hC : sw_Cn σ N L la F R) {m : Nat} (hm : m < 64) : ∃ τ' : sw_St, fX9_countFitting (nI m) σ = some (nI (((List.range (2 ^ F)).filter (sw_sel m)).countP (sw_ft σ N L la F R)), τ') ∧ sw_FrX σ τ' := by
  have hb := sw_fuel_big
  have hF6 := hC.2.2.2.2.1.1
  have hP := sw_p2F F (by omega)
  obtain ⟨τ', g1, g2⟩ := sw_cfL hC hm hP sw_fuel 0 σ (Nat.zero_le _) (by omega) (sw_FrX_r σ)
  refine ⟨τ', ?_, g2⟩
  rw [fX9_countFitting, hC.2.2.2.2.1.2, sw_shl1 F (by omega), sw_le]
  exact g1
theorem sim_likely (a0 : Int32) : sw_sim (fX9_likely a0) (fX10_likely a0) := by
  intro σ hR
  obtain ⟨N, L, la, F, R, ⟨hN, hn⟩, ⟨hL, hl⟩, ⟨hF6, hf⟩, hCC⟩ := sw_Cn_ex hR
  have hb := sw_fuel_big
  have m1 := sw_rel_m12 hR
  by_cases c : 0 ≤ a0 ∧ a0 ≤ 1
  · by_cases e : N = 0 ∨ L = 0
    · refine ⟨-3, σ, σ, ?_, ?_, hR⟩
      · rw [fX9_likely, sw_within, if_pos c, sw_bs, if_neg (by decide), sw_lacks hN hn hL hl, if_pos e, sw_bs, if_neg (by decide)]
      · rw [fX10_likely, sw_in32 (l := 0) (h := 1) (l' := 0) (h' := 1) rfl rfl, if_pos c, sw_bs, if_neg (by decide), sw_bare hN (by rw [m1.1]; exact hn) hL (by rw [m1.2]; exact hl), if_pos e, sw_bs, if_neg (by decide)]
    · have hC := hCC (by omega)
      have X : ∀ r τ', (if a0 = 0 then sw_bind (fX9_countFitting 0 σ) (fun r7 σ8 => some (r7, σ8)) else sw_bind (fX9_firstOfFewest σ) (fun r5 σ6 => some (r5, σ6))) = some (r, τ') → fX9_likely a0 σ = some (r, τ') := fun r τ' h => by
        rw [fX9_likely, sw_within, if_pos c, sw_bs, if_neg (by decide), sw_lacks hN hn hL hl, if_neg e, sw_bs, if_pos rfl]; exact h
      have Y : ∀ τ τ', sw_FrX σ τ → fX10_layLikely τ = some ((), τ') → fX10_likely a0 τ = some (if a0 = 0 then τ' 37 31 else τ' 37 32, τ') := fun τ τ' h1 h2 => by
        rw [fX10_likely, sw_in32 (l := 0) (h := 1) (l' := 0) (h' := 1) rfl rfl, if_pos c, sw_bs, if_neg (by decide), sw_bare hN (by rw [h1 37 (by decide), m1.1]; exact hn) hL (by rw [h1 37 (by decide), m1.2]; exact hl), if_neg e, sw_bs, if_pos rfl, h2, sw_bs]
        by_cases z : a0 = 0
        · rw [if_pos z, if_pos z]
        · rw [if_neg z, if_neg z]
      have ZS : ∀ τ, sw_FrX σ τ → sw_ZS σ τ := fun τ h => ⟨sw_FrX_Z h, h 40 (by decide), h 41 (by decide), h 42 (by decide)⟩
      by_cases a : a0 = 0
      · obtain ⟨τ1, g1, g2⟩ := sw_xcount2 hC (m := 0) (by decide)
        obtain ⟨τ2, k1, k2, k3⟩ := sw_lay hC (ZS τ1 g2)
        rw [nI_0] at g1
        refine ⟨_, τ1, τ2, X _ τ1 (by rw [if_pos a, g1, sw_bs]), ?_, sw_Rel_Z k2.1 k2.2.1 k2.2.2.1 k2.2.2.2 hR⟩
        rw [Y τ1 τ2 g2 k1, if_pos a, k3.1, ((List.isPerm_iff.mp (sw_ordB F (by omega))).countP_eq _)]
      · obtain ⟨τ1, g2, g1⟩ := sw_fw hC (P := 2 ^ F) (sw_p2F F (by omega)) (sw_FrX_r σ)
        obtain ⟨τ2, k1, k2, k3⟩ := sw_lay hC (ZS τ1 g2)
        rw [sw_ordA F (by omega)] at g1
        refine ⟨_, τ1, τ2, X _ τ1 (by rw [if_neg a, fX9_firstOfFewest, hf, sw_shl1 F (by omega), sw_le, g1, sw_bs]), ?_, sw_Rel_Z k2.1 k2.2.1 k2.2.2.1 k2.2.2.2 hR⟩
        rw [Y τ1 τ2 g2 k1, if_neg a]
        rcases k3.2.1 with ⟨w, b1, b2, b3⟩ | ⟨b1, b2⟩
        · rw [b3, b2]
        · rw [b2, b1]
  · refine ⟨-2, σ, σ, ?_, ?_, hR⟩
    · rw [fX9_likely, sw_within, if_neg c, sw_bs, if_pos rfl]
    · rw [fX10_likely, sw_in32 (l := 0) (h := 1) (l' := 0) (h' := 1) rfl rfl, if_neg c, sw_bs, if_pos rfl]
theorem sim_each (a0 : Int32) : sw_sim (fX9_each a0) (fX10_each a0) := by
  intro σ hR
  obtain ⟨N, L, la, F, R, ⟨hN, hn⟩, ⟨hL, hl⟩, ⟨hF6, hf⟩, hCC⟩ := sw_Cn_ex hR
  have hb := sw_fuel_big
  have m1 := sw_rel_m12 hR
  have m24 : ∀ τ, sw_FrX σ τ → τ 37 24 = nI F := fun τ h => by rw [h 37 (by decide), hR.2.2.2.1.1]; exact hf
  by_cases c : sw_ok a0 F = true
  · obtain ⟨j, hj, rfl⟩ := (sw_okE (by omega)).mp c
    by_cases e : N = 0 ∨ L = 0
    · refine ⟨-3, σ, σ, ?_, ?_, hR⟩
      · rw [fX9_each, sw_has2 hF6 hf, if_pos c, sw_bs, if_neg (by decide), sw_lacks hN hn hL hl, if_pos e, sw_bs, if_neg (by decide)]
      · rw [fX10_each, sw_noFlaw hF6 (m24 σ (sw_FrX_r σ)), if_pos c, sw_bs, if_pos rfl, sw_bare hN (by rw [m1.1]; exact hn) hL (by rw [m1.2]; exact hl), if_pos e, sw_bs, if_neg (by decide)]
    · have hC := hCC (by omega)
      obtain ⟨τ1, g1, g2⟩ := sw_xcount2 hC (m := 2 ^ j) (sw_p2 j (by omega)).1
      obtain ⟨τ2, k1, k2, k3⟩ := sw_lay hC (τ := τ1) ⟨sw_FrX_Z g2, g2 40 (by decide), g2 41 (by decide), g2 42 (by decide)⟩
      refine ⟨nI (((List.range (2 ^ F)).filter (sw_sel (2 ^ j))).countP (sw_ft σ N L la F R)), τ1, τ2, ?_, ?_, sw_Rel_Z k2.1 k2.2.1 k2.2.2.1 k2.2.2.2 hR⟩
      · rw [fX9_each, sw_has2 hF6 hf, if_pos c, sw_bs, if_neg (by decide), sw_lacks hN hn hL hl, if_neg e, sw_bs, if_pos rfl, sw_shl1 j (by omega), g1, sw_bs]
      · rw [fX10_each, sw_noFlaw hF6 (m24 τ1 g2), if_pos c, sw_bs, if_pos rfl, sw_bare hN (by rw [g2 37 (by decide), m1.1]; exact hn) hL (by rw [g2 37 (by decide), m1.2]; exact hl), if_neg e, sw_bs, if_pos rfl, k1, sw_bs, if_pos (sw_ok_nI (show j < 6 by omega) (by decide)), nI_clamp (by omega), k3.2.2 j (by omega), ((List.isPerm_iff.mp (sw_ordC F (by omega) j hj)).countP_eq _)]
  · refine ⟨-1, σ, σ, ?_, ?_, hR⟩
    · rw [fX9_each, sw_has2 hF6 hf, if_neg c, sw_bs, if_pos rfl]
    · rw [fX10_each, sw_noFlaw hF6 (m24 σ (sw_FrX_r σ)), if_neg c, sw_bs, if_neg (by decide)]
