theorem sw_s17 {σ : sw_St} {N L la F R : Nat} (hC : sw_Cn σ N L la F R) {m : Int32} {a : Nat} (ha : a < 4 * N) (hm : sw_my (sw_X6 σ 5) a = true) : ∀ (n b : Nat) (τ : sw_St) (r : Option (Nat × Nat × Nat)), a - a % 4 ≤ b → b ≤ 4 * N → 4 * N - b < n → sw_FrX σ τ → τ 9 0 = nI N → (∀ k : Nat, k < N → sw_X6 τ 9 k = sw_ac (sw_X6 σ 5) a k) → sw_rX r τ → sw_best (sw_gt σ N L la m) (sw_Q3 (4 * N) a b) r → ∃ (τ' : sw_St) (r' : Option (Nat × Nat × Nat)), fX9_seekSecondAct_L17 n (nI a) m (nI (4 * N)) (nI b) τ = some ((), τ') ∧ sw_FrX σ τ' ∧ sw_rX r' τ' ∧ sw_best (sw_gt σ N L la m) (sw_Q3 (4 * N) a (4 * N)) r' := by
  have hN := hC.2.1.2.1
  have hv := sw_ac_ok (sw_rel_saw hC.1 hC.2.1.2.2 hN).2.1 hm
  intro n
  induction n with
  | zero => intro b τ r _ _ h; omega
  | succ n ih =>
    intro b τ r hab hb hn hF n9 S9 hr hB
    rw [fX9_seekSecondAct_L17]
    by_cases c : b = 4 * N
    · subst c
      rw [if_pos (nI_le (Nat.le_refl _) (by omega))]
      exact ⟨τ, r, rfl, hF, hr, hB⟩
    · have lt : b < 4 * N := by omega
      have a3 := sw_ca_b a
      have b3 := sw_ca_b b
      have nx := sw_best_x (Q' := sw_Q3 (4 * N) a (b + 1)) (d := (2, a, b)) hB (fun c => by
        unfold sw_Q3
        constructor
        · rintro (q | ⟨b', h1, h2, h3⟩)
          · exact Or.inl (Or.inl q)
          · by_cases z : b' = b
            · subst z; exact Or.inr h3
            · exact Or.inl (Or.inr ⟨b', by omega, h2, h3⟩)
        · rintro ((q | ⟨b', h1, h2, h3⟩) | q)
          · exact Or.inl q
          · exact Or.inr ⟨b', by omega, h2, h3⟩
          · exact Or.inr ⟨b, by omega, hab, q⟩) ⟨by show 2 ≤ 2; decide, by show a < 32; omega, by show b < 32; omega⟩ (fun c hc => by
        clear ih hB hr hF
        rcases hc with ((q | ⟨a', h1, q⟩) | ⟨a', b', h1, h2, h3, q⟩) | ⟨b', h1, h2, q⟩
        · rw [q]; exact sw_po_l (by decide) (by decide) (by decide)
        · rw [q]; exact sw_po_l (by decide) (by omega) (by decide)
        · rw [q]; exact sw_po_a h1 (by omega)
        · rw [q]; exact sw_po_b' h1)
      have gd : sw_gt σ N L la m (2, a, b) = (sw_my (sw_X6 σ 5) a && (sw_my (sw_ac (sw_X6 σ 5) a) b && sw_gS σ N L la m (sw_ac (sw_ac (sw_X6 σ 5) a) b))) := rfl
      rw [gd, hm, Bool.true_and, show sw_cc (2, a, b) = sw_ca a + sw_ca b from rfl] at nx
      have go : ∀ (ρ : sw_St) (r' : Option (Nat × Nat × Nat)), sw_FrX σ ρ → ρ 9 0 = nI N → (∀ k : Nat, k < N → sw_X6 ρ 9 k = sw_ac (sw_X6 σ 5) a k) → sw_rX r' ρ → (if (sw_my (sw_ac (sw_X6 σ 5) a) b && sw_gS σ N L la m (sw_ac (sw_ac (sw_X6 σ 5) a) b)) = true ∧ sw_chp r (sw_ca a + sw_ca b) = true then some (2, a, b) else r) = r' → ∃ (τ' : sw_St) (r' : Option (Nat × Nat × Nat)), fX9_seekSecondAct_B97 (fX9_seekSecondAct_L17 n) (nI a) m (nI (4 * N)) (nI b) ρ = some ((), τ') ∧ sw_FrX σ τ' ∧ sw_rX r' τ' ∧ sw_best (sw_gt σ N L la m) (sw_Q3 (4 * N) a (4 * N)) r' := fun ρ r' h1 h4 h5 h2 h3 => by
        rw [fX9_seekSecondAct_B97, nI_1]
        exact ih (b + 1) ρ r' (by omega) (by omega) (by omega) h1 h4 h5 h2 (by rw [← h3]; exact nx)
      rw [if_neg (nI_ge lt (by omega)), sw_cst (by omega), sw_bs, sw_cst (by omega), sw_bs, nI_add, sw_chpx hr (by omega), sw_bs]
      by_cases q1 : sw_chp r (sw_ca a + sw_ca b) = true
      · obtain ⟨τ1, b1, b2, b3', b4, b5, b6⟩ := sw_bec (c := 13) (c1 := 9) (σ := τ) (Or.inr (by decide))
        have F1 : sw_FrX σ τ1 := fun c hc => (b2 c (by omega) (by omega) (by omega) (by omega)).trans (hF c hc)
        have r1 := sw_rX_k hr (b2 33 (by decide) (by decide) (by decide) (by decide))
        have n13 : τ1 13 0 = nI N := by rw [b3', sw_ue]; exact n9
        have S13 : ∀ k : Nat, k < N → sw_X6 τ1 13 k = sw_ac (sw_X6 σ 5) a k := fun k hk => by
          rw [← S9 k hk]
          unfold sw_X6
          rw [b4 k (by omega), b5 k (by omega), b6 (3 * k) (by omega), b6 (3 * k + 1) (by omega), b6 (3 * k + 2) (by omega)]
        have k9 : ∀ ρ : sw_St, ρ 9 = τ 9 → ρ 10 = τ 10 → ρ 11 = τ 11 → ρ 12 = τ 12 → ρ 9 0 = nI N ∧ ∀ k : Nat, k < N → sw_X6 ρ 9 k = sw_ac (sw_X6 σ 5) a k := fun ρ e1 e2 e3 e4 => ⟨by rw [e1]; exact n9, fun k hk => by
          rw [← S9 k hk]
          unfold sw_X6
          rw [show ρ (9 + 1) = τ (9 + 1) from e2, show ρ (9 + 2) = τ (9 + 2) from e3, show ρ (9 + 3) = τ (9 + 3) from e4]⟩
        have k1 := k9 τ1 (b2 9 (by decide) (by decide) (by decide) (by decide)) (b2 10 (by decide) (by decide) (by decide) (by decide)) (b2 11 (by decide) (by decide) (by decide) (by decide)) (b2 12 (by decide) (by decide) (by decide) (by decide))
        rw [if_pos q1, if_neg (by decide), b1, sw_bs, sw_m4 (by omega), sw_d4 (by omega), sw_mby hN n13 lt S13 hv]
        by_cases q2 : sw_my (sw_ac (sw_X6 σ 5) a) b = true
        · rw [if_pos q2, sw_bs, if_neg (by decide)]
          have F2 : sw_FrX σ (sw_actx τ1 13 (b % 4) (b / 4)) := fun d hd => by rw [sw_actx_ne (by omega)]; exact F1 d hd
          obtain ⟨τ3, g1, g2⟩ := sw_gse hC (m := m) (c := 13) (S := sw_ac (sw_ac (sw_X6 σ 5) a) b) (Or.inr (Or.inr rfl)) F2 (by rw [sw_actx_ne (by decide)]; exact n13) (fun k hk => by rw [sw_X6_act]; exact sw_ac_congr S13 k hk)
          have F3 := sw_FrX_cut F2 g2
          have e3 : ∀ c : Nat, c ≠ 16 → c ≠ 23 → c ≠ 24 → c ≠ 25 → τ3 c = τ1 c := fun c h1 h2 h3 h4 => by rw [g2 c h2 h3 h4, sw_actx_ne (by omega)]
          have e9 : ∀ c : Nat, c = 9 ∨ c = 10 ∨ c = 11 ∨ c = 12 → τ3 c = τ c := fun c h => by rw [e3 c (by omega) (by omega) (by omega) (by omega), b2 c (by omega) (by omega) (by omega) (by omega)]
          have r3 := sw_rX_k r1 (e3 33 (by decide) (by decide) (by decide) (by decide))
          rw [g1, sw_bs]
          by_cases q3 : sw_gS σ N L la m (sw_ac (sw_ac (sw_X6 σ 5) a) b) = true
          · obtain ⟨τ4, k1', k2, k3⟩ := sw_keep2 (a := a) (b := b) (τ := τ3) (by omega) (by omega)
            have k4 := k9 τ4 (by rw [k2 9 (by decide), e9 9 (by decide)]) (by rw [k2 10 (by decide), e9 10 (by decide)]) (by rw [k2 11 (by decide), e9 11 (by decide)]) (by rw [k2 12 (by decide), e9 12 (by decide)])
            rw [if_pos q3, if_neg (by decide), k1', sw_bs]
            exact go τ4 _ (fun d hd => (k2 d (by omega)).trans (F3 d hd)) k4.1 k4.2 k3 (by rw [if_pos ⟨by rw [q2, q3]; rfl, q1⟩])
          · have k4 := k9 τ3 (e9 9 (by decide)) (e9 10 (by decide)) (e9 11 (by decide)) (e9 12 (by decide))
            rw [if_neg q3, if_pos rfl]
            exact go τ3 r F3 k4.1 k4.2 r3 (by rw [if_neg (fun z => q3 (by have := z.1; rw [Bool.and_eq_true] at this; exact this.2))])
        · rw [if_neg q2, sw_bs, if_pos rfl]
          exact go τ1 r F1 k1.1 k1.2 r1 (by rw [if_neg (fun z => q2 (by have := z.1; rw [Bool.and_eq_true] at this; exact this.1))])
      · rw [if_neg q1, if_pos rfl]
        exact go τ r hF n9 S9 hr (by rw [if_neg (fun z => q1 z.2)])
theorem sw_s113 {σ : sw_St} {N L la F R : Nat} (hC : sw_Cn σ N L la F R) {m : Int32} : ∀ (n a : Nat) (τ : sw_St) (r : Option (Nat × Nat × Nat)), a ≤ 4 * N → 4 * N - a < n → sw_FrX σ τ → sw_rX r τ → sw_best (sw_gt σ N L la m) (sw_Q2 (4 * N) a) r → ∃ (τ' : sw_St) (r' : Option (Nat × Nat × Nat)), fX9_seekMending_L113 n m (nI (4 * N)) (nI a) τ = some ((), τ') ∧ sw_FrX σ τ' ∧ sw_rX r' τ' ∧ sw_best (sw_gt σ N L la m) (sw_Q2 (4 * N) (4 * N)) r' := by
  have hN := hC.2.1.2.1
  have hv := (sw_rel_saw hC.1 hC.2.1.2.2 hN).2.1
  have hfb := sw_fuel_big
  intro n
  induction n with
  | zero => intro a τ r _ h; omega
  | succ n ih =>
    intro a τ r ha hn hF hr hB
    rw [fX9_seekMending_L113]
    by_cases c : a = 4 * N
    · subst c
      rw [if_pos (nI_le (Nat.le_refl _) (by omega))]
      exact ⟨τ, r, rfl, hF, hr, hB⟩
    · have lt : a < 4 * N := by omega
      obtain ⟨τ1, b1, F1, e33, n9, S9⟩ := sw_bec9 hC hF
      have r1 := sw_rX_k hr e33
      rw [if_neg (nI_ge lt (by omega)), b1, sw_bs, sw_m4 (by omega), sw_d4 (by omega), sw_mby hN n9 lt S9 hv]
      by_cases q2 : sw_my (sw_X6 σ 5) a = true
      · rw [if_pos q2, sw_bs, if_neg (by decide)]
        have F2 : sw_FrX σ (sw_actx τ1 9 (a % 4) (a / 4)) := fun d hd => by rw [sw_actx_ne (by omega)]; exact F1 d hd
        have r2 := sw_rX_k r1 (show (sw_actx τ1 9 (a % 4) (a / 4)) 33 = τ1 33 from sw_actx_ne (by decide))
        obtain ⟨τ2, r', s1, s2, s3, s4⟩ := sw_s17 hC (m := m) lt q2 sw_fuel (a - a % 4) (sw_actx τ1 9 (a % 4) (a / 4)) r (Nat.le_refl _) (by omega) (by omega) F2 (by rw [sw_actx_ne (by decide)]; exact n9) (fun k hk => by rw [sw_X6_act]; exact sw_ac_congr S9 k hk) r2 (sw_best_ext hB (fun c hc => Or.inl hc) (fun c hc => by
          rcases hc with q | ⟨b', h1, h2, -⟩
          · exact Or.inl q
          · omega))
        have x1 : (sw_actx τ1 9 (a % 4) (a / 4)) 5 0 * 4 = nI (4 * N) := by
          rw [F2 5 (by decide), hC.2.1.2.2, Nat.mul_comm]; exact pk_mul N 4
        have x2 : nI a - nI (a % 4) = nI (a - a % 4) := pk_sub (by omega)
        rw [fX9_seekSecondAct, sw_m4 (by omega), x1, x2, sw_le, sw_le, s1, sw_bs, fX9_seekMending_B151, nI_1]
        refine ih (a + 1) τ2 r' (by omega) (by omega) s2 s3 (sw_best_ext s4 (fun c hc => ?_) (fun c hc => ?_))
        · rcases hc with (q | ⟨a', b', h1, h2, h3, h4⟩) | ⟨b', h1, h2, h3⟩
          · exact Or.inl q
          · exact Or.inr ⟨a', b', by omega, h2, h3, h4⟩
          · exact Or.inr ⟨a, b', by omega, h1, h2, h3⟩
        · left
          rcases hc with q | ⟨a', b', h1, h2, h3, h4⟩
          · exact Or.inl (Or.inl q)
          · by_cases z : a' = a
            · subst z; exact Or.inr ⟨b', h2, h3, h4⟩
            · exact Or.inl (Or.inr ⟨a', b', by omega, h2, h3, h4⟩)
      · rw [if_neg q2, sw_bs, if_pos rfl, fX9_seekMending_B151, nI_1]
        refine ih (a + 1) τ1 r (by omega) (by omega) F1 r1 (sw_best_ext hB (fun c hc => ?_) (fun c hc => ?_))
        · rcases hc with q | ⟨a', b', h1, h2, h3, h4⟩
          · exact Or.inl q
          · exact Or.inr ⟨a', b', by omega, h2, h3, h4⟩
        · rcases hc with q | ⟨a', b', h1, h2, h3, h4⟩
          · exact Or.inl (Or.inl q)
          · by_cases z : a' = a
            · subst z
              right
              rw [h4]
              show ¬ (sw_my (sw_X6 σ 5) a' && _) = true
              rw [Bool.and_eq_true]
              exact fun y => q2 y.1
            · exact Or.inl (Or.inr ⟨a', b', by omega, h2, h3, h4⟩)
theorem sw_ky0 : sw_ky (0, 0, 0) = 0 := by simp [sw_ky, sw_cc, sw_po]
theorem sw_seek {σ : sw_St} {N L la F R : Nat} (hC : sw_Cn σ N L la F R) (m : Int32) : ∃ (τ' : sw_St) (r' : Option (Nat × Nat × Nat)), fX9_seekMending m σ = some ((), τ') ∧ sw_FrX σ τ' ∧ sw_rX r' τ' ∧ sw_best (sw_gt σ N L la m) (fun c => c = (0, 0, 0) ∨ (¬ sw_gS σ N L la m (sw_X6 σ 5) = true ∧ sw_Q2 (4 * N) (4 * N) c)) r' := by
  have hN := hC.2.1.2.1
  have hfb := sw_fuel_big
  have F0 : sw_FrX σ (sw_up (sw_up (sw_up (sw_up σ 33 0 (-9)) 33 1 (-9)) 33 2 (-9)) 33 3 (-9)) := fun d hd => by rw [sw_up_ne (by omega), sw_up_ne (by omega), sw_up_ne (by omega), sw_up_ne (by omega)]
  have R0 : sw_rX none (sw_up (sw_up (sw_up (sw_up σ 33 0 (-9)) 33 1 (-9)) 33 2 (-9)) 33 3 (-9)) := by
    refine ⟨?_, ?_, ?_, ?_⟩
    · rw [sw_up_eq, sw_un (by decide), sw_up_eq, sw_un (by decide), sw_up_eq, sw_un (by decide), sw_up_eq, sw_ue]; rfl
    · rw [sw_up_eq, sw_un (by decide), sw_up_eq, sw_un (by decide), sw_up_eq, sw_ue]; rfl
    · rw [sw_up_eq, sw_un (by decide), sw_up_eq, sw_ue]; rfl
    · rw [sw_up_eq, sw_ue]; rfl
  generalize hρ : sw_up (sw_up (sw_up (sw_up σ 33 0 (-9)) 33 1 (-9)) 33 2 (-9)) 33 3 (-9) = ρ at F0 R0
  obtain ⟨τ1, g1, g2⟩ := sw_gse hC (m := m) (c := 5) (S := sw_X6 σ 5) (Or.inl rfl) F0 (by rw [F0 5 (by decide)]; exact hC.2.1.2.2) (fun k hk => by unfold sw_X6; rw [F0 (5 + 1) (by decide), F0 (5 + 2) (by decide), F0 (5 + 3) (by decide)])
  have F1 := sw_FrX_cut F0 g2
  have R1 := sw_rX_k R0 (g2 33 (by decide) (by decide) (by decide))
  rw [fX9_seekMending, fX4_forget, sw_le, sw_le, sw_le, sw_le, hρ, sw_bs, g1, sw_bs]
  by_cases q : sw_gS σ N L la m (sw_X6 σ 5) = true
  · rw [if_pos q, if_neg (by decide), fX4_keepNoAct, sw_le, sw_le, sw_bs]
    refine ⟨sw_up (sw_up τ1 33 0 0) 33 1 0, some (0, 0, 0), rfl, fun d hd => by rw [sw_up_ne (by omega), sw_up_ne (by omega)]; exact F1 d hd, ⟨?_, ?_, ?_, ?_⟩, Or.inr ⟨(0, 0, 0), rfl, Or.inl rfl, ⟨by decide, by decide, by decide⟩, q, fun d _ _ => by rw [sw_ky0]; exact Nat.zero_le _⟩⟩
    · rw [sw_up_eq, sw_un (by decide), sw_up_eq, sw_ue]; rfl
    · rw [sw_up_eq, sw_ue]; rfl
    · rw [sw_up_eq, sw_un (by decide), sw_up_eq, sw_un (by decide), R1.2.2.1]; rfl
    · rw [sw_up_eq, sw_un (by decide), sw_up_eq, sw_un (by decide), R1.2.2.2]; rfl
  · have x1 : τ1 5 0 * 4 = nI (4 * N) := by
      rw [F1 5 (by decide), hC.2.1.2.2, Nat.mul_comm]; exact pk_mul N 4
    obtain ⟨τ2, r2, s1, s2, s3, s4⟩ := sw_s39 hC (m := m) sw_fuel 0 τ1 none (Nat.zero_le _) (by omega) F1 R1 (Or.inl ⟨rfl, fun c hc => by
      rcases hc with z | ⟨a', h, -⟩
      · rw [z]; exact q
      · omega⟩)
    obtain ⟨τ3, r3, t1, t2, t3, t4⟩ := sw_s113 hC (m := m) sw_fuel 0 τ2 r2 (Nat.zero_le _) (by omega) s2 s3 (sw_best_ext s4 (fun c hc => Or.inl hc) (fun c hc => by
      rcases hc with z | ⟨a', b', h, -⟩
      · exact Or.inl z
      · omega))
    rw [nI_0] at s1 t1
    rw [if_neg q, if_pos rfl, x1, sw_le, s1, t1]
    refine ⟨τ3, r3, rfl, t2, t3, sw_best_ext t4 (fun c hc => Or.inr ⟨q, hc⟩) (fun c hc => ?_)⟩
    left
    rcases hc with z | ⟨-, z⟩
    · rw [z]; exact Or.inl (Or.inl rfl)
    · exact z
