/-! Reading the slabs; sim_log. -/
theorem sw_Rel_log {σ τ : sw_St} (hR : sw_Rel σ) (h : ∀ c : Nat, c ≠ 0 → c ≠ 34 → c ≠ 35 → c ≠ 36 → c ≠ 37 → c ≠ 58 → τ c = σ c) (h13 : τ 0 13 = 0) (h12 : τ 0 12 = σ 0 12) (h37 : ∀ j : Nat, j ≠ 0 → j ≠ 40 → τ 37 j = σ 37 j) (h0 : τ 37 0 = 0) : sw_Rel τ := by
  obtain ⟨hT, hB, hH, hF, hRd, hS, ⟨hZ1, hZ2⟩⟩ := id hR
  unfold sw_Rel
  rw [h 5 (by decide) (by decide) (by decide) (by decide) (by decide) (by decide), h 6 (by decide) (by decide) (by decide) (by decide) (by decide) (by decide), h 7 (by decide) (by decide) (by decide) (by decide) (by decide) (by decide), h 8 (by decide) (by decide) (by decide) (by decide) (by decide) (by decide), h 38 (by decide) (by decide) (by decide) (by decide) (by decide) (by decide), h 39 (by decide) (by decide) (by decide) (by decide) (by decide) (by decide), h 40 (by decide) (by decide) (by decide) (by decide) (by decide) (by decide), h 41 (by decide) (by decide) (by decide) (by decide) (by decide) (by decide), h 42 (by decide) (by decide) (by decide) (by decide) (by decide) (by decide), h 17 (by decide) (by decide) (by decide) (by decide) (by decide) (by decide), h 18 (by decide) (by decide) (by decide) (by decide) (by decide) (by decide), h 19 (by decide) (by decide) (by decide) (by decide) (by decide) (by decide), h 20 (by decide) (by decide) (by decide) (by decide) (by decide) (by decide), h 46 (by decide) (by decide) (by decide) (by decide) (by decide) (by decide), h 47 (by decide) (by decide) (by decide) (by decide) (by decide) (by decide), h 48 (by decide) (by decide) (by decide) (by decide) (by decide) (by decide), h 21 (by decide) (by decide) (by decide) (by decide) (by decide) (by decide), h 26 (by decide) (by decide) (by decide) (by decide) (by decide) (by decide), h 27 (by decide) (by decide) (by decide) (by decide) (by decide) (by decide), h 28 (by decide) (by decide) (by decide) (by decide) (by decide) (by decide), h 29 (by decide) (by decide) (by decide) (by decide) (by decide) (by decide), h 51 (by decide) (by decide) (by decide) (by decide) (by decide) (by decide), h 52 (by decide) (by decide) (by decide) (by decide) (by decide) (by decide), h 53 (by decide) (by decide) (by decide) (by decide) (by decide) (by decide), h 30 (by decide) (by decide) (by decide) (by decide) (by decide) (by decide), h 31 (by decide) (by decide) (by decide) (by decide) (by decide) (by decide), h 32 (by decide) (by decide) (by decide) (by decide) (by decide) (by decide), h 54 (by decide) (by decide) (by decide) (by decide) (by decide) (by decide), h 55 (by decide) (by decide) (by decide) (by decide) (by decide) (by decide), h 2 (by decide) (by decide) (by decide) (by decide) (by decide) (by decide), h 3 (by decide) (by decide) (by decide) (by decide) (by decide) (by decide), h 4 (by decide) (by decide) (by decide) (by decide) (by decide) (by decide), h 59 (by decide) (by decide) (by decide) (by decide) (by decide) (by decide), h 60 (by decide) (by decide) (by decide) (by decide) (by decide) (by decide), h 61 (by decide) (by decide) (by decide) (by decide) (by decide) (by decide), h37 1 (by decide) (by decide), h37 12 (by decide) (by decide), h37 16 (by decide) (by decide), h37 17 (by decide) (by decide), h37 18 (by decide) (by decide), h37 19 (by decide) (by decide), h37 24 (by decide) (by decide), h37 28 (by decide) (by decide), h37 45 (by decide) (by decide), h13, h12, h0]
  exact ⟨hT, hB, hH, hF, hRd, hS, ⟨rfl, hZ2⟩⟩

def sw_gd (d : Nat → Int32) (n : Nat) : Prop := ∀ s : Nat, s < n → -9 ≤ d s ∧ d s ≤ 9
theorem sw_rd8 {k N i n : Nat} {d : Nat → Int32} {σ : sw_St} (hk : k < 4) (hN : N ≤ 80) (hin : i + n ≤ N) (hn : n ≤ 7) (l1 : ¬ σ 2 k = -1) (l2 : σ 3 k = nI N) (hd : ∀ s : Nat, s < n → σ 4 (80 * k + (i + s)) = d s) : ∀ (f s : Nat) (τ : sw_St), s ≤ n → n - s < f → (∀ c : Nat, c ≠ 34 → c ≠ 35 → τ c = σ c) → (∀ j : Nat, j < s → τ 35 j = d j ∧ -9 ≤ d j ∧ d j ≤ 9) → ∃ (r : Int32) (τ' : sw_St), fX8_read_L23 f (nI k) (nI i) (nI n) (nI s) τ = some (r, τ') ∧ (∀ c : Nat, c ≠ 34 → c ≠ 35 → τ' c = σ c) ∧ ((sw_gd d n ∧ r = 1 ∧ τ' 34 0 = nI n - 1 ∧ ∀ j : Nat, j < n → τ' 35 j = d j) ∨ (¬ sw_gd d n ∧ r = 0)) := by
  intro f
  induction f with
  | zero => intro s τ _ h; omega
  | succ f ih =>
    intro s τ hs hf hF hJ
    rw [fX8_read_L23]
    by_cases c : s = n
    · subst c
      rw [if_pos (nI_le (Nat.le_refl _) (by omega)), sw_le]
      exact ⟨1, sw_up τ 34 0 (nI s - 1), rfl, fun c h1 h2 => by rw [sw_up_ne h1]; exact hF c h1 h2, Or.inl ⟨fun j hj => (hJ j hj).2, rfl, by rw [sw_up_eq, sw_ue], fun j hj => by rw [sw_up_ne (by decide)]; exact (hJ j hj).1⟩⟩
    · have lt : s < n := by omega
      rw [if_neg (nI_ge lt (by omega)), nI_add, sw_at hk hN (by rw [hF 2 (by decide) (by decide)]; exact l1) (by rw [hF 3 (by decide) (by decide)]; exact l2) (show i + s < N by omega), sw_bs, if_pos (sw_ok_nI (show s < 7 by omega) (by decide)), sw_le, if_pos (sw_ok_nI (show s < 7 by omega) (by decide)), if_pos (sw_ok_nI (show s < 7 by omega) (by decide)), nI_clamp (show s < 2 ^ 31 by omega), hF 4 (by decide) (by decide), hd s lt, sw_up_eq, sw_ue]
      have F1 : ∀ c : Nat, c ≠ 34 → c ≠ 35 → (sw_up τ 35 s (d s)) c = σ c := fun c h1 h2 => by rw [sw_up_ne h2]; exact hF c h1 h2
      by_cases z1 : d s < -9
      · rw [if_pos z1]
        exact ⟨0, _, rfl, F1, Or.inr ⟨fun g => Int32.not_lt.mpr (g s lt).1 z1, rfl⟩⟩
      · rw [if_neg z1]
        by_cases z2 : d s ≤ 9
        · rw [if_pos z2, nI_1]
          refine ih (s + 1) _ (by omega) (by omega) F1 (fun j hj => ?_)
          by_cases z : j = s
          · subst z
            rw [sw_up_eq, sw_ue]
            exact ⟨rfl, Int32.not_lt.mp z1, z2⟩
          · rw [sw_up_eq, sw_un z]
            exact hJ j (by omega)
        · rw [if_neg z2]
          exact ⟨0, _, rfl, F1, Or.inr ⟨fun g => z2 (g s lt).2, rfl⟩⟩
theorem sw_m48 {k i n : Nat} {A5 : Int32} {d : Nat → Int32} {σ : sw_St} (hk : k < 4) (hin : i + n ≤ 80) (hn : n ≤ 7) (hd : ∀ s : Nat, s < n → σ 61 (80 * k + (i + s)) = d s) : ∀ (f s : Nat) (τ : sw_St), s ≤ n → n - s < f → (∀ c : Nat, c ≠ 58 → τ c = σ c) → (∀ j : Nat, j < s → τ 58 j = d j ∧ -9 ≤ d j ∧ d j ≤ 9) → ∃ τ' : sw_St, (∀ c : Nat, c ≠ 58 → τ' c = σ c) ∧ ((sw_gd d n ∧ fX10_log_L48 f (nI k) (nI i) (nI n) A5 (nI (7 ^ (s - 1))) (nI s) τ = sw_bind (fX10_in (Int32.toInt64 A5) (-1 : Int64) (5 : Int64) τ') (fun r7 σ8 => (if r7 = 0 then sw_bind (fX10_refused (-1) σ8) (fun r10 σ11 => some (r10, σ11)) else sw_let (sw_up σ8 37 40 (-9)) (fun σ9 => fX10_log_L159 sw_fuel (nI n) A5 (nI (7 ^ (n - 1))) (-9) 0 σ9))) ∧ ∀ j : Nat, j < n → τ' 58 j = d j) ∨ (¬ sw_gd d n ∧ fX10_log_L48 f (nI k) (nI i) (nI n) A5 (nI (7 ^ (s - 1))) (nI s) τ = some (-2, sw_up τ' 37 0 0))) := by
  intro f
  induction f with
  | zero => intro s τ _ h; omega
  | succ f ih =>
    intro s τ hs hf hF hJ
    rw [fX10_log_L48]
    by_cases c : s = n
    · subst c
      rw [if_pos (nI_le (Nat.le_refl _) (by omega))]
      exact ⟨τ, hF, Or.inl ⟨fun j hj => (hJ j hj).2, rfl, fun j hj => (hJ j hj).1⟩⟩
    · have lt : s < n := by omega
      have ix : (80 : Int32) * nI k + nI i + nI s = nI (80 * k + (i + s)) := by rw [show (80 : Int32) * nI k = nI (80 * k) from pk_mul 80 k, nI_add, nI_add, Nat.add_assoc]
      have F1 : ∀ c : Nat, c ≠ 58 → (sw_up τ 58 s (d s)) c = σ c := fun c h1 => by rw [sw_up_ne h1]; exact hF c h1
      have go : ∀ w : Int32, nI (7 ^ (s - 1)) * w = nI (7 ^ (s + 1 - 1)) → ∃ τ' : sw_St, (∀ c : Nat, c ≠ 58 → τ' c = σ c) ∧ ((sw_gd d n ∧ fX10_log_B89 (fX10_log_L48 f) (nI k) (nI i) (nI n) A5 (nI s) w (nI (7 ^ (s - 1))) (sw_up τ 58 s (d s)) = sw_bind (fX10_in (Int32.toInt64 A5) (-1 : Int64) (5 : Int64) τ') (fun r7 σ8 => (if r7 = 0 then sw_bind (fX10_refused (-1) σ8) (fun r10 σ11 => some (r10, σ11)) else sw_let (sw_up σ8 37 40 (-9)) (fun σ9 => fX10_log_L159 sw_fuel (nI n) A5 (nI (7 ^ (n - 1))) (-9) 0 σ9))) ∧ ∀ j : Nat, j < n → τ' 58 j = d j) ∨ (¬ sw_gd d n ∧ fX10_log_B89 (fX10_log_L48 f) (nI k) (nI i) (nI n) A5 (nI s) w (nI (7 ^ (s - 1))) (sw_up τ 58 s (d s)) = some (-2, sw_up τ' 37 0 0))) := fun w hw => by
        rw [fX10_log_B89, hw, sw_le, if_pos (sw_ok_nI (show s < 7 by omega) (by decide)), nI_clamp (show s < 2 ^ 31 by omega), sw_up_eq, sw_ue, sw_in32 (l := -9) (h := 9) (l' := -9) (h' := 9) rfl rfl, sw_bs]
        by_cases z : -9 ≤ d s ∧ d s ≤ 9
        · rw [if_pos z, if_neg (by decide), nI_1]
          refine ih (s + 1) _ (by omega) (by omega) F1 (fun j hj => ?_)
          by_cases y : j = s
          · subst y
            rw [sw_up_eq, sw_ue]
            exact ⟨rfl, z⟩
          · rw [sw_up_eq, sw_un y]
            exact hJ j (by omega)
        · rw [if_neg z, if_pos rfl, sw_mref]
          exact ⟨_, F1, Or.inr ⟨fun g => z (g s lt), rfl⟩⟩
      rw [if_neg (nI_ge lt (by omega)), ix, if_pos (sw_ok_nI (show 80 * k + (i + s) < 320 by omega) (by decide)), if_pos (sw_ok_nI (show s < 7 by omega) (by decide)), sw_le, nI_clamp (show s < 2 ^ 31 by omega), nI_clamp (show 80 * k + (i + s) < 2 ^ 31 by omega), hF 61 (by decide), hd s lt]
      cases s with
      | zero =>
        rw [if_pos (show nI 0 ≤ 0 by decide)]
        exact go 1 (by decide)
      | succ s =>
        rw [if_neg (nI_nle (by omega) (by omega))]
        refine go 7 ?_
        rw [show nI (7 ^ (s + 1 - 1)) * 7 = nI (7 ^ (s + 1 - 1) * 7) from pk_mul _ 7]
        exact congrArg nI (Nat.pow_succ (n := 7) (m := s)).symm
theorem sw_i32e (x : Int32) : x = Int32.ofInt x.toInt := (Int32.ofInt_toInt x).symm
theorem sw_r9 {x : Int32} (h : -9 ≤ x ∧ x ≤ 9) : -9 ≤ x.toInt ∧ x.toInt ≤ 9 := by
  rw [Int32.le_iff_toInt_le, Int32.le_iff_toInt_le] at h
  exact h
theorem sim_log (a0 a1 a2 a3 a4 : Int32) : sw_sim (fX9_log a0 a1 a2 a3 a4) (fX10_log a0 a1 a2 a3 a4) := by
  intro σ hR
  rcases sw_refuse hR a0 a1 a2 a3 with ⟨r, f, r1, r2, X, Y⟩ | ⟨k, N, i, n, hk, hN, rfl, rfl, rfl, hin, l1, l2, l3, l4, X, Y⟩
  · refine ⟨r, sw_up σ 0 13 f, sw_up (sw_up σ 0 13 f) 37 0 f, ?_, ?_, sw_fault_rel hR f⟩
    · rw [fX9_log, X, sw_bs, if_neg r2]
    · rw [fX10_log, Y _ (sw_up_ne (by decide)) (sw_up_ne (by decide)), sw_bs, if_neg r1]
  · have hb := sw_fuel_b2
    have u0 : (sw_up σ 0 13 0) 0 13 = 0 := by rw [sw_up_eq, sw_ue]
    have u12 : (sw_up σ 0 13 0) 0 12 = σ 0 12 := by rw [sw_up_eq, sw_un (by decide)]
    have i27 : ∀ τ : sw_St, fX10_in (nI n).toInt64 (2 : Int64) (7 : Int64) τ = some (if 2 ≤ nI n ∧ nI n ≤ 7 then 1 else 0, τ) := fun τ => sw_in32 (l := 2) (h := 7) (l' := 2) (h' := 7) rfl rfl τ
    have iq : ∀ τ : sw_St, fX10_in a4.toInt64 (-1 : Int64) (5 : Int64) τ = some (if -1 ≤ a4 ∧ a4 ≤ 5 then 1 else 0, τ) := fun τ => sw_in32 (l := -1) (h := 5) (l' := -1) (h' := 5) rfl rfl τ
    have G0 : ∀ τ : sw_St, τ 59 = σ 59 → τ 60 = σ 60 → fX10_log (nI k) a1 (nI i) (nI n) a4 τ = (if (if 2 ≤ nI n ∧ nI n ≤ 7 then (1 : Int32) else 0) = 0 then some (-2, sw_up τ 37 0 0) else fX10_log_L48 sw_fuel (nI k) (nI i) (nI n) a4 1 0 τ) := fun τ h1 h2 => by
      rw [fX10_log, Y τ h1 h2, sw_bs, if_pos (by decide), i27, sw_bs, sw_mref]
    by_cases c : 2 ≤ n ∧ n ≤ 7
    · have c' : 2 ≤ nI n ∧ nI n ≤ 7 := ⟨nI_le (a := 2) c.1 (by omega), nI_le (b := 7) c.2 (by decide)⟩
      obtain ⟨d, hd⟩ : ∃ d : Nat → Int32, ∀ s : Nat, d s = σ 4 (80 * k + (i + s)) := ⟨_, fun _ => rfl⟩
      have u : ∀ c : Nat, c ≠ 0 → c ≠ 34 → (sw_up (sw_up σ 0 13 0) 34 0 0) c = σ c := fun c h1 h2 => by rw [sw_up_ne h2, sw_up_ne h1]
      obtain ⟨r, τ1, A1, A2, A3⟩ := sw_rd8 (d := d) (σ := sw_up (sw_up σ 0 13 0) 34 0 0) hk hN hin c.2 (by rw [u 2 (by decide) (by decide)]; exact l1) (by rw [u 3 (by decide) (by decide)]; exact l2) (fun s _ => by rw [u 4 (by decide) (by decide), hd]) sw_fuel 0 _ (Nat.zero_le _) (by omega) (fun _ _ _ => rfl) (fun j hj => by omega)
      rw [nI_0] at A1
      have RD : fX8_read (nI k) (nI i) (nI n) (sw_up σ 0 13 0) = some (r, τ1) := by
        rw [fX8_read, sw_le, if_neg (Int32.not_lt.mpr c'.1), if_pos c'.2, A1]
      have B1 : ∀ c : Nat, c ≠ 0 → c ≠ 34 → c ≠ 35 → τ1 c = σ c := fun c h0 h1 h2 => by rw [A2 c h1 h2, u c h0 h1]
      have B0 : τ1 0 = (sw_up σ 0 13 0) 0 := by rw [A2 0 (by decide) (by decide), sw_up_ne (by decide)]
      have d61 : ∀ τ : sw_St, τ 61 = σ 61 → ∀ s : Nat, s < n → τ 61 (80 * k + (i + s)) = d s := fun τ h s hs => by rw [h, l4 (i + s) (by omega), hd]
      rcases A3 with ⟨gd, rfl, A4, A5⟩ | ⟨gd, rfl⟩
      · by_cases q : -1 ≤ a4 ∧ a4 ≤ 5
        · -- the search
          obtain ⟨K, hK⟩ : ∃ K : Nat, n = K + 1 := ⟨n - 1, by omega⟩
          have hK6 : K ≤ 6 := by omega
          have pK := sw_p64 K (by omega)
          have p7 := sw_p7 K (by omega)
          obtain ⟨e, hE⟩ : ∃ e : Nat → Int, ∀ s : Nat, e s = if s < n then (d s).toInt else 0 := ⟨_, fun _ => rfl⟩
          have he : sw_e9 e := fun s => by
            rw [hE]
            split
            · exact sw_r9 (gd s (by assumption))
            · exact ⟨by decide, by decide⟩
          have ed : ∀ s : Nat, s ≤ K → d s = Int32.ofInt (e s) := fun s hs => by
            rw [hE, if_pos (by omega)]; exact sw_i32e _
          have hS : sw_SL e K τ1 := ⟨by rw [A4, hK, nI_pred], fun s hs => by rw [A5 s (by omega), ed s hs]⟩
          obtain ⟨τ2, T, W1, W2, W3⟩ := sw_wgh he hK6 hS
          obtain ⟨lb, hT⟩ := sw_lbE (fun j hj => (W3 j hj).2) hK6
          have hS2 : sw_SL e K τ2 := ⟨by rw [W2 34 (by decide)]; exact hS.1, fun s hs => by rw [W2 35 (by decide)]; exact hS.2 s hs⟩
          have h36 : ∀ j : Nat, j < 2 ^ K → τ2 36 j = nI (T j) ∧ T j ≤ 63 * 63 := fun j hj => ⟨(W3 j hj).1, by have := (W3 j hj).2.1; have := sw_op_le K j; omega⟩
          have B2 : ∀ c : Nat, c ≠ 0 → c ≠ 34 → c ≠ 35 → c ≠ 36 → τ2 c = σ c := fun c h0 h1 h2 h3 => by rw [W2 c h3, B1 c h0 h1 h2]
          obtain ⟨τ3, C1, C2⟩ := sw_m48 (A5 := a4) (d := d) (σ := τ2) hk (show i + n ≤ 80 by omega) c.2 (d61 τ2 (B2 61 (by decide) (by decide) (by decide) (by decide))) sw_fuel 0 τ2 (Nat.zero_le _) (by omega) (fun _ _ => rfl) (fun j hj => by omega)
          rcases C2 with ⟨-, C3, C4⟩ | ⟨C3, -⟩
          · obtain ⟨τ4, a', D1, D2, D3, D4⟩ := sw_m159 (A5 := a4) he hK6 sw_fuel 0 none (sw_up τ3 37 40 (-9)) (Nat.zero_le _) (by omega) (fun s hs => by rw [sw_up_ne (by decide), C4 s (by omega), ed s hs]) (by rw [sw_up_eq, sw_ue]; rfl) (Or.inl ⟨rfl, fun v hv => by omega⟩)
            have ea := sw_fm_u D4 (sw_TB_fm hT hK6)
            rw [nI_0, show nI (7 ^ (0 - 1)) = 1 from rfl] at C3
            rw [nI_0, show sw_b1 none = -9 from rfl, ← hK] at D1
            have R2 : sw_Rel (sw_up τ4 37 0 0) := by
              have f4 : ∀ c : Nat, c ≠ 37 → c ≠ 58 → (sw_up τ4 37 0 0) c = τ2 c := fun c h1 h2 => by rw [sw_up_ne h1, D2 c h1, sw_up_ne h1, C1 c h2]
              refine sw_Rel_log hR (fun c h0 h1 h2 h3 h4 h5 => by rw [f4 c h4 h5, B2 c h0 h1 h2 h3]) ?_ ?_ (fun j h0 h1 => ?_) (by rw [sw_up_eq, sw_ue])
              · rw [f4 0 (by decide) (by decide), W2 0 (by decide), B0]; exact u0
              · rw [f4 0 (by decide) (by decide), W2 0 (by decide), B0]; exact u12
              · rw [sw_up_eq, sw_un h0, D3 j h1, sw_up_eq, sw_un h1, C1 37 (by decide), B2 37 (by decide) (by decide) (by decide) (by decide)]
            have G1 : fX10_log (nI k) a1 (nI i) (nI n) a4 τ2 = (if 0 ≤ a4 then (if nI K ≤ a4 then fX10_log_B247 (-9) τ4 else sw_bind (fX10_cutIn (sw_b2 a') (nI K) a4 τ4) (fun r13 σ14 => fX10_log_B247 r13 σ14)) else fX10_log_B247 (sw_b1 a') τ4) := by
              rw [G0 τ2 (B2 59 (by decide) (by decide) (by decide) (by decide)) (B2 60 (by decide) (by decide) (by decide) (by decide)), if_pos c', if_neg (by decide), C3, iq, if_pos q, sw_bs, if_neg (by decide), sw_le, show n - 1 = K by omega, D1]
            have Hx : fX9_log (nI k) a1 (nI i) (nI n) a4 σ = (if a4 = (-1) then sw_bind (fX8_leastCost τ2) (fun r11 σ12 => some (r11, σ12)) else sw_bind (fX8_cutOfOrder a4 τ2) (fun r9 σ10 => some (r9, σ10))) := by
              rw [fX9_log, X, sw_bs, if_pos rfl, RD, sw_bs, if_neg (by decide), sw_within, if_pos q, sw_bs, if_neg (by decide), W1, sw_bs]
            by_cases z : a4 = -1
            · refine ⟨nI (T 0), τ2, sw_up τ4 37 0 0, ?_, ?_, R2⟩
              · rw [Hx, if_pos z, fX8_leastCost, if_pos (by decide), show Int32.toNatClampNeg 0 = 0 from rfl, (h36 0 pK.1).1, sw_bs]
              · rw [G1, if_neg (by rw [z]; decide), fX10_log_B247, sw_mref, ea]
                rfl
            · have z0 : ¬ a4 < 0 := fun y => by
                have q1 := q.1
                rw [Int32.le_iff_toInt_le] at q1
                rw [Int32.lt_iff_toInt_lt] at y
                have e1 : (-1 : Int32).toInt = -1 := rfl
                have e0 : (0 : Int32).toInt = 0 := rfl
                rw [e1] at q1
                rw [e0] at y
                exact z (Int32.toInt_inj.mp (by rw [e1]; omega))
              obtain ⟨p, hp, ep⟩ := nI_of2 (x := a4) (M := 5) (n := 5) rfl z0 q.2
              have cl := sw_cd_lt hT hK6 K 0 pK.1 (sw_op0 K (by omega))
              have CO := sw_coX (U := sw_cd lb K 0) (q := p) he hK6 hS2 h36 hT (by omega) sw_fuel 0 0 (Nat.zero_le _) (Nat.zero_le _) (by omega) pK.1 (sw_op0 K (by omega)) (Nat.mod_eq_of_lt cl)
              rw [nI_0] at CO
              refine ⟨if p < K then nI (sw_cd lb K 0 / 7 ^ (K - 1 - p) % 7) else -9, τ2, sw_up τ4 37 0 0, ?_, ?_, R2⟩
              · rw [Hx, if_neg z, fX8_cutOfOrder, ep, CO, sw_bs]
              · rw [G1, if_pos (Int32.not_lt.mp z0), ep]
                by_cases l : p < K
                · rw [if_neg (nI_ge l (by omega)), ea, show sw_b2 (some (T 0, sw_cd lb K 0)) = nI (sw_cd lb K 0) from rfl, sw_cutIn hK6 l (by omega), sw_bs, fX10_log_B247, sw_mref, if_pos l]
                · rw [if_pos (nI_le (by omega) (by omega)), fX10_log_B247, sw_mref, if_neg l]
          · exact absurd gd C3
        · -- no such q
          obtain ⟨τ3, C1, C2⟩ := sw_m48 (A5 := a4) (d := d) (σ := τ1) hk (show i + n ≤ 80 by omega) c.2 (d61 τ1 (B1 61 (by decide) (by decide) (by decide))) sw_fuel 0 τ1 (Nat.zero_le _) (by omega) (fun _ _ => rfl) (fun j hj => by omega)
          rcases C2 with ⟨-, C3, C4⟩ | ⟨C3, -⟩
          · rw [nI_0, show nI (7 ^ (0 - 1)) = 1 from rfl] at C3
            refine ⟨-1, τ1, sw_up τ3 37 0 0, ?_, ?_, ?_⟩
            · rw [fX9_log, X, sw_bs, if_pos rfl, RD, sw_bs, if_neg (by decide), sw_within, if_neg q, sw_bs, if_pos rfl]
            · rw [G0 τ1 (B1 59 (by decide) (by decide) (by decide)) (B1 60 (by decide) (by decide) (by decide)), if_pos c', if_neg (by decide), C3, iq, if_neg q, sw_bs, if_pos rfl, sw_mref]
            · refine sw_Rel_log hR (fun c h0 h1 h2 h3 h4 h5 => by rw [sw_up_ne h4, C1 c h5, B1 c h0 h1 h2]) ?_ ?_ (fun j h0 h1 => ?_) (by rw [sw_up_eq, sw_ue])
              · rw [sw_up_ne (by decide), C1 0 (by decide), B0]; exact u0
              · rw [sw_up_ne (by decide), C1 0 (by decide), B0]; exact u12
              · rw [sw_up_eq, sw_un h0, C1 37 (by decide), B1 37 (by decide) (by decide) (by decide)]
          · exact absurd gd C3
      · -- a strain is outside
        obtain ⟨τ3, C1, C2⟩ := sw_m48 (A5 := a4) (d := d) (σ := τ1) hk (show i + n ≤ 80 by omega) c.2 (d61 τ1 (B1 61 (by decide) (by decide) (by decide))) sw_fuel 0 τ1 (Nat.zero_le _) (by omega) (fun _ _ => rfl) (fun j hj => by omega)
        rcases C2 with ⟨C3, -⟩ | ⟨-, C3⟩
        · exact absurd C3 gd
        · rw [nI_0, show nI (7 ^ (0 - 1)) = 1 from rfl] at C3
          refine ⟨-2, τ1, sw_up τ3 37 0 0, ?_, ?_, ?_⟩
          · rw [fX9_log, X, sw_bs, if_pos rfl, RD, sw_bs, if_pos rfl]
          · rw [G0 τ1 (B1 59 (by decide) (by decide) (by decide)) (B1 60 (by decide) (by decide) (by decide)), if_pos c', if_neg (by decide), C3]
          · refine sw_Rel_log hR (fun c h0 h1 h2 h3 h4 h5 => by rw [sw_up_ne h4, C1 c h5, B1 c h0 h1 h2]) ?_ ?_ (fun j h0 h1 => ?_) (by rw [sw_up_eq, sw_ue])
            · rw [sw_up_ne (by decide), C1 0 (by decide), B0]; exact u0
            · rw [sw_up_ne (by decide), C1 0 (by decide), B0]; exact u12
            · rw [sw_up_eq, sw_un h0, C1 37 (by decide), B1 37 (by decide) (by decide) (by decide)]
    · have c' : ¬ (2 ≤ nI n ∧ nI n ≤ 7) := fun z => c ⟨(nI_leI (a := 2) (by decide) (by omega)).mp z.1, (nI_leI (b := 7) (by omega) (by decide)).mp z.2⟩
      refine ⟨-2, sw_up (sw_up σ 0 13 0) 34 0 0, sw_up (sw_up (sw_up σ 0 13 0) 34 0 0) 37 0 0, ?_, ?_, ?_⟩
      · have RD : fX8_read (nI k) (nI i) (nI n) (sw_up σ 0 13 0) = some (0, sw_up (sw_up σ 0 13 0) 34 0 0) := by
          rw [fX8_read, sw_le]
          by_cases z : nI n < 2
          · rw [if_pos z]
          · rw [if_neg z, if_neg (fun y => c' ⟨Int32.not_lt.mp z, y⟩)]
        rw [fX9_log, X, sw_bs, if_pos rfl, RD, sw_bs, if_pos rfl]
      · rw [G0 _ (by rw [sw_up_ne (by decide), sw_up_ne (by decide)]) (by rw [sw_up_ne (by decide), sw_up_ne (by decide)]), if_neg c', if_pos rfl]
      · refine sw_Rel_log hR (fun c h0 h1 h2 h3 h4 h5 => by rw [sw_up_ne h4, sw_up_ne h1, sw_up_ne h0]) ?_ ?_ (fun j h0 h1 => ?_) (by rw [sw_up_eq, sw_ue])
        · rw [sw_up_ne (by decide), sw_up_ne (by decide)]; exact u0
        · rw [sw_up_ne (by decide), sw_up_ne (by decide)]; exact u12
        · rw [sw_up_eq, sw_un h0, sw_up_ne (by decide), sw_up_ne (by decide)]
