/-! sim_board. -/
def sw_FrR (σ τ : sw_St) : Prop := ∀ c : Nat, c ≠ 18 → c ≠ 19 → c ≠ 20 → τ c = σ c
def sw_FrQ (σ τ : sw_St) : Prop := ∀ c : Nat, c ≠ 46 → c ≠ 47 → c ≠ 48 → τ c = σ c
def sw_r3 (cd : Nat → Int32) (a b c : Nat → Int32) (t : Nat) : Prop := ∀ j : Nat, j < t → a j = cd (3 * j) - 48 ∧ b j = cd (3 * j + 1) - 48 - 4 ∧ c j = cd (3 * j + 2) - 48
theorem sw_r3_up {cd a b c : Nat → Int32} {t : Nat} {x y z : Int32} (h : sw_r3 cd a b c t) (hx : x = cd (3 * t) - 48) (hy : y = cd (3 * t + 1) - 48 - 4) (hz : z = cd (3 * t + 2) - 48) : sw_r3 cd (upd a t x) (upd b t y) (upd c t z) (t + 1) := by
  intro j hj
  by_cases e : j = t
  · subst e
    rw [sw_ue, sw_ue, sw_ue]
    exact ⟨hx, hy, hz⟩
  · rw [sw_un e, sw_un e, sw_un e]
    exact h j (by omega)
theorem sw_rdL {k N i n L : Nat} {cd : Nat → Int32} {σ : sw_St} (hk : k < 4) (hN : N ≤ 80) (h1 : ¬ σ 2 k = -1) (h2 : σ 3 k = nI N) (hin : i + n ≤ N) (hcd : ∀ p : Nat, p < n → σ 4 (80 * k + i + p) = cd p) (hL : L ≤ 24) (hLn : 3 * L ≤ n) (h17 : σ 17 0 = nI L) : ∀ (m t : Nat) (τ : sw_St), t ≤ L → L - t < m → sw_FrR σ τ → sw_r3 cd (τ 18) (τ 19) (τ 20) t → ∃ τ' : sw_St, fX0_read_L16 m (nI k) (nI i) (nI t) τ = some ((), τ') ∧ sw_FrR σ τ' ∧ sw_r3 cd (τ' 18) (τ' 19) (τ' 20) L := by
  have hat : ∀ (ρ : sw_St), sw_FrR σ ρ → ∀ p : Nat, p < n → fX7_at (nI k) (nI (i + p)) ρ = some (cd p, ρ) := by
    intro ρ hρ p hp
    rw [sw_at hk hN (by rw [hρ 2 (by decide) (by decide) (by decide)]; exact h1) (by rw [hρ 3 (by decide) (by decide) (by decide)]; exact h2) (show i + p < N by omega), hρ 4 (by decide) (by decide) (by decide), ← Nat.add_assoc, hcd p hp]
  intro m
  induction m with
  | zero => intro t τ _ h; omega
  | succ m ih =>
    intro t τ ht hm hF hr
    rw [fX0_read_L16, hF 17 (by decide) (by decide) (by decide), h17]
    by_cases c : t = L
    · subst c
      rw [if_pos (nI_le (Nat.le_refl _) (by omega))]
      exact ⟨τ, rfl, hF, hr⟩
    · have u18 : ∀ {ρ : sw_St} {x : Nat} {v : Int32}, sw_FrR σ ρ → sw_FrR σ (sw_up ρ 18 x v) := fun h c a1 a2 a3 => by rw [sw_up_ne a1]; exact h c a1 a2 a3
      have u19 : ∀ {ρ : sw_St} {x : Nat} {v : Int32}, sw_FrR σ ρ → sw_FrR σ (sw_up ρ 19 x v) := fun h c a1 a2 a3 => by rw [sw_up_ne a2]; exact h c a1 a2 a3
      have u20 : ∀ {ρ : sw_St} {x : Nat} {v : Int32}, sw_FrR σ ρ → sw_FrR σ (sw_up ρ 20 x v) := fun h c a1 a2 a3 => by rw [sw_up_ne a3]; exact h c a1 a2 a3
      have m3 : nI t * 3 = nI (3 * t) := by rw [Nat.mul_comm]; exact pk_mul t 3
      have p1 : nI (i + 3 * t) + 1 = nI (i + (3 * t + 1)) := nI_1 _
      have p2 : nI (i + 3 * t) + 2 = nI (i + (3 * t + 2)) := nI_add (i + 3 * t) 2
      have ok := sw_ok_nI (show t < 24 by omega) (by decide)
      rw [if_neg (nI_ge (show t < L by omega) (by omega)), sw_le, m3, nI_add, hat τ hF _ (by omega), sw_bs, if_pos ok, sw_le, p1, hat _ (u18 hF) _ (by omega), sw_bs, if_pos ok, sw_le, p2, hat _ (u19 (u18 hF)) _ (by omega), sw_bs, if_pos ok, sw_le, nI_1, nI_clamp (show t < 2 ^ 31 by omega)]
      refine ih (t + 1) _ (by omega) (by omega) (u20 (u19 (u18 hF))) ?_
      rw [sw_up_ne (show 18 ≠ 20 by decide), sw_up_ne (show 18 ≠ 19 by decide), sw_up_eq, sw_up_ne (show 19 ≠ 20 by decide), sw_up_eq, sw_up_ne (show 19 ≠ 18 by decide), sw_up_eq, sw_up_ne (show 20 ≠ 19 by decide), sw_up_ne (show 20 ≠ 18 by decide)]
      exact sw_r3_up hr rfl rfl rfl
theorem sw_bdL {L : Nat} {cd : Nat → Int32} {σ : sw_St} (hL : L ≤ 24) (h12 : σ 37 12 = nI L) (hrn : sw_rn cd σ L) : ∀ (m t : Nat) (τ : sw_St), t ≤ L → L - t < m → sw_FrQ σ τ → sw_r3 cd (τ 46) (τ 47) (τ 48) t → ∃ τ' : sw_St, fX10_board_L58 m (nI t) τ = some (nI L, sw_up (sw_up τ' 37 28 0) 37 0 0) ∧ sw_FrQ σ τ' ∧ sw_r3 cd (τ' 46) (τ' 47) (τ' 48) L := by
  intro m
  induction m with
  | zero => intro t τ _ h; omega
  | succ m ih =>
    intro t τ ht hm hF hr
    have h37 := hF 37 (by decide) (by decide) (by decide)
    rw [fX10_board_L58, h37, h12]
    by_cases c : t = L
    · subst c
      rw [if_pos (nI_le (Nat.le_refl _) (by omega)), sw_le, sw_mref, sw_up_eq, sw_un (by decide), h37, h12]
      exact ⟨τ, rfl, hF, hr⟩
    · have ok := sw_ok_nI (show t < 24 by omega) (by decide)
      obtain ⟨r1, r2, r3⟩ := hrn t (by omega)
      have h45 := hF 45 (by decide) (by decide) (by decide)
      rw [if_neg (nI_ge (show t < L by omega) (by omega)), sw_ix3, show nI (3 * t) + 1 = nI (3 * t + 1) from nI_1 _, show nI (3 * t) + 2 = nI (3 * t + 2) from nI_add (3 * t) 2, if_pos (sw_ok_nI (show 3 * t < 72 by omega) (by decide)), if_pos ok, sw_le, if_pos (sw_ok_nI (show 3 * t + 1 < 72 by omega) (by decide)), if_pos ok, sw_le, if_pos (sw_ok_nI (show 3 * t + 2 < 72 by omega) (by decide)), if_pos ok, sw_le, nI_1, nI_clamp (show t < 2 ^ 31 by omega), nI_clamp (show 3 * t < 2 ^ 31 by omega), nI_clamp (show 3 * t + 1 < 2 ^ 31 by omega), nI_clamp (show 3 * t + 2 < 2 ^ 31 by omega)]
      refine ih (t + 1) _ (by omega) (by omega) (fun c a1 a2 a3 => by rw [sw_up_ne a3, sw_up_ne a2, sw_up_ne a1]; exact hF c a1 a2 a3) ?_
      rw [sw_up_ne (show 46 ≠ 48 by decide), sw_up_ne (show 46 ≠ 47 by decide), sw_up_eq, sw_up_ne (show 47 ≠ 48 by decide), sw_up_eq, sw_up_ne (show 47 ≠ 46 by decide), sw_up_eq, sw_up_ne (show 48 ≠ 47 by decide), sw_up_ne (show 48 ≠ 46 by decide), sw_up_ne (show 45 ≠ 47 by decide), sw_up_ne (show 45 ≠ 46 by decide), h45]
      exact sw_r3_up hr r1 r2 r3
theorem sw_Rel_FrB {σ τ : sw_St} (hR : sw_Rel σ) (hF : sw_FrB (sw_up σ 0 13 0) τ) : sw_Rel (sw_up τ 37 0 0) := by
  obtain ⟨hT, hB, hH, hFl, hRd, hS, ⟨hZ1, hZ2⟩⟩ := hR
  have g : ∀ c : Nat, c ≠ 0 → c ≠ 37 → c ≠ 45 → (sw_up τ 37 0 0) c = σ c := fun c a0 a1 a2 => by rw [sw_up_ne a1, hF.1 c a1 a2, sw_up_ne a0]
  have g0 : (sw_up τ 37 0 0) 0 = upd (σ 0) 13 0 := by rw [sw_up_ne (by decide), hF.1 0 (by decide) (by decide), sw_up_eq]
  have g37 : ∀ k : Nat, k ≠ 0 → k ≠ 7 → k ≠ 8 → (sw_up τ 37 0 0) 37 k = σ 37 k := fun k a0 a1 a2 => by rw [sw_up_eq, sw_un a0, hF.2 k a1 a2, sw_up_ne (by decide)]
  have g370 : (sw_up τ 37 0 0) 37 0 = 0 := by rw [sw_up_eq, sw_ue]
  unfold sw_Rel
  rw [g0, g370, sw_ue, sw_un (show 12 ≠ 13 by decide), g37 1, g37 12, g37 16, g37 17, g37 18, g37 19, g37 24, g37 28, g37 45, g 5, g 6, g 7, g 8, g 38, g 39, g 40, g 41, g 42, g 17, g 18, g 19, g 20, g 46, g 47, g 48, g 21, g 26, g 27, g 28, g 29, g 51, g 52, g 53, g 30, g 31, g 32, g 54, g 55, g 2, g 3, g 4, g 59, g 60, g 61]
  · exact ⟨hT, hB, hH, hFl, hRd, hS, ⟨rfl, hZ2⟩⟩
  all_goals decide
theorem sw_hard9 {c : Int32} (h : (!decide (c < 49) && !decide (57 < c)) = true) : ∃ j : Nat, 1 ≤ j ∧ j ≤ 9 ∧ c - 48 = nI j := by
  simp only [Bool.and_eq_true, Bool.not_eq_true', decide_eq_false_iff_not, Int32.lt_iff_toInt_lt] at h
  have e1 : (49 : Int32).toInt = 49 := rfl
  have e2 : (57 : Int32).toInt = 57 := rfl
  rw [e1, e2] at h
  refine ⟨(c.toInt - 48).toNat, by omega, by omega, ?_⟩
  apply Int32.toInt_inj.mp
  rw [sw_s48, nI_toInt (by omega)]
  split <;> omega
theorem sw_ne_m1 {e : Nat} (h : e < 2 ^ 31) : ¬ nI e = -1 := fun q => by
  have := nI_pos' h
  rw [q] at this
  exact absurd this (by decide)
theorem sim_board (a0 a1 a2 a3 : Int32) : sw_sim (fX9_board a0 a1 a2 a3) (fX10_board a0 a1 a2 a3) := by
  intro σ hR
  obtain ⟨hT, hB, hH, hFl, hRd, hS, ⟨hZ1, hZ2⟩⟩ := id hR
  rcases sw_refuse hR a0 a1 a2 a3 with ⟨r, f, r1, r2, X, Y⟩ | ⟨k, N, i, n, hk, hN, rfl, rfl, rfl, hin, l1, l2, l3, l4, X, Y⟩
  · refine ⟨r, sw_up σ 0 13 f, sw_up (sw_up σ 0 13 f) 37 0 f, ?_, ?_, sw_fault_rel hR f⟩
    · rw [fX9_board, X, sw_bs, if_neg r2]
    · rw [fX10_board, Y _ (sw_up_ne (by decide)) (sw_up_ne (by decide)), sw_bs, if_neg r1]
  · obtain ⟨cd, hcd⟩ : ∃ cd : Nat → Int32, ∀ p : Nat, cd p = σ 4 (80 * k + i + p) := ⟨_, fun _ => rfl⟩
    obtain ⟨e, hE⟩ := sw_bE_ex cd n
    have hb := sw_fuel_big
    have u2 : (sw_up σ 0 13 0) 2 = σ 2 := sw_up_ne (by decide)
    have u3 : (sw_up σ 0 13 0) 3 = σ 3 := sw_up_ne (by decide)
    have u4 : (sw_up σ 0 13 0) 4 = σ 4 := sw_up_ne (by decide)
    have c61 : ∀ p : Nat, p < n → σ 61 (80 * k + i + p) = cd p := fun p hp => by
      have := l4 (i + p) (by omega)
      rw [← Nat.add_assoc] at this
      rw [this, hcd]
    have FF := sw_ffL (cd := cd) (σ := sw_up σ 0 13 0) hk hN (by rw [u2]; exact l1) (by rw [u3]; exact l2) hin (fun p _ => by rw [u4, hcd]) hE sw_fuel 0 (Nat.zero_le _) (by omega)
    rw [nI_0] at FF
    have ix : (80 : Int32) * nI k + nI i = nI (80 * k + i) := by rw [show (80 : Int32) * nI k = nI (80 * k) from pk_mul 80 k, nI_add]
    by_cases hS' : e = n ∧ 0 < n ∧ n % 3 = 0
    · rw [if_pos hS'] at FF
      obtain ⟨hen, hn0, hn3⟩ := id hS'
      have hn72 : n ≤ 72 := by have := (hE.2.1 (n - 1) (by omega)).1; omega
      obtain ⟨L, hL⟩ : ∃ L : Nat, n = 3 * L := ⟨n / 3, by omega⟩
      have d3 : nI n / 3 = nI L := by
        rw [show nI n / 3 = nI (n / 3) from pk_div (d := 3) (by omega) (by decide) (by decide), show n / 3 = L by omega]
      have mn : ∀ τ : sw_St, fJ9_min_7cf53 (nI n / 3) 24 τ = some (nI L, τ) := fun τ => by
        rw [fJ9_min_7cf53, d3, if_neg (show ¬ (24 : Int32) < nI L from nI_nlt (a := 24) (by omega) (by omega))]
      obtain ⟨τ1, A1, A2, A3⟩ := sw_rdL (cd := cd) (L := L) (σ := sw_up (sw_up σ 0 13 0) 17 0 (nI L)) hk hN (by rw [sw_up_ne (by decide), u2]; exact l1) (by rw [sw_up_ne (by decide), u3]; exact l2) hin (fun p _ => by rw [sw_up_ne (by decide), u4, hcd]) (by omega) (by omega) (by rw [sw_up_eq, sw_ue]) sw_fuel 0 (sw_up (sw_up σ 0 13 0) 17 0 (nI L)) (Nat.zero_le _) (by omega) (fun c _ _ _ => rfl) (fun j hj => by omega)
      have a1 : ∀ c : Nat, c ≠ 0 → c ≠ 17 → c ≠ 18 → c ≠ 19 → c ≠ 20 → c ≠ 30 → (sw_up τ1 30 0 0) c = σ c := fun c b0 b1 b2 b3 b4 b5 => by rw [sw_up_ne b5, A2 c b2 b3 b4, sw_up_ne b1, sw_up_ne b0]
      obtain ⟨τ2, B1, B2, B3, B4⟩ := sw_mbL (b := 80 * k + i) (n := n) (e := e) (cd := cd) (σ := sw_up (sw_up (sw_up τ1 30 0 0) 37 7 0) 37 8 0) (by omega) (by omega) (fun p hp => by rw [sw_up_ne (by decide), sw_up_ne (by decide), a1 61 (by decide) (by decide) (by decide) (by decide) (by decide) (by decide)]; exact c61 p hp) hE sw_fuel 0 _ (Nat.zero_le _) (by omega) (by omega) ⟨fun c _ _ => rfl, fun k _ _ => rfl⟩ (by rw [sw_up_eq, sw_un (by decide), sw_up_eq, sw_ue]; rfl) (by rw [sw_up_eq, sw_ue]; rfl) (fun j hj => by omega)
      obtain ⟨B5, B6, B7⟩ := B3 hS'
      rw [if_pos hS'] at B1
      rw [show n / 3 = L by omega] at B5 B6 B7
      obtain ⟨τ3, C1, C2, C3⟩ := sw_bdL (L := L) (cd := cd) (σ := sw_up τ2 37 12 (nI L)) B6 (by rw [sw_up_eq, sw_ue]) (fun j hj => by rw [sw_up_ne (by decide)]; exact B7 j hj) sw_fuel 0 _ (Nat.zero_le _) (by omega) (fun c _ _ _ => rfl) (fun j hj => by omega)
      rw [nI_0] at A1 C1
      have t17 : (sw_up τ1 30 0 0) 17 0 = nI L := by rw [sw_up_ne (by decide), A2 17 (by decide) (by decide) (by decide), sw_up_eq, sw_ue]
      refine ⟨nI L, sw_up τ1 30 0 0, sw_up (sw_up τ3 37 28 0) 37 0 0, ?_, ?_, ?_⟩
      · rw [fX9_board, X, sw_bs, if_pos rfl, fX0_firstFault, FF, sw_bs, if_pos rfl, fX0_read, mn, sw_bs, sw_le, A1, sw_bs, sw_le, t17]
      · rw [fX10_board, Y _ (a1 59 (by decide) (by decide) (by decide) (by decide) (by decide) (by decide)) (a1 60 (by decide) (by decide) (by decide) (by decide) (by decide) (by decide)), sw_bs, if_pos (by decide), ix, fX10_readsBoard, sw_le, sw_le, B1, sw_bs, if_neg (by decide), sw_le, B5, C1]
      · have g : ∀ c : Nat, c ≠ 46 → c ≠ 47 → c ≠ 48 → c ≠ 37 → c ≠ 45 → (sw_up (sw_up τ3 37 28 0) 37 0 0) c = (sw_up τ1 30 0 0) c := fun c b1 b2 b3 b4 b5 => by
          rw [sw_up_ne b4, sw_up_ne b4, C2 c b1 b2 b3, sw_up_ne b4, B2.1 c b4 b5, sw_up_ne b4, sw_up_ne b4]
        have g37 : ∀ k : Nat, k ≠ 0 → k ≠ 7 → k ≠ 8 → k ≠ 12 → k ≠ 28 → (sw_up (sw_up τ3 37 28 0) 37 0 0) 37 k = σ 37 k := fun k b0 b1 b2 b3 b4 => by
          rw [sw_up_eq, sw_un b0, sw_up_eq, sw_un b4, C2 37 (by decide) (by decide) (by decide), sw_up_eq, sw_un b3, B2.2 k b1 b2, sw_up_eq, sw_un b2, sw_up_eq, sw_un b1, a1 37 (by decide) (by decide) (by decide) (by decide) (by decide) (by decide)]
        have g0 : (sw_up (sw_up τ3 37 28 0) 37 0 0) 37 0 = 0 := by rw [sw_up_eq, sw_ue]
        have g28 : (sw_up (sw_up τ3 37 28 0) 37 0 0) 37 28 = 0 := by rw [sw_up_eq, sw_un (by decide), sw_up_eq, sw_ue]
        have g12 : (sw_up (sw_up τ3 37 28 0) 37 0 0) 37 12 = nI L := by rw [sw_up_eq, sw_un (by decide), sw_up_eq, sw_un (by decide), C2 37 (by decide) (by decide) (by decide), sw_up_eq, sw_ue]
        have f0 : (sw_up τ1 30 0 0) 0 = upd (σ 0) 13 0 := by rw [sw_up_ne (by decide), A2 0 (by decide) (by decide) (by decide), sw_up_ne (by decide), sw_up_eq]
        have f30 : (sw_up τ1 30 0 0) 30 0 = 0 := by rw [sw_up_eq, sw_ue]
        have h46 : ∀ c : Nat, c ≠ 37 → (sw_up (sw_up τ3 37 28 0) 37 0 0) c = τ3 c := fun c b => by rw [sw_up_ne b, sw_up_ne b]
        have f18 : ∀ c : Nat, c ≠ 30 → (sw_up τ1 30 0 0) c = τ1 c := fun c b => sw_up_ne b
        unfold sw_Rel
        rw [g0, g28, g12, h46 46, h46 47, h46 48, g37 1, g37 16, g37 17, g37 18, g37 19, g37 24, g37 45, g 5, g 6, g 7, g 8, g 38, g 39, g 40, g 41, g 42, g 17, g 18, g 19, g 20, g 21, g 26, g 27, g 28, g 29, g 51, g 52, g 53, g 30, g 31, g 32, g 54, g 55, g 2, g 3, g 4, g 59, g 60, g 61, g 0, f0, f30, t17, f18 18, f18 19, f18 20, a1 5, a1 6, a1 7, a1 8, a1 38, a1 39, a1 40, a1 41, a1 42, a1 21, a1 26, a1 27, a1 28, a1 29, a1 51, a1 52, a1 53, a1 31, a1 32, a1 54, a1 55, a1 2, a1 3, a1 4, a1 59, a1 60, a1 61, sw_ue, sw_un (show 12 ≠ 13 by decide)]
        · refine ⟨hT, ⟨rfl, L, B6, rfl, fun t ht => ?_⟩, hH, hFl, ⟨rfl, 0, Nat.zero_le _, rfl, fun i hi => by omega⟩, hS, ⟨rfl, hZ2⟩⟩
          obtain ⟨v1, v2, v3⟩ := A3 t ht
          obtain ⟨w1, w2, w3⟩ := C3 t ht
          refine ⟨⟨by rw [w1, v1], by rw [w2, v2], by rw [w3, v3]⟩, ?_⟩
          rw [v1]
          have := (hE.2.1 (3 * t) (by omega)).2
          rw [sw_bg0] at this
          exact sw_hard9 this
        all_goals decide
    · rw [if_neg hS'] at FF
      obtain ⟨τ2, B1, B2, B3, B4⟩ := sw_mbL (b := 80 * k + i) (n := n) (e := e) (cd := cd) (σ := sw_up (sw_up (sw_up σ 0 13 0) 37 7 0) 37 8 0) (by omega) (by omega) (fun p hp => by rw [sw_up_ne (by decide), sw_up_ne (by decide), sw_up_ne (by decide)]; exact c61 p hp) hE sw_fuel 0 _ (Nat.zero_le _) (by omega) (by omega) ⟨fun c _ _ => rfl, fun k _ _ => rfl⟩ (by rw [sw_up_eq, sw_un (by decide), sw_up_eq, sw_ue]; rfl) (by rw [sw_up_eq, sw_ue]; rfl) (fun j hj => by omega)
      rw [if_neg hS'] at B1
      have ne1 : ¬ nI e = -1 := sw_ne_m1 (by have := hE.1; omega)
      refine ⟨-100 - nI e, sw_up σ 0 13 0, sw_up τ2 37 0 0, ?_, ?_, sw_Rel_FrB hR ⟨fun c b1 b2 => ?_, fun k b1 b2 => ?_⟩⟩
      · rw [fX9_board, X, sw_bs, if_pos rfl, fX0_firstFault, FF, sw_bs, if_neg ne1]
      · rw [fX10_board, Y _ (sw_up_ne (by decide)) (sw_up_ne (by decide)), sw_bs, if_pos (by decide), ix, fX10_readsBoard, sw_le, sw_le, B1, sw_bs, if_pos rfl, sw_mref, B4 hS']
      · rw [B2.1 c b1 b2, sw_up_ne b1, sw_up_ne b1]
      · rw [B2.2 k b1 b2, sw_up_eq, sw_un b2, sw_up_eq, sw_un b1]
