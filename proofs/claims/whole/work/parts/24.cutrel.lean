/-! Both cuts are one. -/
theorem sw_ns_congr {kf : Int32} {cl cl' : Nat → Int32} : ∀ {n : Nat}, (∀ t : Nat, t < n → cl t = cl' t) → sw_ns kf cl n = sw_ns kf cl' n := by
  intro n
  induction n with
  | zero => intro _; rfl
  | succ n ih =>
    intro h
    rw [sw_ns, sw_ns, ih (fun t ht => h t (by omega)), h n (by omega)]
theorem sw_cu_congr {pu : Int32} {hd gr hd' gr' : Nat → Int32} {le st : Int32} {la : Nat} {ra : Int32} : ∀ {n : Nat}, (∀ t : Nat, t < n → hd t = hd' t ∧ gr t = gr' t) → sw_cu pu hd gr le st la ra n = sw_cu pu hd' gr' le st la ra n := by
  intro n
  induction n with
  | zero => intro _; rfl
  | succ n ih =>
    intro h
    obtain ⟨e1, e2⟩ := h n (by omega)
    rw [sw_cu, sw_cu, ih (fun t ht => h t (by omega)), e1, e2]
def sw_Sn (σ : sw_St) (N L : Nat) : Nat := sw_ns (sw_kf (sw_X6 σ 5) N) (σ 20) L
def sw_Zn (σ : sw_St) (N la s : Nat) : (Nat → Int32) × (Nat → Int32) × Int32 := sw_cu (sw_ps (sw_X6 σ 5) N) (σ 18) (σ 19) (σ 21 0) (σ 21 1) la (σ 21 3) s
theorem sw_Rel_x {σ τ : sw_St} (h : sw_Fr σ τ) (hR : sw_Rel σ) : sw_Rel τ := by
  have e := fun (c : Nat) (h1 : c ≠ 23) (h2 : c ≠ 24) (h3 : c ≠ 25) => h c h1 h2 h3
  unfold sw_Rel
  rw [e 5 (by decide) (by decide) (by decide), e 37 (by decide) (by decide) (by decide), e 6 (by decide) (by decide) (by decide), e 7 (by decide) (by decide) (by decide), e 8 (by decide) (by decide) (by decide), e 38 (by decide) (by decide) (by decide), e 39 (by decide) (by decide) (by decide), e 40 (by decide) (by decide) (by decide), e 41 (by decide) (by decide) (by decide), e 42 (by decide) (by decide) (by decide), e 17 (by decide) (by decide) (by decide), e 18 (by decide) (by decide) (by decide), e 19 (by decide) (by decide) (by decide), e 20 (by decide) (by decide) (by decide), e 46 (by decide) (by decide) (by decide), e 47 (by decide) (by decide) (by decide), e 48 (by decide) (by decide) (by decide), e 21 (by decide) (by decide) (by decide), e 26 (by decide) (by decide) (by decide), e 27 (by decide) (by decide) (by decide), e 28 (by decide) (by decide) (by decide), e 29 (by decide) (by decide) (by decide), e 51 (by decide) (by decide) (by decide), e 52 (by decide) (by decide) (by decide), e 53 (by decide) (by decide) (by decide), e 30 (by decide) (by decide) (by decide), e 31 (by decide) (by decide) (by decide), e 32 (by decide) (by decide) (by decide), e 54 (by decide) (by decide) (by decide), e 55 (by decide) (by decide) (by decide), e 2 (by decide) (by decide) (by decide), e 3 (by decide) (by decide) (by decide), e 4 (by decide) (by decide) (by decide), e 59 (by decide) (by decide) (by decide), e 60 (by decide) (by decide) (by decide), e 61 (by decide) (by decide) (by decide), e 0 (by decide) (by decide) (by decide)]
  exact hR
theorem sw_Rel_m {σ τ : sw_St} (h : sw_FrM σ τ) (hR : sw_Rel σ) : sw_Rel τ := by
  obtain ⟨e, g⟩ := h
  unfold sw_Rel
  rw [e 5 (by decide) (by decide) (by decide), e 6 (by decide) (by decide) (by decide), e 7 (by decide) (by decide) (by decide), e 8 (by decide) (by decide) (by decide), e 38 (by decide) (by decide) (by decide), e 39 (by decide) (by decide) (by decide), e 40 (by decide) (by decide) (by decide), e 41 (by decide) (by decide) (by decide), e 42 (by decide) (by decide) (by decide), e 17 (by decide) (by decide) (by decide), e 18 (by decide) (by decide) (by decide), e 19 (by decide) (by decide) (by decide), e 20 (by decide) (by decide) (by decide), e 46 (by decide) (by decide) (by decide), e 47 (by decide) (by decide) (by decide), e 48 (by decide) (by decide) (by decide), e 21 (by decide) (by decide) (by decide), e 26 (by decide) (by decide) (by decide), e 27 (by decide) (by decide) (by decide), e 28 (by decide) (by decide) (by decide), e 29 (by decide) (by decide) (by decide), e 51 (by decide) (by decide) (by decide), e 52 (by decide) (by decide) (by decide), e 53 (by decide) (by decide) (by decide), e 30 (by decide) (by decide) (by decide), e 31 (by decide) (by decide) (by decide), e 32 (by decide) (by decide) (by decide), e 54 (by decide) (by decide) (by decide), e 55 (by decide) (by decide) (by decide), e 2 (by decide) (by decide) (by decide), e 3 (by decide) (by decide) (by decide), e 4 (by decide) (by decide) (by decide), e 59 (by decide) (by decide) (by decide), e 60 (by decide) (by decide) (by decide), e 61 (by decide) (by decide) (by decide), e 0 (by decide) (by decide) (by decide), g 1 (by decide) (by decide), g 12 (by decide) (by decide), g 16 (by decide) (by decide), g 17 (by decide) (by decide), g 18 (by decide) (by decide), g 19 (by decide) (by decide), g 24 (by decide) (by decide), g 28 (by decide) (by decide), g 0 (by decide) (by decide), g 45 (by decide) (by decide)]
  exact hR
theorem sw_Sn_x {σ τ : sw_St} (h : sw_Fr σ τ) (N L la s : Nat) : sw_Sn τ N L = sw_Sn σ N L ∧ sw_Zn τ N la s = sw_Zn σ N la s := by
  have e := fun (c : Nat) (h1 : c ≠ 23) (h2 : c ≠ 24) (h3 : c ≠ 25) => h c h1 h2 h3
  have hX : sw_X6 τ 5 = sw_X6 σ 5 := by
    funext k
    show (τ 6 k, τ 7 k, τ 8 (3 * k), τ 8 (3 * k + 1), τ 8 (3 * k + 2)) = (σ 6 k, σ 7 k, σ 8 (3 * k), σ 8 (3 * k + 1), σ 8 (3 * k + 2))
    rw [e 6 (by decide) (by decide) (by decide), e 7 (by decide) (by decide) (by decide), e 8 (by decide) (by decide) (by decide)]
  unfold sw_Sn sw_Zn
  rw [hX, e 20 (by decide) (by decide) (by decide), e 18 (by decide) (by decide) (by decide), e 19 (by decide) (by decide) (by decide), e 21 (by decide) (by decide) (by decide)]
  exact ⟨rfl, rfl⟩
/-- the class's cut with any of its saws and hands -/
theorem sw_go {c c1 N L la : Nat} {σ : sw_St} (hN : N ≤ 8) (hc : σ c 0 = nI N) (k1 : c < 23) (hL : L ≤ 24) (hB : σ 17 0 = nI L) (hh : ∀ t : Nat, t < L → ∃ j : Nat, 1 ≤ j ∧ j ≤ 9 ∧ σ 18 t = nI j) (hla : la ≤ 5) (hl : σ c1 2 = nI la) (n1 : c1 < 23) (k2 : c + 3 < 23) : ∃ τ : sw_St, fX1_go c c1 σ = some ((), τ) ∧ sw_CX σ τ (sw_cu (sw_ps (sw_X6 σ c) N) (σ 18) (σ 19) (σ c1 0) (σ c1 1) la (σ c1 3) (sw_ns (sw_kf (sw_X6 σ c) N) (σ 20) L)) (sw_ns (sw_kf (sw_X6 σ c) N) (σ 20) L) (if sw_ns (sw_kf (sw_X6 σ c) N) (σ 20) L < L then nI (sw_ns (sw_kf (sw_X6 σ c) N) (σ 20) L) else -9) := by
  obtain ⟨σ0, hσ0⟩ : ∃ σ0, σ0 = sw_up (sw_up (sw_up σ 23 0 0) 23 1 (-9)) 23 2 0 := ⟨_, rfl⟩
  have f : ∀ c' : Nat, c' ≠ 23 → σ0 c' = σ c' := fun c' h => by rw [hσ0, sw_up_ne h, sw_up_ne h, sw_up_ne h]
  have hX : sw_X6 σ0 c = sw_X6 σ c := by
    funext k
    show (σ0 (c + 1) k, σ0 (c + 2) k, σ0 (c + 3) (3 * k), σ0 (c + 3) (3 * k + 1), σ0 (c + 3) (3 * k + 2)) = _
    rw [f (c + 1) (by omega), f (c + 2) (by omega), f (c + 3) (by omega)]
    rfl
  have hc0 : σ0 c 0 = nI N := by rw [f c (by omega)]; exact hc
  have hb := sw_fuel_big
  have hE : fX1_go c c1 σ = fX1_go_L31 c c1 sw_fuel (sw_ps (sw_X6 σ c) N) (sw_kf (sw_X6 σ c) N) 0 σ0 := by
    rw [fX1_go, sw_le, sw_le, sw_le, ← hσ0, sw_push hN hc0, sw_bs, sw_kerf hN hc0, sw_bs, hX]
  rw [hE]
  refine sw_goL hL hB hh hla hl (by omega) (by omega) (by omega) sw_fuel 0 σ0 (Nat.zero_le _) (by omega) (fun j hj => by omega) ⟨fun c' a1 a2 a3 => f c' a1, ?_, ?_, ?_, fun j hj => by omega⟩
  · rw [hσ0, sw_up_eq, sw_un (by decide), sw_up_eq, sw_un (by decide), sw_up_eq, sw_ue]; rfl
  · rw [hσ0, sw_up_eq, sw_un (by decide), sw_up_eq, sw_ue]
  · rw [hσ0, sw_up_eq, sw_ue]; rfl
/-- the reference's cut, with whatever saw it has just now -/
theorem sw_mcut0 {N L la : Nat} {σ : sw_St} (hN : N ≤ 8) (hc : σ 37 1 = nI N) (hv : sw_okS (sw_M6 σ) N) (hL : L ≤ 24) (hB : σ 37 12 = nI L) (hh : ∀ t : Nat, t < L → ∃ j : Nat, 1 ≤ j ∧ j ≤ 9 ∧ σ 46 t = nI j) (hla : la ≤ 5) (hl : σ 37 18 = nI la) : ∃ τ : sw_St, fX10_cut σ = some ((), τ) ∧ sw_CM σ τ (sw_cu (sw_ps (sw_M6 σ) N) (σ 46) (σ 47) (σ 37 16) (σ 37 17) la (σ 37 19) (if N = 0 then 0 else sw_ns (sw_kf (sw_M6 σ) N) (σ 48) L)) (if N = 0 then 0 else sw_ns (sw_kf (sw_M6 σ) N) (σ 48) L) := by
  obtain ⟨σ0, hσ0⟩ : ∃ σ0, σ0 = sw_up (sw_up σ 37 20 0) 37 23 0 := ⟨_, rfl⟩
  have hb := sw_fuel_big
  have hE : fX10_cut σ = fX10_cut_L28 sw_fuel (sw_ps (sw_M6 σ) N) (sw_kf (sw_M6 σ) N) 0 0 0 σ0 := by
    rw [fX10_cut, sw_pushNow hN hc, sw_bs, sw_kerfNow hN hc hv, sw_bs, sw_le, sw_le, ← hσ0]
  have hI : sw_CM σ σ0 (sw_cu (sw_ps (sw_M6 σ) N) (σ 46) (σ 47) (σ 37 16) (σ 37 17) la (σ 37 19) 0) 0 := by
    refine ⟨⟨fun c' a1 _ _ => by rw [hσ0, sw_up_ne a1, sw_up_ne a1], fun k a1 a2 => by rw [hσ0, sw_up_eq, sw_un a2, sw_up_eq, sw_un a1]⟩, ?_, ?_, fun j hj => by omega⟩
    · rw [hσ0, sw_up_eq, sw_un (by decide), sw_up_eq, sw_ue]; rfl
    · rw [hσ0, sw_up_eq, sw_ue]; rfl
  rw [hE]
  by_cases z : N = 0
  · rw [if_pos z]
    refine ⟨σ0, ?_, hI⟩
    obtain ⟨f, hf⟩ : ∃ f, sw_fuel = f + 1 := ⟨sw_fuel - 1, by omega⟩
    rw [hf]
    unfold fX10_cut_L28
    have g1 : σ0 37 1 = 0 := by rw [hI.1.2 1 (by decide) (by decide), hc, z]; rfl
    by_cases q : σ0 37 12 ≤ 0
    · rw [if_pos q]
    · rw [if_neg q, g1, if_pos (by decide)]
  · rw [if_neg z]
    exact sw_cutL hL hB hh hla hl (by omega) hN hc sw_fuel 0 σ0 (Nat.zero_le _) (by omega) (fun j hj => by omega) hI
/-- both, in related states -/
theorem sw_rel_n {σ : sw_St} (hR : sw_Rel σ) : ∃ N L la : Nat, N ≤ 8 ∧ σ 5 0 = nI N ∧ L ≤ 24 ∧ σ 17 0 = nI L ∧ la ≤ 5 ∧ σ 21 2 = nI la := by
  obtain ⟨⟨-, N, hN, hn, -⟩, ⟨-, L, hL, hl, -⟩, ⟨-, la, h5, e⟩, -⟩ := hR
  exact ⟨N, L, la, hN, hn, hL, hl, h5, e⟩
theorem sw_xcut {σ : sw_St} (hR : sw_Rel σ) {N L la : Nat} (hN : N ≤ 8) (hn : σ 5 0 = nI N) (hL : L ≤ 24) (hl : σ 17 0 = nI L) (hla : la ≤ 5) (ha : σ 21 2 = nI la) : ∃ τ : sw_St, fX1_go 5 21 σ = some ((), τ) ∧ sw_CX σ τ (sw_Zn σ N la (sw_Sn σ N L)) (sw_Sn σ N L) (if sw_Sn σ N L < L then nI (sw_Sn σ N L) else -9) := by
  obtain ⟨-, ⟨-, L', hL', hl', hB⟩, -⟩ := hR
  have e : L' = L := (nI_eq (by omega) (by omega)).mp (hl'.symm.trans hl)
  subst e
  exact sw_go hN hn (by decide) hL hl (fun t ht => (hB t ht).2) hla ha (by decide) (by decide)
theorem sw_mcut {σ : sw_St} (hR : sw_Rel σ) {N L la : Nat} (hN : N ≤ 8) (hn : σ 5 0 = nI N) (hL : L ≤ 24) (hl : σ 17 0 = nI L) (hla : la ≤ 5) (ha : σ 21 2 = nI la) : ∃ τ : sw_St, fX10_cut σ = some ((), τ) ∧ sw_CM σ τ (sw_Zn σ N la (if N = 0 then 0 else sw_Sn σ N L)) (if N = 0 then 0 else sw_Sn σ N L) := by
  obtain ⟨hm2, hv, he⟩ := sw_rel_saw hR hn hN
  obtain ⟨-, ⟨hmB, L', hL', hl', hB⟩, ⟨⟨h1, h2, h3, h4⟩, -⟩, -⟩ := id hR
  have e : L' = L := (nI_eq (by omega) (by omega)).mp (hl'.symm.trans hl)
  subst e
  obtain ⟨g1, g2, g3, g4⟩ := sw_ps_congr he
  have hh : ∀ t : Nat, t < L' → ∃ j : Nat, 1 ≤ j ∧ j ≤ 9 ∧ σ 46 t = nI j := by
    intro t ht
    obtain ⟨⟨q1, -, -⟩, j, j1, j2, j3⟩ := hB t ht
    exact ⟨j, j1, j2, by rw [q1]; exact j3⟩
  obtain ⟨τ, e1, e2⟩ := sw_mcut0 hN hm2 (sw_okS_congr he hv) hL (by rw [hmB]; exact hl) hh hla (by rw [h3]; exact ha)
  have ek : sw_kf (sw_M6 σ) N = sw_kf (sw_X6 σ 5) N := by unfold sw_kf; rw [g3, g4]
  have es : sw_ns (sw_kf (sw_M6 σ) N) (σ 48) L' = sw_Sn σ N L' := by
    rw [ek]
    exact sw_ns_congr (fun t ht => (hB t ht).1.2.2)
  rw [es] at e2
  refine ⟨τ, e1, ?_⟩
  have hs : (if N = 0 then 0 else sw_Sn σ N L') ≤ L' := by
    split
    · omega
    · exact sw_ns_le _ _ _
  have ez : sw_cu (sw_ps (sw_M6 σ) N) (σ 46) (σ 47) (σ 37 16) (σ 37 17) la (σ 37 19) (if N = 0 then 0 else sw_Sn σ N L') = sw_Zn σ N la (if N = 0 then 0 else sw_Sn σ N L') := by
    unfold sw_Zn
    rw [g1, h1, h2, h4]
    exact sw_cu_congr (fun t ht => ⟨(hB t (by omega)).1.1, (hB t (by omega)).1.2.1⟩)
  rw [ez] at e2
  exact e2
