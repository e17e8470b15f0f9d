/-! The cut: stroke by stroke. -/
def sw_ab (x : Int32) : Int32 := if 0 ≤ x then x else -x
def sw_cp (h : Int32) : Int32 := if h ≤ 99 then (if -99 ≤ h then h else -99) else 99
def sw_fen (ra p h : Int32) : Int32 × Int32 := if ra ≤ 0 then (p, h) else if sw_ab p ≤ ra then (p, h) else if p ≤ 0 then (-ra, 0) else (ra, 0)
/-- what lies ahead of a stroke -/
def sw_at1 (f : Nat → Int32) (t : Nat) : Int32 := if t = 0 then 0 else f (t - 1)
def sw_hn (pu hd gr le st was h0 : Int32) : Int32 := sw_cp (h0 + (pu / (10 * hd) + gr + le - st * was / 8))
def sw_cu (pu : Int32) (hd gr : Nat → Int32) (le st : Int32) (la : Nat) (ra : Int32) : Nat → (Nat → Int32) × (Nat → Int32) × Int32
  | 0 => (fun _ => 0, fun _ => 0, 0)
  | t + 1 =>
    let z := sw_cu pu hd gr le st la ra t
    let h := sw_hn pu (hd t) (gr t) le st (if t ≤ la then 0 else z.1 (t - 1 - la)) (sw_at1 z.2.1 t)
    let q := sw_fen ra (sw_at1 z.1 t + h) h
    (upd z.1 t q.1, upd z.2.1 t q.2, sw_mx z.2.2 (sw_ab q.1))
def sw_ns (kf : Int32) (cl : Nat → Int32) : Nat → Nat
  | 0 => 0
  | n + 1 => if sw_ns kf cl n = n ∧ cl n ≤ kf then n + 1 else sw_ns kf cl n
theorem sw_ns_le (kf : Int32) (cl : Nat → Int32) : ∀ n : Nat, sw_ns kf cl n ≤ n := by
  intro n
  induction n with
  | zero => exact Nat.le_refl _
  | succ n ih =>
    rw [sw_ns]
    split <;> omega
theorem sw_ns_full {kf : Int32} {cl : Nat → Int32} : ∀ {n : Nat}, (∀ j : Nat, j < n → cl j ≤ kf) → sw_ns kf cl n = n := by
  intro n
  induction n with
  | zero => intro _; rfl
  | succ n ih =>
    intro h
    rw [sw_ns, if_pos ⟨ih (fun j hj => h j (by omega)), h n (by omega)⟩]
theorem sw_ns_stop {kf : Int32} {cl : Nat → Int32} {s : Nat} (h : ∀ j : Nat, j < s → cl j ≤ kf) (hs : ¬ cl s ≤ kf) : ∀ {n : Nat}, s < n → sw_ns kf cl n = s := by
  intro n
  induction n with
  | zero => intro h; omega
  | succ n ih =>
    intro hn
    rw [sw_ns]
    by_cases e : s = n
    · subst e
      rw [if_neg (fun q => hs q.2), sw_ns_full h]
    · have := ih (by omega)
      rw [if_neg (fun q => by omega), this]
theorem sw_tb : ∀ t : Nat, t < 25 → ∀ la : Nat, la < 6 → ((nI t - 1 - nI la < 0) ↔ t ≤ la) ∧ (la < t → nI t - 1 - nI la = nI (t - 1 - la)) := by decide +kernel
theorem sw_tb1 : ∀ t : Nat, t < 25 → ((nI t - 1 < 0) ↔ t = 0) ∧ (0 < t → nI t - 1 = nI (t - 1)) := by decide +kernel
theorem sw_h10 : ∀ j : Nat, 1 ≤ j → j ≤ 9 → ¬ (10 * nI j ≤ 0) ∧ ¬ (10 * nI j = 0) := by
  intro j h1 h2
  have : ∀ j : Nat, j ≤ 9 → 1 ≤ j → ¬ (10 * nI j ≤ 0) ∧ ¬ (10 * nI j = 0) := by decide +kernel
  exact this j h2 h1
theorem sw_abs (x : Int32) (σ : sw_St) : fJ9_abs_0f7a4 x σ = some (sw_ab x, σ) := by
  unfold fJ9_abs_0f7a4 sw_ab
  split <;> rfl
theorem sw_size (x : Int32) (σ : sw_St) : fX10_size x σ = some (sw_ab x, σ) := by
  unfold fX10_size sw_ab
  split <;> rfl
theorem sw_clampx (h : Int32) (σ : sw_St) {K : Int32 → sw_St → Option (Unit × sw_St)} : sw_bind (fJ9_min_7cf53 99 h σ) (fun r5 σ6 => sw_bind (fJ9_max_7cf53 (-99) r5 σ6) K) = K (sw_cp h) σ := by
  have e99 : (99 : Int32).toInt = 99 := rfl
  have em : (-99 : Int32).toInt = -99 := rfl
  unfold fJ9_min_7cf53 sw_cp
  by_cases c1 : h < 99
  · rw [if_pos c1, sw_bs, sw_max, sw_bs]
    have c2 : h ≤ 99 := Int32.le_of_lt c1
    rw [if_pos c2]
    unfold sw_mx
    by_cases c3 : -99 ≤ h
    · rw [if_pos c3]
      by_cases c4 : -99 < h
      · rw [if_pos c4]
      · have : h = -99 := by
          apply Int32.toInt_inj.mp
          rw [Int32.lt_iff_toInt_lt] at c4
          rw [Int32.le_iff_toInt_le] at c3
          omega
        rw [if_neg c4, this]
    · have c4 : ¬ -99 < h := fun q => c3 (Int32.le_of_lt q)
      rw [if_neg c3, if_neg c4]
  · rw [if_neg c1, sw_bs, sw_max, sw_bs]
    have e : sw_mx (-99) 99 = 99 := by decide
    rw [e]
    by_cases c2 : h ≤ 99
    · have : h = 99 := by
        apply Int32.toInt_inj.mp
        rw [Int32.lt_iff_toInt_lt] at c1
        rw [Int32.le_iff_toInt_le] at c2
        omega
      rw [this]
      rfl
    · rw [if_neg c2]
/-- the class's look back -/
theorem sw_pb {t la : Nat} {σ : sw_St} (ht : t ≤ 24) (hl : la ≤ 5) (hs : σ 23 0 = nI t) : fX1_placeBehind (nI t - 1 - nI la) σ = some (if t ≤ la then 0 else σ 24 (t - 1 - la), σ) := by
  obtain ⟨e1, e2⟩ := sw_tb t (by omega) la (by omega)
  unfold fX1_placeBehind
  by_cases h : t ≤ la
  · rw [if_pos (e1.mpr h), if_pos h]
  · rw [if_neg (fun q => h (e1.mp q)), if_neg h, e2 (by omega), hs, if_neg (nI_ge (show t - 1 - la < t by omega) (by omega)), if_neg (show ¬ 24 ≤ nI (t - 1 - la) from nI_ge (b := 24) (by omega) (by decide)), if_pos (sw_ok_nI (by omega) (by decide)), nI_clamp (by omega)]
theorem sw_pb1 {t : Nat} {σ : sw_St} (ht : t ≤ 24) (hs : σ 23 0 = nI t) : fX1_placeBehind (nI t - 1) σ = some (sw_at1 (σ 24) t, σ) := by
  obtain ⟨e1, e2⟩ := sw_tb1 t (by omega)
  unfold fX1_placeBehind sw_at1
  by_cases h : t = 0
  · rw [if_pos (e1.mpr h), if_pos h]
  · rw [if_neg (fun q => h (e1.mp q)), if_neg h, e2 (by omega), hs, if_neg (nI_ge (show t - 1 < t by omega) (by omega)), if_neg (show ¬ 24 ≤ nI (t - 1) from nI_ge (b := 24) (by omega) (by decide)), if_pos (sw_ok_nI (by omega) (by decide)), nI_clamp (by omega)]
theorem sw_hb1 {t : Nat} {σ : sw_St} (ht : t ≤ 24) (hs : σ 23 0 = nI t) : fX1_headingBehind (nI t - 1) σ = some (sw_at1 (σ 25) t, σ) := by
  obtain ⟨e1, e2⟩ := sw_tb1 t (by omega)
  unfold fX1_headingBehind sw_at1
  by_cases h : t = 0
  · rw [if_pos (e1.mpr h), if_pos h]
  · rw [if_neg (fun q => h (e1.mp q)), if_neg h, e2 (by omega), hs, if_neg (nI_ge (show t - 1 < t by omega) (by omega)), if_neg (show ¬ 24 ≤ nI (t - 1) from nI_ge (b := 24) (by omega) (by decide)), if_pos (sw_ok_nI (by omega) (by decide)), nI_clamp (by omega)]
/-- one stroke of the class -/
def sw_stx (σ : sw_St) (t : Nat) (p h : Int32) : sw_St := sw_up (sw_up (sw_up (sw_up σ 24 t p) 25 t h) 23 0 (nI t + 1)) 23 2 (sw_mx (σ 23 2) (sw_ab p))
theorem sw_st82 {t : Nat} {p h : Int32} {σ : sw_St} (ht : t < 24) : fX1_stroke_B82 (nI t) h p σ = some ((), sw_stx σ t p h) := by
  rw [fX1_stroke_B82, if_pos (sw_ok_nI ht (by decide)), sw_le, if_pos (sw_ok_nI ht (by decide)), sw_le, sw_le, sw_abs, sw_bs, sw_max, sw_bs, sw_le, nI_clamp (by omega)]
  have e : sw_up (sw_up (sw_up σ 24 t p) 25 t h) 23 0 (nI t + 1) 23 2 = σ 23 2 := by
    rw [sw_up_eq, sw_un (by decide), sw_up_ne (by decide), sw_up_ne (by decide)]
  rw [e]
  rfl
theorem sw_stroke {t : Nat} {tu ra : Int32} {σ : sw_St} (ht : t < 24) (hs : σ 23 0 = nI t) : fX1_stroke tu ra σ = some ((), sw_stx σ t (sw_fen ra (sw_at1 (σ 24) t + sw_cp (sw_at1 (σ 25) t + tu)) (sw_cp (sw_at1 (σ 25) t + tu))).1 (sw_fen ra (sw_at1 (σ 24) t + sw_cp (sw_at1 (σ 25) t + tu)) (sw_cp (sw_at1 (σ 25) t + tu))).2) := by
  rw [fX1_stroke, sw_le, hs, if_neg (nI_pos (by omega)), if_pos (show nI t < 24 from nI_lt (b := 24) ht (by decide)), sw_hb1 (by omega) hs, sw_bs, sw_le, sw_clampx, sw_pb1 (by omega) hs, sw_bs, sw_le]
  generalize sw_at1 (σ 24) t + sw_cp (sw_at1 (σ 25) t + tu) = p
  generalize sw_cp (sw_at1 (σ 25) t + tu) = h
  unfold sw_fen
  by_cases c1 : ra ≤ 0
  · rw [if_pos c1, if_pos c1, sw_st82 ht]
  · rw [if_neg c1, if_neg c1, sw_abs, sw_bs]
    by_cases c2 : sw_ab p ≤ ra
    · rw [if_pos c2, if_pos c2, sw_st82 ht]
    · rw [if_neg c2, if_neg c2]
      by_cases c3 : p ≤ 0
      · rw [if_pos c3, if_pos c3, fX1_stroke_B77, sw_st82 ht]
      · rw [if_neg c3, if_neg c3, fX1_stroke_B77, sw_st82 ht]
/-- the class's cut: what it leaves in its cells -/
def sw_Fr (σ τ : sw_St) : Prop := ∀ c : Nat, c ≠ 23 → c ≠ 24 → c ≠ 25 → τ c = σ c
def sw_CX (σ τ : sw_St) (z : (Nat → Int32) × (Nat → Int32) × Int32) (s : Nat) (pin : Int32) : Prop := sw_Fr σ τ ∧ τ 23 0 = nI s ∧ τ 23 1 = pin ∧ τ 23 2 = z.2.2 ∧ ∀ j : Nat, j < s → τ 24 j = z.1 j ∧ τ 25 j = z.2.1 j
theorem sw_goL {c c1 L la : Nat} {pu kf : Int32} {σ : sw_St} (hL : L ≤ 24) (hB : σ 17 0 = nI L) (hh : ∀ t : Nat, t < L → ∃ j : Nat, 1 ≤ j ∧ j ≤ 9 ∧ σ 18 t = nI j) (hla : la ≤ 5) (hl : σ c1 2 = nI la) (n1 : c1 ≠ 23) (n2 : c1 ≠ 24) (n3 : c1 ≠ 25) : ∀ (n t : Nat) (τ : sw_St), t ≤ L → L - t < n → (∀ j : Nat, j < t → σ 20 j ≤ kf) → sw_CX σ τ (sw_cu pu (σ 18) (σ 19) (σ c1 0) (σ c1 1) la (σ c1 3) t) t (-9) → ∃ τ' : sw_St, fX1_go_L31 c c1 n pu kf (nI t) τ = some ((), τ') ∧ sw_CX σ τ' (sw_cu pu (σ 18) (σ 19) (σ c1 0) (σ c1 1) la (σ c1 3) (sw_ns kf (σ 20) L)) (sw_ns kf (σ 20) L) (if sw_ns kf (σ 20) L < L then nI (sw_ns kf (σ 20) L) else -9) := by
  intro n
  induction n with
  | zero => intro t τ _ h; omega
  | succ n ih =>
    intro t τ ht hn hcl hI
    obtain ⟨hF, i0, i1, i2, i3⟩ := id hI
    have f17 := hF 17 (by decide) (by decide) (by decide)
    have f18 := hF 18 (by decide) (by decide) (by decide)
    have f19 := hF 19 (by decide) (by decide) (by decide)
    have f20 := hF 20 (by decide) (by decide) (by decide)
    have fc := hF c1 n1 n2 n3
    have hB' : τ 17 0 = nI L := by rw [f17]; exact hB
    unfold fX1_go_L31
    by_cases h : t = L
    · subst h
      refine ⟨τ, by rw [hB', if_pos (nI_le (Nat.le_refl _) (by omega))], ?_⟩
      rw [sw_ns_full hcl, if_neg (Nat.lt_irrefl _)]
      exact hI
    · have hlt : t < L := by omega
      have okN : sw_ok (nI t) L = true := sw_ok_nI hlt (by omega)
      have ok24 : sw_ok (nI t) 24 = true := sw_ok_nI (by omega) (by decide)
      have hcl' : (nI t).toNatClampNeg = t := nI_clamp (by omega)
      have e20 : fX0_closesOf (nI t) τ = some (τ 20 t, τ) := by rw [fX0_closesOf, sw_has0 hL hB', if_pos okN, sw_bs, if_neg (by decide), if_pos ok24, hcl']
      have e18 : fX0_hardOf (nI t) τ = some (τ 18 t, τ) := by rw [fX0_hardOf, sw_has0 hL hB', if_pos okN, sw_bs, if_neg (by decide), if_pos ok24, hcl']
      have e19 : fX0_grainOf (nI t) τ = some (τ 19 t, τ) := by rw [fX0_grainOf, sw_has0 hL hB', if_pos okN, sw_bs, if_neg (by decide), if_pos ok24, hcl']
      rw [hB', if_neg (nI_ge hlt (by omega)), if_neg (show ¬ 24 ≤ nI t from nI_ge (b := 24) (by omega) (by decide)), e20, sw_bs]
      by_cases c1' : σ 20 t ≤ kf
      · obtain ⟨j, hj1, hj2, ej⟩ := hh t hlt
        obtain ⟨z1, z2⟩ := sw_h10 j hj1 hj2
        rw [f20, if_pos c1', e18, sw_bs, sw_le, f18, ej, if_neg z1, if_neg z2, fX1_go_B90, fc, hl, sw_pb (by omega) hla i0, sw_bs, sw_le, e19, sw_bs, sw_le, fc, sw_stroke (by omega) i0, sw_bs, nI_1]
        have pr : ∀ {f g : Nat → Int32}, (∀ j : Nat, j < t → f j = g j) → sw_at1 f t = sw_at1 g t := by
          intro f g hfg
          unfold sw_at1
          split
          · rfl
          · exact hfg _ (by omega)
        have p24 : sw_at1 (τ 24) t = sw_at1 (sw_cu pu (σ 18) (σ 19) (σ c1 0) (σ c1 1) la (σ c1 3) t).1 t := pr (fun j hj => (i3 j hj).1)
        have p25 : sw_at1 (τ 25) t = sw_at1 (sw_cu pu (σ 18) (σ 19) (σ c1 0) (σ c1 1) la (σ c1 3) t).2.1 t := pr (fun j hj => (i3 j hj).2)
        have pw : (if t ≤ la then 0 else τ 24 (t - 1 - la)) = (if t ≤ la then 0 else (sw_cu pu (σ 18) (σ 19) (σ c1 0) (σ c1 1) la (σ c1 3) t).1 (t - 1 - la)) := by
          split
          · rfl
          · exact (i3 _ (by omega)).1
        refine ih (t + 1) _ (by omega) (by omega) (fun j' hj' => ?_) ?_
        · by_cases e : j' = t
          · rw [e]; exact c1'
          · exact hcl j' (by omega)
        · rw [p24, p25, pw, f19]
          have hh' : sw_cp (sw_at1 (sw_cu pu (σ 18) (σ 19) (σ c1 0) (σ c1 1) la (σ c1 3) t).2.1 t + (pu / (10 * nI j) + σ 19 t + σ c1 0 - σ c1 1 * (if t ≤ la then 0 else (sw_cu pu (σ 18) (σ 19) (σ c1 0) (σ c1 1) la (σ c1 3) t).1 (t - 1 - la)) / 8)) = sw_hn pu (σ 18 t) (σ 19 t) (σ c1 0) (σ c1 1) (if t ≤ la then 0 else (sw_cu pu (σ 18) (σ 19) (σ c1 0) (σ c1 1) la (σ c1 3) t).1 (t - 1 - la)) (sw_at1 (sw_cu pu (σ 18) (σ 19) (σ c1 0) (σ c1 1) la (σ c1 3) t).2.1 t) := by
            rw [sw_hn, ej]
          rw [hh', sw_cu]
          refine ⟨fun c' a1 a2 a3 => ?_, ?_, ?_, ?_, fun j' hj' => ?_⟩
          · unfold sw_stx
            rw [sw_up_ne a1, sw_up_ne a1, sw_up_ne a3, sw_up_ne a2]
            exact hF c' a1 a2 a3
          · unfold sw_stx
            rw [sw_up_eq, sw_un (by decide), sw_up_eq, sw_ue, nI_1]
          · unfold sw_stx
            rw [sw_up_eq, sw_un (by decide), sw_up_eq, sw_un (by decide), sw_up_ne (by decide), sw_up_ne (by decide)]
            exact i1
          · unfold sw_stx
            rw [sw_up_eq, sw_ue, i2]
          · unfold sw_stx
            rw [sw_up_ne (show 24 ≠ 23 by decide), sw_up_ne (show 24 ≠ 23 by decide), sw_up_ne (show 24 ≠ 25 by decide), sw_up_eq, sw_up_ne (show 25 ≠ 23 by decide), sw_up_ne (show 25 ≠ 23 by decide), sw_up_eq, sw_up_ne (show 25 ≠ 24 by decide)]
            by_cases e : j' = t
            · subst e
              rw [sw_ue, sw_ue]
              exact ⟨sw_ue.symm, sw_ue.symm⟩
            · rw [sw_un e, sw_un e]
              have := i3 j' (by omega)
              exact ⟨this.1.trans (sw_un e).symm, this.2.trans (sw_un e).symm⟩
      · refine ⟨sw_up τ 23 1 (nI t), ?_, ?_⟩
        · rw [f20, if_neg c1', sw_le]
        · rw [sw_ns_stop hcl c1' hlt, if_pos hlt]
          refine ⟨fun c' a1 a2 a3 => ?_, ?_, ?_, ?_, fun j' hj' => ?_⟩
          · rw [sw_up_ne a1]; exact hF c' a1 a2 a3
          · rw [sw_up_eq, sw_un (by decide)]; exact i0
          · rw [sw_up_eq, sw_ue]
          · rw [sw_up_eq, sw_un (by decide)]; exact i2
          · rw [sw_up_ne (by decide), sw_up_ne (by decide)]; exact i3 j' hj'
