/-! The class's table of the least costs. -/
theorem sw_isO : ∀ m : Nat, m < 64 → ∀ j : Nat, j < 7 → (((nI m >>> (nI j &&& 31)) &&& 1) = 0 ↔ m.testBit j = false) := by decide +kernel
theorem sw_isOpen {m j : Nat} (hm : m < 64) (hj : j < 7) (τ : sw_St) : fX8_isOpen (nI m) (nI j) τ = some (if m.testBit j = true then 0 else 1, τ) := by
  have h := sw_isO m hm j hj
  rw [fX8_isOpen]
  by_cases b : m.testBit j = true
  · rw [if_pos b, if_neg (fun z => by rw [h.mp z] at b; exact absurd b (by decide))]
  · rw [if_neg b, if_pos (h.mpr (by simpa using b))]
theorem sw_orS : ∀ m : Nat, m < 64 → ∀ c : Nat, c < 6 → nI m ||| (1 <<< (nI c &&& 31)) = nI (m ||| 2 ^ c) := by decide +kernel
theorem sw_orL : ∀ m : Nat, m < 64 → ∀ c : Nat, c < 6 → (m ||| 2 ^ c) < 64 := by decide +kernel
theorem sw_allB : ∀ k : Nat, k < 7 → ∀ m : Nat, m < 64 → m < 2 ^ k → (∀ c : Nat, c < k → m.testBit c = true) → m = 2 ^ k - 1 := by decide +kernel
theorem sw_dec (j : Nat) : nI j + (-1) = nI j - 1 := (Int32.sub_eq_add_neg _ _).symm
theorem sw_slX {e : Nat → Int} {k m : Nat} {τ : sw_St} (hk : k ≤ 6) (hm : m < 64) (h35 : ∀ s : Nat, s ≤ k → τ 35 s = Int32.ofInt (e s)) : ∀ (n j : Nat) (x : Int), j ≤ k → j < n → fX8_strainLeftOf_L12 n (nI m) (Int32.ofInt x) (nI j - 1) τ = some (Int32.ofInt (x + sw_sl e m j), τ) := by
  intro n
  induction n with
  | zero => intro j x _ h; omega
  | succ n ih =>
    intro j x hj hn
    rw [fX8_strainLeftOf_L12]
    cases j with
    | zero =>
      rw [if_pos (show nI 0 - 1 < 0 by decide), show sw_sl e m 0 = 0 from rfl, Int.add_zero]
    | succ j =>
      rw [nI_pred, if_neg (nI_pos (by omega)), sw_isOpen hm (by omega), sw_bs, show sw_sl e m (j + 1) = if m.testBit j = true then 0 else e j + sw_sl e m j from rfl]
      by_cases b : m.testBit j = true
      · rw [if_pos b, if_pos b, if_pos rfl, Int.add_zero]
      · rw [if_neg b, if_neg b, if_neg (by decide), if_pos (sw_ok_nI (by omega) (by decide)), sw_le, nI_clamp (by omega), h35 j (by omega), ← Int32.ofInt_add, sw_dec, ih j (x + e j) (by omega) (by omega), Int.add_assoc]
theorem sw_srX {e : Nat → Int} {k m : Nat} {τ : sw_St} (hk : k ≤ 6) (hm : m < 64) (h34 : τ 34 0 = nI k) (h35 : ∀ s : Nat, s ≤ k → τ 35 s = Int32.ofInt (e s)) : ∀ (n f t : Nat) (x : Int), t + f = k → f < n → fX8_strainRightOf_L14 n (nI m) (Int32.ofInt x) (nI (t + 1)) τ = some (Int32.ofInt (x + sw_sr e m f (t + 1)), τ) := by
  intro n
  induction n with
  | zero => intro f t x _ h; omega
  | succ n ih =>
    intro f t x hf hn
    rw [fX8_strainRightOf_L14, h34]
    cases f with
    | zero =>
      rw [if_pos (nI_lt (by omega) (by omega)), show sw_sr e m 0 (t + 1) = 0 from rfl, Int.add_zero]
    | succ f =>
      rw [if_neg (nI_nlt (by omega) (by omega)), nI_pred, sw_isOpen hm (by omega), sw_bs, show sw_sr e m (f + 1) (t + 1) = if m.testBit t = true then 0 else e (t + 1) + sw_sr e m f (t + 1 + 1) from rfl]
      by_cases b : m.testBit t = true
      · rw [if_pos b, if_pos b, if_pos rfl, Int.add_zero]
      · rw [if_neg b, if_neg b, if_neg (by decide), if_pos (sw_ok_nI (show t + 1 < 7 by omega) (by decide)), sw_le, nI_clamp (by omega), h35 (t + 1) (by omega), ← Int32.ofInt_add, nI_1, ih f (t + 1) (x + e (t + 1)) (by omega) (by omega), Int.add_assoc]
theorem sw_absI {X : Int} (h : -1000 ≤ X ∧ X ≤ 1000) (τ : sw_St) : fJ9_abs_0f7a4 (Int32.ofInt X) τ = some (nI X.natAbs, τ) := by
  have t : (Int32.ofInt X).toInt = X := Int32.toInt_ofInt_of_le (by omega) (by omega)
  rw [fJ9_abs_0f7a4]
  by_cases q : 0 ≤ X
  · have e : Int32.ofInt X = nI X.natAbs := Int32.toInt_inj.mp (by rw [t, nI_toInt (by omega)]; omega)
    rw [if_pos (by rw [Int32.le_iff_toInt_le, t]; exact q), e]
  · have e : Int32.ofInt (-X) = nI X.natAbs := Int32.toInt_inj.mp (by rw [Int32.toInt_ofInt_of_le (by omega) (by omega), nI_toInt (by omega)]; omega)
    rw [if_neg (fun z => q (by rw [Int32.le_iff_toInt_le, t] at z; exact z)), Int32.neg_ofInt, e]
/-- the slabs as the class holds them -/
def sw_SL (e : Nat → Int) (k : Nat) (τ : sw_St) : Prop := τ 34 0 = nI k ∧ ∀ s : Nat, s ≤ k → τ 35 s = Int32.ofInt (e s)
theorem sw_cth {e : Nat → Int} {k m c : Nat} {τ : sw_St} (he : sw_e9 e) (hk : k ≤ 6) (hm : m < 64) (hc : c < k) (hS : sw_SL e k τ) : fX8_costThrough (nI m) (nI c) τ = some (nI (sw_w e k m c) + τ 36 (m ||| 2 ^ c), τ) := by
  obtain ⟨h34, h35⟩ := hS
  have hb := sw_fuel_big
  have b := sw_wi_b (m := m) he hk hc
  have o := sw_orL m hm c (by omega)
  have R := sw_srX hk hm h34 h35 sw_fuel (k - 1 - c) (c + 1) (e (c + 1)) (by omega) (by omega)
  have L := sw_slX hk hm h35 sw_fuel c (e c) (by omega) (by omega)
  have D : Int32.ofInt (e c + sw_sl e m c) - Int32.ofInt (e (c + 1) + sw_sr e m (k - 1 - c) (c + 1 + 1)) = Int32.ofInt (sw_wi e k m c) := (Int32.ofInt_sub _ _).symm
  rw [fX8_costThrough, fX8_strainLeftOf, if_pos (sw_ok_nI (show c < 7 by omega) (by decide)), sw_le, sw_le, nI_clamp (show c < 2 ^ 31 by omega), h35 c (by omega), L, sw_bs, fX8_strainRightOf, nI_1 c, if_pos (sw_ok_nI (show c + 1 < 7 by omega) (by decide)), sw_le, sw_le, nI_clamp (show c + 1 < 2 ^ 31 by omega), h35 (c + 1) (by omega), show nI c + 2 = nI (c + 1 + 1) from nI_add c 2, R, sw_bs, D, sw_absI (by omega), sw_bs, sw_orS m hm c (by omega), if_pos (sw_ok_nI o (by decide)), nI_clamp (by omega)]
  rfl
theorem sw_op_le (k m : Nat) : sw_op k m ≤ k := by
  induction k with
  | zero => exact Nat.le_refl _
  | succ k ih =>
    rw [sw_op]
    split <;> omega
/-- a row of the table -/
def sw_PT (w : Nat → Nat → Nat) (k : Nat) (T : Nat → Nat) (m : Nat) : Prop := T m ≤ 63 * sw_op k m ∧ ((m = 2 ^ k - 1 ∧ T m = 0) ∨ (m < 2 ^ k - 1 ∧ (∃ c : Nat, c < k ∧ ¬ m.testBit c = true ∧ T m = w m c + T (m ||| 2 ^ c)) ∧ ∀ c : Nat, c < k → ¬ m.testBit c = true → T m ≤ w m c + T (m ||| 2 ^ c)))
theorem sw_PT_congr {w : Nat → Nat → Nat} {k m : Nat} {T T' : Nat → Nat} (h : sw_PT w k T m) (e : ∀ j : Nat, m ≤ j → T' j = T j) : sw_PT w k T' m := by
  have e0 := e m (Nat.le_refl _)
  have ec : ∀ c : Nat, T' (m ||| 2 ^ c) = T (m ||| 2 ^ c) := fun c => e _ Nat.left_le_or
  obtain ⟨h1, h2⟩ := h
  refine ⟨by rw [e0]; exact h1, ?_⟩
  rcases h2 with ⟨q1, q2⟩ | ⟨q1, ⟨c, c1, c2, c3⟩, q3⟩
  · exact Or.inl ⟨q1, by rw [e0]; exact q2⟩
  · exact Or.inr ⟨q1, ⟨c, c1, c2, by rw [e0, ec]; exact c3⟩, fun c a b => by rw [e0, ec]; exact q3 c a b⟩
/-- the row in the making -/
def sw_Iv (w : Nat → Nat → Nat) (T : Nat → Nat) (m c : Nat) (x : Int32) : Prop := (x = 1000 ∧ ∀ c' : Nat, c' < c → m.testBit c' = true) ∨ ∃ t : Nat, x = nI t ∧ (∃ c' : Nat, c' < c ∧ ¬ m.testBit c' = true ∧ t = w m c' + T (m ||| 2 ^ c')) ∧ ∀ c' : Nat, c' < c → ¬ m.testBit c' = true → t ≤ w m c' + T (m ||| 2 ^ c')
theorem sw_w34 {e : Nat → Int} {k m : Nat} {T : Nat → Nat} {K : Int32 → sw_St → Option (Unit × sw_St)} (he : sw_e9 e) (hk : k ≤ 6) (hm : m < 2 ^ k - 1) (hT : ∀ j : Nat, m < j → j < 2 ^ k → T j ≤ 63 * sw_op k j) : ∀ (n c : Nat) (τ : sw_St), c ≤ k → k - c < n → sw_SL e k τ → (∀ j : Nat, m < j → j < 2 ^ k → τ 36 j = nI (T j)) → sw_Iv (sw_w e k) T m c (τ 36 m) → ∃ τ' : sw_St, fX8_weighOrders_L35 K n (nI m) (nI c) τ = K (nI m - 1) τ' ∧ (∀ d : Nat, d ≠ 36 → τ' d = τ d) ∧ (∀ j : Nat, j ≠ m → τ' 36 j = τ 36 j) ∧ sw_Iv (sw_w e k) T m k (τ' 36 m) := by
  have p := sw_p64 k (by omega)
  intro n
  induction n with
  | zero => intro c τ _ h; omega
  | succ n ih =>
    intro c τ hc hn hS hV hI
    rw [fX8_weighOrders_L35, hS.1]
    by_cases q : c = k
    · subst q
      rw [if_pos (nI_le (Nat.le_refl _) (by omega)), sw_dec]
      exact ⟨τ, rfl, fun _ _ => rfl, fun _ _ => rfl, hI⟩
    · have lt : c < k := by omega
      rw [if_neg (nI_ge lt (by omega)), sw_isOpen (by omega) (by omega), sw_bs]
      by_cases b : m.testBit c = true
      · rw [if_pos b, if_pos rfl, fX8_weighOrders_B72, nI_1]
        refine ih (c + 1) τ (by omega) (by omega) hS hV ?_
        rcases hI with ⟨i1, i2⟩ | ⟨t, i1, ⟨c', j1, j2, j3⟩, i3⟩
        · refine Or.inl ⟨i1, fun c' h => ?_⟩
          by_cases z : c' = c
          · rw [z]; exact b
          · exact i2 c' (by omega)
        · refine Or.inr ⟨t, i1, ⟨c', by omega, j2, j3⟩, fun c' h h' => ?_⟩
          by_cases z : c' = c
          · rw [z] at h'; exact absurd b h'
          · exact i3 c' (by omega) h'
      · obtain ⟨o1, o2, o3⟩ := sw_opC k (by omega) m (by omega) (by omega) c lt b
        have ol := sw_op_le k m
        have wb := sw_w_b (m := m) he hk lt
        have tb := hT _ o3 o1
        rw [if_neg b, if_neg (by decide), if_pos (sw_ok_nI (show m < 64 by omega) (by decide)), sw_cth he hk (by omega) lt hS, hV _ o3 o1, nI_add, sw_bs, nI_clamp (show m < 2 ^ 31 by omega), fJ9_min_7cf53]
        generalize hy : sw_w e k m c + T (m ||| 2 ^ c) = y
        have yb : y < 1000 := by omega
        have go : ∀ x : Int32, sw_Iv (sw_w e k) T m (c + 1) x → ∃ τ' : sw_St, fX8_weighOrders_B72 K (fX8_weighOrders_L35 K n) (nI m) (nI c) (sw_up τ 36 m x) = K (nI m - 1) τ' ∧ (∀ d : Nat, d ≠ 36 → τ' d = τ d) ∧ (∀ j : Nat, j ≠ m → τ' 36 j = τ 36 j) ∧ sw_Iv (sw_w e k) T m k (τ' 36 m) := fun x hx => by
          rw [fX8_weighOrders_B72, nI_1]
          obtain ⟨τ', g1, g2, g3, g4⟩ := ih (c + 1) (sw_up τ 36 m x) (by omega) (by omega) ⟨by rw [sw_up_ne (by decide)]; exact hS.1, fun s hs => by rw [sw_up_ne (by decide)]; exact hS.2 s hs⟩ (fun j h1 h2 => by rw [sw_up_eq, sw_un (by omega)]; exact hV j h1 h2) (by rw [sw_up_eq, sw_ue]; exact hx)
          exact ⟨τ', g1, fun d hd => by rw [g2 d hd, sw_up_ne hd], fun j hj => by rw [g3 j hj, sw_up_eq, sw_un hj], g4⟩
        rcases hI with ⟨i1, i2⟩ | ⟨t, i1, ⟨c', j1, j2, j3⟩, i3⟩
        · rw [i1, if_pos (show nI y < 1000 from nI_lt (b := 1000) (by omega) (by decide)), sw_bs, if_pos (sw_ok_nI (show m < 64 by omega) (by decide)), sw_le]
          refine go (nI y) (Or.inr ⟨y, rfl, ⟨c, by omega, b, hy.symm⟩, fun c' h h' => ?_⟩)
          by_cases z : c' = c
          · rw [z]; omega
          · exact absurd (i2 c' (by omega)) h'
        · have tb' : t < 1000 := by
            have o := sw_opC k (by omega) m (by omega) (by omega) c' (by omega) j2
            have wb := sw_w_b (m := m) (c := c') he hk (by omega)
            have tb := hT _ o.2.2 o.1
            omega
          rw [i1]
          by_cases l : y < t
          · rw [if_pos (nI_lt l (by omega)), sw_bs, if_pos (sw_ok_nI (show m < 64 by omega) (by decide)), sw_le]
            refine go (nI y) (Or.inr ⟨y, rfl, ⟨c, by omega, b, hy.symm⟩, fun c' h h' => ?_⟩)
            by_cases z : c' = c
            · rw [z]; omega
            · have := i3 c' (by omega) h'; omega
          · rw [if_neg (nI_nlt (by omega) (by omega)), sw_bs, if_pos (sw_ok_nI (show m < 64 by omega) (by decide)), sw_le]
            refine go (nI t) (Or.inr ⟨t, rfl, ⟨c', by omega, j2, j3⟩, fun c' h h' => ?_⟩)
            by_cases z : c' = c
            · rw [z]; omega
            · exact i3 c' (by omega) h'
theorem sw_w20 {e : Nat → Int} {k : Nat} (he : sw_e9 e) (hk : k ≤ 6) : ∀ (n v : Nat) (τ : sw_St) (T : Nat → Nat), v ≤ 2 ^ k - 1 → v < n → sw_SL e k τ → (∀ j : Nat, v ≤ j → j < 2 ^ k → τ 36 j = nI (T j) ∧ sw_PT (sw_w e k) k T j) → ∃ (τ' : sw_St) (T' : Nat → Nat), fX8_weighOrders_L20 n (nI v - 1) τ = some ((), τ') ∧ (∀ d : Nat, d ≠ 36 → τ' d = τ d) ∧ ∀ j : Nat, j < 2 ^ k → τ' 36 j = nI (T' j) ∧ sw_PT (sw_w e k) k T' j := by
  have p := sw_p64 k (by omega)
  have hb := sw_fuel_big
  intro n
  induction n with
  | zero => intro v τ T _ h; omega
  | succ n ih =>
    intro v τ T hv hn hS hT
    rw [fX8_weighOrders_L20]
    cases v with
    | zero =>
      rw [if_pos (show nI 0 - 1 < 0 by decide)]
      exact ⟨τ, T, rfl, fun _ _ => rfl, fun j hj => hT j (Nat.zero_le _) hj⟩
    | succ m =>
      rw [nI_pred, if_neg (nI_pos (by omega)), if_pos (sw_ok_nI (show m < 64 by omega) (by decide)), sw_le, nI_clamp (show m < 2 ^ 31 by omega)]
      obtain ⟨τ1, g1, g2, g3, g4⟩ := sw_w34 (e := e) (k := k) (m := m) (T := T) (K := fX8_weighOrders_L20 n) he hk (by omega) (fun j h1 h2 => (hT j (by omega) h2).2.1) sw_fuel 0 (sw_up τ 36 m 1000) (Nat.zero_le _) (by omega) ⟨by rw [sw_up_ne (by decide)]; exact hS.1, fun s hs => by rw [sw_up_ne (by decide)]; exact hS.2 s hs⟩ (fun j h1 h2 => by rw [sw_up_eq, sw_un (by omega)]; exact (hT j (by omega) h2).1) (by rw [sw_up_eq, sw_ue]; exact Or.inl ⟨rfl, fun c' h => by omega⟩)
      rw [nI_0] at g1
      rw [g1]
      rcases g4 with ⟨i1, i2⟩ | ⟨t, i1, ⟨c', j1, j2, j3⟩, i3⟩
      · have := sw_allB k (by omega) m (by omega) (by omega) i2
        omega
      · have o := sw_opC k (by omega) m (by omega) (by omega) c' j1 j2
        have wb := sw_w_b (m := m) he hk j1
        have tb := (hT _ (by omega) o.1).2.1
        have ne : ∀ c : Nat, c < k → ¬ m.testBit c = true → (m ||| 2 ^ c) ≠ m := fun c h1 h2 => by
          have := sw_opC k (by omega) m (by omega) (by omega) c h1 h2
          omega
        obtain ⟨τ', T', r1, r2, r3⟩ := ih m τ1 (fun j => if j = m then t else T j) (by omega) (by omega) ⟨by rw [g2 34 (by decide), sw_up_ne (by decide)]; exact hS.1, fun s hs => by rw [g2 35 (by decide), sw_up_ne (by decide)]; exact hS.2 s hs⟩ (fun j h1 h2 => by
          by_cases z : j = m
          · subst z
            refine ⟨by rw [if_pos rfl]; exact i1, ?_, Or.inr ⟨by omega, ⟨c', j1, j2, ?_⟩, fun c a b => ?_⟩⟩
            · show (if j = j then t else T j) ≤ _
              rw [if_pos rfl]; omega
            · show (if j = j then t else T j) = sw_w e k j c' + (if (j ||| 2 ^ c') = j then t else T (j ||| 2 ^ c'))
              rw [if_pos rfl, if_neg (ne c' j1 j2)]; exact j3
            · show (if j = j then t else T j) ≤ sw_w e k j c + (if (j ||| 2 ^ c) = j then t else T (j ||| 2 ^ c))
              rw [if_pos rfl, if_neg (ne c a b)]; exact i3 c a b
          · refine ⟨by rw [if_neg z, g3 j z, sw_up_eq, sw_un z]; exact (hT j (by omega) h2).1, sw_PT_congr (hT j (by omega) h2).2 (fun i hi => ?_)⟩
            show (if i = m then t else T i) = T i
            rw [if_neg (by omega)])
        exact ⟨τ', T', r1, fun d hd => by rw [r2 d hd, g2 d hd, sw_up_ne hd], r3⟩
theorem sw_wgh {e : Nat → Int} {k : Nat} (he : sw_e9 e) (hk : k ≤ 6) {τ : sw_St} (hS : sw_SL e k τ) : ∃ (τ' : sw_St) (T : Nat → Nat), fX8_weighOrders τ = some ((), τ') ∧ (∀ d : Nat, d ≠ 36 → τ' d = τ d) ∧ ∀ j : Nat, j < 2 ^ k → τ' 36 j = nI (T j) ∧ sw_PT (sw_w e k) k T j := by
  have p := sw_p64 k (by omega)
  have hb := sw_fuel_big
  obtain ⟨q, hq⟩ : ∃ q : Nat, 2 ^ k = q + 1 := ⟨2 ^ k - 1, by omega⟩
  have x1 : (1 <<< (nI k &&& 31)) - 1 = nI q := by rw [sw_shl1 k (by omega), hq, nI_pred]
  obtain ⟨τ', T, r1, r2, r3⟩ := sw_w20 he hk sw_fuel q (sw_up τ 36 q 0) (fun _ => 0) (by omega) (by omega) ⟨by rw [sw_up_ne (by decide)]; exact hS.1, fun s hs => by rw [sw_up_ne (by decide)]; exact hS.2 s hs⟩ (fun j h1 h2 => by
    have z : j = q := by omega
    subst z
    exact ⟨by rw [sw_up_eq, sw_ue]; rfl, Nat.zero_le _, Or.inl ⟨by omega, rfl⟩⟩)
  refine ⟨τ', T, ?_, fun d hd => by rw [r2 d hd, sw_up_ne hd], r3⟩
  rw [fX8_weighOrders, hS.1, x1, sw_le, if_pos (sw_ok_nI (show q < 64 by omega) (by decide)), sw_le, sw_le, nI_clamp (by omega), r1]
/-- the lowest cut that leads to the least cost -/
theorem sw_lbE {w : Nat → Nat → Nat} {k : Nat} {T : Nat → Nat} (h : ∀ j : Nat, j < 2 ^ k → sw_PT w k T j) (hk : k ≤ 6) : ∃ lb : Nat → Nat, sw_TB w k T lb := by
  have p := sw_p64 k (by omega)
  have ex : ∀ m : Nat, ∃ c : Nat, m < 2 ^ k - 1 → (c < k ∧ ¬ m.testBit c = true ∧ T m = w m c + T (m ||| 2 ^ c)) ∧ ∀ j : Nat, j < c → ¬ (¬ m.testBit j = true ∧ T m = w m j + T (m ||| 2 ^ j)) := fun m => by
    by_cases hm : m < 2 ^ k - 1
    · rcases (h m (by omega)).2 with ⟨q, -⟩ | ⟨-, ⟨c, c1, c2, c3⟩, -⟩
      · omega
      · obtain ⟨c, d1, ⟨d2, d3⟩, d4⟩ := sw_least (p := fun c => ¬ m.testBit c = true ∧ T m = w m c + T (m ||| 2 ^ c)) k ⟨c, c1, c2, c3⟩
        exact ⟨c, fun _ => ⟨⟨d1, d2, d3⟩, d4⟩⟩
    · exact ⟨0, fun z => absurd z hm⟩
  obtain ⟨lb, hlb⟩ := Classical.axiomOfChoice ex
  refine ⟨lb, ?_, fun m hm => ⟨(hlb m hm).1, fun c c1 c2 => ?_⟩⟩
  · rcases (h (2 ^ k - 1) (by omega)).2 with ⟨-, q⟩ | ⟨q, -⟩
    · exact q
    · omega
  · rcases (h m (by omega)).2 with ⟨q, -⟩ | ⟨-, -, q⟩
    · omega
    · have q1 := q c c1 c2
      refine ⟨q1, fun l => ?_⟩
      have q2 := (hlb m hm).2 c l
      by_cases z : T m = w m c + T (m ||| 2 ^ c)
      · exact absurd ⟨c2, z⟩ q2
      · omega
