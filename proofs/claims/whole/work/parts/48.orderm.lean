/-! The class's cut of the order; what the reference says of an order. -/
theorem sw_lbX {e : Nat → Int} {k : Nat} {T lb : Nat → Nat} {τ : sw_St} (he : sw_e9 e) (hk : k ≤ 6) (hS : sw_SL e k τ) (h36 : ∀ j : Nat, j < 2 ^ k → τ 36 j = nI (T j) ∧ T j ≤ 63 * 63) (hT : sw_TB (sw_w e k) k T lb) {m : Nat} (hm : m < 2 ^ k - 1) : ∀ n c : Nat, c ≤ lb m → lb m - c < n → fX8_lowestBest_L2 n (nI m) (nI c) τ = some (nI (lb m), τ) := by
  have p := sw_p64 k (by omega)
  obtain ⟨⟨h1, h2, h3⟩, h4⟩ := hT.2 m hm
  intro n
  induction n with
  | zero => intro c _ h; omega
  | succ n ih =>
    intro c hc hn
    rw [fX8_lowestBest_L2, hS.1, if_neg (nI_ge (show c < k by omega) (by omega)), sw_isOpen (show m < 64 by omega) (by omega), sw_bs]
    by_cases b : m.testBit c = true
    · have z : c ≠ lb m := fun z => h2 (by rw [← z]; exact b)
      rw [if_pos b, if_pos rfl, fX8_lowestBest_B35, nI_1]
      exact ih (c + 1) (by omega) (by omega)
    · have o := sw_opC k (by omega) m (by omega) (by omega) c (by omega) b
      have t1 := h36 _ o.1
      have t2 := h36 m (by omega)
      have wb := sw_w_b (m := m) (c := c) he hk (by omega)
      rw [if_neg b, if_neg (by decide), sw_cth he hk (by omega) (by omega) hS, t1.1, nI_add, sw_bs, if_pos (sw_ok_nI (show m < 64 by omega) (by decide)), nI_clamp (show m < 2 ^ 31 by omega), t2.1]
      by_cases z : c = lb m
      · rw [if_pos (by rw [z, ← h3]), z]
      · have l := (h4 c (by omega) b).2 (by omega)
        rw [if_neg (fun y => by have := (nI_eq (by omega) (by omega)).mp y; omega), fX8_lowestBest_B35, nI_1]
        exact ih (c + 1) (by omega) (by omega)
theorem sw_coX {e : Nat → Int} {k : Nat} {T lb : Nat → Nat} {τ : sw_St} (he : sw_e9 e) (hk : k ≤ 6) (hS : sw_SL e k τ) (h36 : ∀ j : Nat, j < 2 ^ k → τ 36 j = nI (T j) ∧ T j ≤ 63 * 63) (hT : sw_TB (sw_w e k) k T lb) {U q : Nat} (hq : q < 6) : ∀ n t m : Nat, t ≤ k → t ≤ q → k - t < n → m < 2 ^ k → sw_op k m = k - t → U % 7 ^ (k - t) = sw_cd lb (k - t) m → fX8_cutOfOrder_L4 n (nI q) (nI m) (nI t) τ = some (if q < k then nI (U / 7 ^ (k - 1 - q) % 7) else -9, τ) := by
  have p := sw_p64 k (by omega)
  have hb := sw_fuel_big
  intro n
  induction n with
  | zero => intro t m _ _ h; omega
  | succ n ih =>
    intro t m ht htq hn hm ho hU
    rw [fX8_cutOfOrder_L4, hS.1]
    by_cases c : t = k
    · rw [if_pos (nI_le (by omega) (by omega)), if_neg (by omega)]
    · have lt : t < k := by omega
      obtain ⟨r, hr⟩ : ∃ r : Nat, k - t = r + 1 := ⟨k - t - 1, by omega⟩
      rw [hr] at ho hU
      have ml := sw_lt1 hk hm ho
      obtain ⟨⟨h1, h2, h3⟩, h4⟩ := hT.2 m ml
      obtain ⟨n1, n2⟩ := sw_nxm hk hm ho h1 h2
      have cl := sw_cd_lt hT hk r _ n1 n2
      have P0 : 0 < 7 ^ r := Nat.pos_of_ne_zero (fun z => by rw [z] at cl; omega)
      obtain ⟨d1, d2⟩ := sw_dig (U := U) P0 cl (lb := lb m) (by rw [← Nat.pow_succ]; exact hU)
      have X := sw_lbX he hk hS h36 hT ml sw_fuel 0 (Nat.zero_le _) (by omega)
      rw [nI_0] at X
      rw [if_neg (nI_ge lt (by omega)), fX8_lowestBest, X, sw_bs]
      by_cases z : t = q
      · rw [if_pos (by rw [z]), if_pos (show q < k by omega), show k - 1 - q = r by omega, d1]
      · rw [if_neg (fun y => z ((nI_eq (by omega) (by omega)).mp y)), sw_le, sw_orS m (by omega) (lb m) (by omega), nI_1]
        exact ih (t + 1) (m ||| 2 ^ lb m) (by omega) (by omega) (by omega) n1 (by rw [show k - (t + 1) = r by omega]; exact n2) (by rw [show k - (t + 1) = r by omega]; exact d2)
/-! The reference. -/
theorem sw_cutInL {q : Nat} {τ : sw_St} : ∀ n t v : Nat, q ≤ t → t - q < n → t < 2 ^ 31 → v < 2 ^ 31 → fX10_cutIn_L7 n (nI q) (nI v) (nI t) τ = some (nI (v / 7 ^ (t - q) % 7), τ) := by
  intro n
  induction n with
  | zero => intro t v _ h; omega
  | succ n ih =>
    intro t v hq hn ht hv
    rw [fX10_cutIn_L7]
    by_cases c : t = q
    · subst c
      rw [if_pos (nI_le (Nat.le_refl _) ht), show nI v - nI v / 7 * 7 = nI (v % 7) from pk_rem (d := 7) hv (by decide) (by decide), Nat.sub_self, Nat.pow_zero, Nat.div_one]
    · obtain ⟨s, rfl⟩ : ∃ s : Nat, t = s + 1 := ⟨t - 1, by omega⟩
      rw [if_neg (nI_ge (by omega) ht), sw_le, show nI v / 7 = nI (v / 7) from pk_div (d := 7) hv (by decide) (by decide), sw_dec, nI_pred, ih s (v / 7) (by omega) (by omega) (by omega) (by omega), Nat.div_div_eq_div_mul, show s + 1 - q = (s - q) + 1 by omega, Nat.pow_succ, Nat.mul_comm]
theorem sw_cutIn {k q v : Nat} (hk : k ≤ 6) (hq : q < k) (hv : v < 2 ^ 31) (τ : sw_St) : fX10_cutIn (nI v) (nI k) (nI q) τ = some (nI (v / 7 ^ (k - 1 - q) % 7), τ) := by
  have hb := sw_fuel_big
  obtain ⟨s, rfl⟩ : ∃ s : Nat, k = s + 1 := ⟨k - 1, by omega⟩
  rw [fX10_cutIn, nI_pred, sw_le, sw_cutInL sw_fuel s v (by omega) (by omega) (by omega) hv]
  rfl
theorem sw_sizeI {X : Int} (h : -1000 ≤ X ∧ X ≤ 1000) (τ : sw_St) : fX10_size (Int32.ofInt X) τ = some (nI X.natAbs, τ) := sw_absI h τ
theorem sw_m55 {e : Nat → Int} {k m c : Nat} {τ : sw_St} {K : Int32 → Int32 → Int32 → Int32 → Int32 → sw_St → Option (Int32 × sw_St)} {V1 V2 V4 V5 : Int32} (hm : m < 64) (hc : c < k) (hk : k ≤ 6) (h58 : ∀ s : Nat, s ≤ k → τ 58 s = Int32.ofInt (e s)) : ∀ (n j : Nat) (x : Int), j ≤ c → j < n → fX10_costOfOrder_L55 K n V1 V2 (nI m) V4 V5 (nI c) (Int32.ofInt x) (nI j - 1) τ = fX10_costOfOrder_B94 K V1 V2 (nI m) V4 V5 (nI c) (Int32.ofInt (x + sw_sl e m j)) τ := by
  intro n
  induction n with
  | zero => intro j x _ h; omega
  | succ n ih =>
    intro j x hj hn
    rw [fX10_costOfOrder_L55]
    cases j with
    | zero =>
      rw [if_pos (show nI 0 - 1 < 0 by decide), show sw_sl e m 0 = 0 from rfl, Int.add_zero]
    | succ j =>
      have h := sw_isO m hm j (by omega)
      rw [nI_pred, if_neg (nI_pos (by omega)), if_neg (fun y => by have := (nI_eq (by omega) (by omega)).mp y; omega), show sw_sl e m (j + 1) = if m.testBit j = true then 0 else e j + sw_sl e m j from rfl]
      by_cases b : m.testBit j = true
      · rw [if_pos b, if_neg (fun z => by rw [h.mp z] at b; exact absurd b (by decide)), Int.add_zero]
      · rw [if_neg b, if_pos (h.mpr (by simpa using b)), fX10_costOfOrder_B76, if_pos (sw_ok_nI (show j < 7 by omega) (by decide)), sw_le, nI_clamp (show j < 2 ^ 31 by omega), h58 j (by omega), ← Int32.ofInt_add, sw_dec, ih j (x + e j) (by omega) (by omega), Int.add_assoc]
theorem sw_m100 {e : Nat → Int} {k m c : Nat} {τ : sw_St} {K : Int32 → Int32 → Int32 → Int32 → Int32 → sw_St → Option (Int32 × sw_St)} {V1 V4 V5 : Int32} (hm : m < 64) (hc : c < k) (hk : k ≤ 6) (h58 : ∀ s : Nat, s ≤ k → τ 58 s = Int32.ofInt (e s)) : ∀ (n f t : Nat) (x : Int), t + f = k → c < t → f < n → fX10_costOfOrder_L100 K n V1 (nI (k + 1)) (nI m) V4 V5 (nI c) (Int32.ofInt x) (nI (t + 1)) τ = fX10_costOfOrder_B144 K V1 (nI (k + 1)) (nI m) V4 V5 (nI c) (Int32.ofInt (x - sw_sr e m f (t + 1))) τ := by
  intro n
  induction n with
  | zero => intro f t x _ _ h; omega
  | succ n ih =>
    intro f t x hf ht hn
    rw [fX10_costOfOrder_L100]
    cases f with
    | zero =>
      rw [if_pos (nI_le (by omega) (by omega)), show sw_sr e m 0 (t + 1) = 0 from rfl, Int.sub_zero]
    | succ f =>
      have h := sw_isO m hm t (by omega)
      rw [if_neg (nI_ge (by omega) (by omega)), nI_1 c, if_neg (fun y => by have := (nI_eq (by omega) (by omega)).mp y; omega), nI_pred, show sw_sr e m (f + 1) (t + 1) = if m.testBit t = true then 0 else e (t + 1) + sw_sr e m f (t + 1 + 1) from rfl]
      by_cases b : m.testBit t = true
      · rw [if_pos b, if_neg (fun z => by rw [h.mp z] at b; exact absurd b (by decide)), Int.sub_zero]
      · rw [if_neg b, if_pos (h.mpr (by simpa using b)), fX10_costOfOrder_B126, if_pos (sw_ok_nI (show t + 1 < 7 by omega) (by decide)), sw_le, nI_clamp (show t + 1 < 2 ^ 31 by omega), h58 (t + 1) (by omega), ← Int32.ofInt_sub, nI_1, ih f (t + 1) (x - e (t + 1)) (by omega) (by omega) (by omega), Int.sub_sub]
theorem sw_side {e : Nat → Int} {k m c : Nat} {τ : sw_St} {K : Int32 → Int32 → Int32 → Int32 → Int32 → sw_St → Option (Int32 × sw_St)} {V1 V4 V5 : Int32} (he : sw_e9 e) (hm : m < 64) (hc : c < k) (hk : k ≤ 6) (h58 : ∀ s : Nat, s ≤ k → τ 58 s = Int32.ofInt (e s)) : fX10_costOfOrder_L55 K sw_fuel V1 (nI (k + 1)) (nI m) V4 V5 (nI c) 0 (nI c) τ = K V1 (nI (k + 1)) (nI (m ||| 2 ^ c)) (V4 + nI (sw_w e k m c)) (V5 + 1) τ := by
  have hb := sw_fuel_big
  obtain ⟨M, hM⟩ : ∃ M : Nat, sw_fuel = M + 1 := ⟨sw_fuel - 1, by omega⟩
  have A := sw_m55 (K := K) (V1 := V1) (V2 := nI (k + 1)) (V4 := V4) (V5 := V5) hm hc hk h58 M c (0 + e c) (Nat.le_refl _) (by omega)
  have B := sw_m100 (K := K) (V1 := V1) (V4 := V4) (V5 := V5) hm hc hk h58 M (k - 1 - c) (c + 1) (0 + e c + sw_sl e m c - e (c + 1)) (by omega) (by omega) (by omega)
  have D : 0 + e c + sw_sl e m c - e (c + 1) - sw_sr e m (k - 1 - c) (c + 1 + 1) = sw_wi e k m c := by
    show _ = e c + sw_sl e m c - (e (c + 1) + sw_sr e m (k - 1 - c) (c + 1 + 1))
    omega
  have b := sw_wi_b (m := m) he hk hc
  rw [D] at B
  have F1 : fX10_costOfOrder_L55 K sw_fuel V1 (nI (k + 1)) (nI m) V4 V5 (nI c) 0 (nI c) τ = fX10_costOfOrder_L55 K M V1 (nI (k + 1)) (nI m) V4 V5 (nI c) (Int32.ofInt (0 + e c)) (nI c - 1) τ := by
    rw [hM, fX10_costOfOrder_L55, if_neg (nI_pos (by omega)), if_pos rfl, fX10_costOfOrder_B76, if_pos (sw_ok_nI (show c < 7 by omega) (by decide)), sw_le, nI_clamp (show c < 2 ^ 31 by omega), h58 c (by omega), show (0 : Int32) + Int32.ofInt (e c) = Int32.ofInt (0 + e c) from (Int32.ofInt_add 0 (e c)).symm, sw_dec]
  have F2 : ∀ x : Int, fX10_costOfOrder_B94 K V1 (nI (k + 1)) (nI m) V4 V5 (nI c) (Int32.ofInt x) τ = fX10_costOfOrder_L100 K M V1 (nI (k + 1)) (nI m) V4 V5 (nI c) (Int32.ofInt (x - e (c + 1))) (nI (c + 1 + 1)) τ := fun x => by
    rw [fX10_costOfOrder_B94, nI_1 c, sw_le, hM, fX10_costOfOrder_L100, if_neg (nI_ge (by omega) (by omega)), nI_1 c, if_pos rfl, fX10_costOfOrder_B126, if_pos (sw_ok_nI (show c + 1 < 7 by omega) (by decide)), sw_le, nI_clamp (show c + 1 < 2 ^ 31 by omega), h58 (c + 1) (by omega), ← Int32.ofInt_sub, nI_1]
  rw [F1, A, F2, B, fX10_costOfOrder_B144, sw_sizeI (by omega), sw_bs, sw_le, sw_le, sw_orS m hm c (by omega)]
  rfl
def sw_oI (a : Nat) (o : Option Nat) : Int32 := match o with
  | none => -9
  | some x => nI (a + x)
theorem sw_it_b {e : Nat → Int} {k : Nat} (he : sw_e9 e) (hk : k ≤ 6) : ∀ r m v x : Nat, sw_it (sw_w e k) k r m v = some x → x ≤ 63 * r := by
  intro r
  induction r with
  | zero => intro m v x h; injection h with h; omega
  | succ r ih =>
    intro m v x h
    unfold sw_it at h
    generalize v / 7 ^ r % 7 = c at h
    by_cases q : c < k ∧ ¬ m.testBit c = true
    · rw [if_pos q] at h
      cases hx : sw_it (sw_w e k) k r (m ||| 2 ^ c) v with
      | none => rw [hx] at h; exact absurd h (by simp)
      | some z =>
        rw [hx] at h
        injection h with h
        have h : sw_w e k m c + z = x := h
        have := ih _ v z hx
        have := sw_w_b (m := m) he hk q.1
        omega
    · rw [if_neg q] at h; exact absurd h (by simp)
theorem sw_m8 {e : Nat → Int} {k v : Nat} {τ : sw_St} (he : sw_e9 e) (hk : k ≤ 6) (hv : v < 2 ^ 31) (h58 : ∀ s : Nat, s ≤ k → τ 58 s = Int32.ofInt (e s)) : ∀ n r m a q : Nat, q + r = k → r < n → m < 64 → fX10_costOfOrder_L8 n (nI v) (nI (k + 1)) (nI m) (nI a) (nI q) τ = some (sw_oI a (sw_it (sw_w e k) k r m v), τ) := by
  intro n
  induction n with
  | zero => intro r m a q _ h; omega
  | succ n ih =>
    intro r m a q hq hn hm
    rw [fX10_costOfOrder_L8, nI_pred]
    cases r with
    | zero => rw [if_pos (nI_le (by omega) (by omega))]; rfl
    | succ r =>
      have k1 : nI (k + 1) - 2 = nI (k - 1) := by rw [show nI (k + 1) - 2 = nI (k + 1 - 2) from pk_sub (b := 2) (by omega), show k + 1 - 2 = k - 1 by omega]
      rw [if_neg (nI_ge (by omega) (by omega)), sw_cutIn hk (by omega) hv, sw_bs, show k - 1 - q = r by omega, k1]
      unfold sw_it
      have d7 : v / 7 ^ r % 7 < 7 := Nat.mod_lt _ (by decide)
      generalize v / 7 ^ r % 7 = c at d7
      by_cases c1 : c < k
      · rw [if_neg (nI_nlt (by omega) (by omega))]
        have tb := sw_tb32 m hm c (by omega)
        by_cases b : m.testBit c = true
        · rw [if_pos (tb.mpr b), if_neg (fun z => z.2 b)]; rfl
        · rw [if_neg (fun z => b (tb.mp z)), if_pos ⟨c1, b⟩, sw_side he hm c1 hk h58, nI_add, nI_1, ih r (m ||| 2 ^ c) (a + sw_w e k m c) (q + 1) (by omega) (by omega) (sw_orL m hm c (by omega))]
          cases sw_it (sw_w e k) k r (m ||| 2 ^ c) v with
          | none => rfl
          | some z =>
            show some (nI (a + sw_w e k m c + z), τ) = some (nI (a + (sw_w e k m c + z)), τ)
            rw [Nat.add_assoc]
      · rw [if_pos (nI_lt (by omega) (by omega)), if_neg (fun z => c1 z.1)]; rfl
theorem sw_cor {e : Nat → Int} {k v : Nat} {τ : sw_St} (he : sw_e9 e) (hk : k ≤ 6) (hv : v < 2 ^ 31) (h58 : ∀ s : Nat, s ≤ k → τ 58 s = Int32.ofInt (e s)) : fX10_costOfOrder (nI v) (nI (k + 1)) τ = some (sw_oI 0 (sw_it (sw_w e k) k k 0 v), τ) := by
  have hb := sw_fuel_big
  have := sw_m8 he hk hv h58 sw_fuel k 0 0 0 (Nat.zero_add _) (by omega) (by decide)
  rw [nI_0] at this
  rw [fX10_costOfOrder, this]
/-- the best order yet -/
def sw_b1 (a : Option (Nat × Nat)) : Int32 := match a with
  | none => -9
  | some b => nI b.1
def sw_b2 (a : Option (Nat × Nat)) : Int32 := match a with
  | none => -9
  | some b => nI b.2
theorem sw_p7 : ∀ k : Nat, k < 7 → 7 ^ k ≤ 117649 := by decide +kernel
theorem sw_fuel_b2 : 117650 < sw_fuel := by decide
theorem sw_m159 {e : Nat → Int} {k : Nat} {A5 : Int32} (he : sw_e9 e) (hk : k ≤ 6) : ∀ (n V : Nat) (a : Option (Nat × Nat)) (τ : sw_St), V ≤ 7 ^ k → 7 ^ k - V < n → (∀ s : Nat, s ≤ k → τ 58 s = Int32.ofInt (e s)) → τ 37 40 = sw_b2 a → sw_fm (sw_it (sw_w e k) k k 0) V a → ∃ (τ' : sw_St) (a' : Option (Nat × Nat)), fX10_log_L159 n (nI (k + 1)) A5 (nI (7 ^ k)) (sw_b1 a) (nI V) τ = (if 0 ≤ A5 then (if nI k ≤ A5 then fX10_log_B247 (-9) τ' else sw_bind (fX10_cutIn (sw_b2 a') (nI k) A5 τ') (fun r13 σ14 => fX10_log_B247 r13 σ14)) else fX10_log_B247 (sw_b1 a') τ') ∧ (∀ d : Nat, d ≠ 37 → τ' d = τ d) ∧ (∀ j : Nat, j ≠ 40 → τ' 37 j = τ 37 j) ∧ sw_fm (sw_it (sw_w e k) k k 0) (7 ^ k) a' := by
  have p := sw_p7 k (by omega)
  intro n
  induction n with
  | zero => intro V a τ _ h; omega
  | succ n ih =>
    intro V a τ hV hn h58 h40 hf
    rw [fX10_log_L159, nI_pred]
    by_cases c : V = 7 ^ k
    · rw [if_pos (nI_le (by omega) (by omega)), h40]
      exact ⟨τ, a, rfl, fun _ _ => rfl, fun _ _ => rfl, by rw [← c]; exact hf⟩
    · have nx := sw_fm_s hf
      have keep : sw_nx a V (sw_it (sw_w e k) k k 0 V) = a → ∃ (τ' : sw_St) (a' : Option (Nat × Nat)), fX10_log_B203 (fX10_log_L159 n) (nI (k + 1)) A5 (nI (7 ^ k)) (sw_b1 a) (nI V) τ = (if 0 ≤ A5 then (if nI k ≤ A5 then fX10_log_B247 (-9) τ' else sw_bind (fX10_cutIn (sw_b2 a') (nI k) A5 τ') (fun r13 σ14 => fX10_log_B247 r13 σ14)) else fX10_log_B247 (sw_b1 a') τ') ∧ (∀ d : Nat, d ≠ 37 → τ' d = τ d) ∧ (∀ j : Nat, j ≠ 40 → τ' 37 j = τ 37 j) ∧ sw_fm (sw_it (sw_w e k) k k 0) (7 ^ k) a' := fun h => by
        rw [fX10_log_B203, nI_1]
        exact ih (V + 1) a τ (by omega) (by omega) h58 h40 (by rw [h] at nx; exact nx)
      have take : ∀ x : Nat, sw_nx a V (sw_it (sw_w e k) k k 0 V) = some (x, V) → ∃ (τ' : sw_St) (a' : Option (Nat × Nat)), fX10_log_B193 (fX10_log_L159 n) (nI (k + 1)) A5 (nI (7 ^ k)) (nI V) (nI x) τ = (if 0 ≤ A5 then (if nI k ≤ A5 then fX10_log_B247 (-9) τ' else sw_bind (fX10_cutIn (sw_b2 a') (nI k) A5 τ') (fun r13 σ14 => fX10_log_B247 r13 σ14)) else fX10_log_B247 (sw_b1 a') τ') ∧ (∀ d : Nat, d ≠ 37 → τ' d = τ d) ∧ (∀ j : Nat, j ≠ 40 → τ' 37 j = τ 37 j) ∧ sw_fm (sw_it (sw_w e k) k k 0) (7 ^ k) a' := fun x h => by
        rw [fX10_log_B193, sw_le, fX10_log_B203, nI_1]
        obtain ⟨τ', a', g1, g2, g3, g4⟩ := ih (V + 1) (some (x, V)) (sw_up τ 37 40 (nI V)) (by omega) (by omega) (fun s hs => by rw [sw_up_ne (by decide)]; exact h58 s hs) (by rw [sw_up_eq, sw_ue]; rfl) (by rw [h] at nx; exact nx)
        exact ⟨τ', a', g1, fun d hd => by rw [g2 d hd, sw_up_ne hd], fun j hj => by rw [g3 j hj, sw_up_eq, sw_un hj], g4⟩
      rw [if_neg (nI_ge (by omega) (by omega)), sw_cor he hk (by omega) h58, sw_bs]
      cases hx : sw_it (sw_w e k) k k 0 V with
      | none =>
        rw [hx] at keep
        rw [if_pos (show sw_oI 0 none < 0 from (by decide : (-9 : Int32) < 0))]
        exact keep rfl
      | some x =>
        have xb := sw_it_b he hk k 0 V x hx
        rw [hx] at keep take
        rw [show sw_oI 0 (some x) = nI x from congrArg nI (Nat.zero_add x), if_neg (nI_pos (by omega))]
        cases a with
        | none =>
          rw [if_pos (show sw_b1 none < 0 from (by decide : (-9 : Int32) < 0))]
          exact take x rfl
        | some b =>
          have bb : b.1 ≤ 63 * k := by
            rcases hf with ⟨q, -⟩ | ⟨y, u, q, -, q2, -⟩
            · cases q
            · injection q with q
              rw [q]
              exact sw_it_b he hk k 0 u y q2
          have eq : sw_nx (some b) V (some x) = if x < b.1 then some (x, V) else some b := rfl
          rw [show sw_b1 (some b) = nI b.1 from rfl, if_neg (nI_pos (by omega))]
          by_cases l : x < b.1
          · rw [if_neg (nI_ge l (by omega))]
            exact take x (by rw [eq, if_pos l])
          · rw [if_pos (nI_le (by omega) (by omega))]
            exact keep (by rw [eq, if_neg l])
