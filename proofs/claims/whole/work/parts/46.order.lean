/-! Orders of cuts: what an order costs, the first of the cheapest, the table of the least costs. -/
def sw_sl (e : Nat → Int) (m : Nat) : Nat → Int
  | 0 => 0
  | j + 1 => if m.testBit j = true then 0 else e j + sw_sl e m j
def sw_sr (e : Nat → Int) (m : Nat) : Nat → Nat → Int
  | 0, _ => 0
  | f + 1, s => if m.testBit (s - 1) = true then 0 else e s + sw_sr e m f (s + 1)
def sw_wi (e : Nat → Int) (k m c : Nat) : Int := e c + sw_sl e m c - (e (c + 1) + sw_sr e m (k - 1 - c) (c + 2))
def sw_w (e : Nat → Int) (k m c : Nat) : Nat := (sw_wi e k m c).natAbs
def sw_e9 (e : Nat → Int) : Prop := ∀ s : Nat, -9 ≤ e s ∧ e s ≤ 9
theorem sw_sl_b {e : Nat → Int} {m : Nat} (h : sw_e9 e) : ∀ j : Nat, -(9 * (j : Int)) ≤ sw_sl e m j ∧ sw_sl e m j ≤ 9 * (j : Int) := by
  intro j
  induction j with
  | zero => exact ⟨by show -(9 * ((0 : Nat) : Int)) ≤ 0; decide, by show (0 : Int) ≤ 9 * ((0 : Nat) : Int); decide⟩
  | succ j ih =>
    have := h j
    unfold sw_sl
    split <;> omega
theorem sw_sr_b {e : Nat → Int} {m : Nat} (h : sw_e9 e) : ∀ f s : Nat, -(9 * (f : Int)) ≤ sw_sr e m f s ∧ sw_sr e m f s ≤ 9 * (f : Int) := by
  intro f
  induction f with
  | zero => intro s; exact ⟨by show -(9 * ((0 : Nat) : Int)) ≤ 0; decide, by show (0 : Int) ≤ 9 * ((0 : Nat) : Int); decide⟩
  | succ f ih =>
    intro s
    have := h s
    have := ih (s + 1)
    unfold sw_sr
    split <;> omega
theorem sw_wi_b {e : Nat → Int} {k m c : Nat} (h : sw_e9 e) (hk : k ≤ 6) (hc : c < k) : -63 ≤ sw_wi e k m c ∧ sw_wi e k m c ≤ 63 := by
  have h1 := sw_sl_b (m := m) h c
  have h2 := sw_sr_b (m := m) h (k - 1 - c) (c + 2)
  have h3 := h c
  have h4 := h (c + 1)
  unfold sw_wi
  omega
theorem sw_w_b {e : Nat → Int} {k m c : Nat} (h : sw_e9 e) (hk : k ≤ 6) (hc : c < k) : sw_w e k m c ≤ 63 := by
  have := sw_wi_b (m := m) h hk hc
  unfold sw_w
  omega
/-- what the order v costs, of r cuts to go, when those of m are made -/
def sw_it (w : Nat → Nat → Nat) (k : Nat) : Nat → Nat → Nat → Option Nat
  | 0, _, _ => some 0
  | r + 1, m, v => if v / 7 ^ r % 7 < k ∧ ¬ m.testBit (v / 7 ^ r % 7) = true then (sw_it w k r (m ||| 2 ^ (v / 7 ^ r % 7)) v).map (fun x => w m (v / 7 ^ r % 7) + x) else none
def sw_fm (f : Nat → Option Nat) (V : Nat) (a : Option (Nat × Nat)) : Prop := (a = none ∧ ∀ v : Nat, v < V → f v = none) ∨ ∃ x u : Nat, a = some (x, u) ∧ u < V ∧ f u = some x ∧ ∀ v y : Nat, v < V → f v = some y → x ≤ y ∧ (v < u → x < y)
def sw_nx (a : Option (Nat × Nat)) (V : Nat) (o : Option Nat) : Option (Nat × Nat) := match o with
  | none => a
  | some x => match a with
    | none => some (x, V)
    | some b => if x < b.1 then some (x, V) else some b
theorem sw_fm_s {f : Nat → Option Nat} {V : Nat} {a : Option (Nat × Nat)} (h : sw_fm f V a) : sw_fm f (V + 1) (sw_nx a V (f V)) := by
  cases hf : f V with
  | none =>
    show sw_fm f (V + 1) a
    rcases h with ⟨e, h⟩ | ⟨x, u, e, hu, hx, h⟩
    · refine Or.inl ⟨e, fun v hv => ?_⟩
      by_cases q : v = V
      · rw [q]; exact hf
      · exact h v (by omega)
    · refine Or.inr ⟨x, u, e, by omega, hx, fun v y hv hy => ?_⟩
      by_cases q : v = V
      · rw [q, hf] at hy; exact absurd hy (by simp)
      · exact h v y (by omega) hy
  | some z =>
    rcases h with ⟨e, h⟩ | ⟨x, u, e, hu, hx, h⟩
    · rw [e]
      show sw_fm f (V + 1) (some (z, V))
      refine Or.inr ⟨z, V, rfl, by omega, hf, fun v y hv hy => ?_⟩
      by_cases q : v = V
      · rw [q, hf] at hy; injection hy with hy; omega
      · rw [h v (by omega)] at hy; exact absurd hy (by simp)
    · rw [e]
      show sw_fm f (V + 1) (if z < x then some (z, V) else some (x, u))
      by_cases l : z < x
      · rw [if_pos l]
        refine Or.inr ⟨z, V, rfl, by omega, hf, fun v y hv hy => ?_⟩
        by_cases q : v = V
        · rw [q, hf] at hy; injection hy with hy; omega
        · have := h v y (by omega) hy; omega
      · rw [if_neg l]
        refine Or.inr ⟨x, u, rfl, by omega, hx, fun v y hv hy => ?_⟩
        by_cases q : v = V
        · rw [q, hf] at hy; injection hy with hy; omega
        · exact h v y (by omega) hy
theorem sw_fm_u {f : Nat → Option Nat} {V : Nat} {a b : Option (Nat × Nat)} (h : sw_fm f V a) (h' : sw_fm f V b) : a = b := by
  rcases h with ⟨e, h⟩ | ⟨x, u, e, hu, hx, h⟩ <;> rcases h' with ⟨e', h'⟩ | ⟨x', u', e', hu', hx', h'⟩
  · rw [e, e']
  · rw [h u' hu'] at hx'; exact absurd hx' (by simp)
  · rw [h' u hu] at hx; exact absurd hx (by simp)
  · have q1 := h u' x' hu' hx'
    have q2 := h' u x hu hx
    have e1 : x = x' := by omega
    have e2 : u = u' := by omega
    rw [e, e', e1, e2]
/-- how many of the k cuts are to be made -/
def sw_op : Nat → Nat → Nat
  | 0, _ => 0
  | k + 1, m => (if m.testBit k = true then 0 else 1) + sw_op k m
theorem sw_opB : ∀ k : Nat, k < 7 → ∀ m : Nat, m < 64 → m < 2 ^ k → (sw_op k m = 0 ↔ m = 2 ^ k - 1) := by decide +kernel
def sw_opT (k m c : Nat) : Bool := decide (2 ^ k ≤ m) || (decide (k ≤ c) || (m.testBit c || (decide ((m ||| 2 ^ c) < 2 ^ k) && (decide (sw_op k (m ||| 2 ^ c) + 1 = sw_op k m) && decide (m < (m ||| 2 ^ c))))))
theorem sw_opD : ∀ k : Nat, k < 7 → ∀ m : Nat, m < 64 → ∀ c : Nat, c < 6 → sw_opT k m c = true := by decide +kernel
theorem sw_opC (k : Nat) (hk : k < 7) (m : Nat) (hm : m < 64) (h : m < 2 ^ k) (c : Nat) (hc : c < k) (hb : ¬ m.testBit c = true) : (m ||| 2 ^ c) < 2 ^ k ∧ sw_op k (m ||| 2 ^ c) + 1 = sw_op k m ∧ m < (m ||| 2 ^ c) := by
  have q := sw_opD k hk m hm c (by omega)
  unfold sw_opT at q
  simp only [Bool.or_eq_true, Bool.and_eq_true, decide_eq_true_eq] at q
  rcases q with q | q | q | q
  · omega
  · omega
  · exact absurd q hb
  · exact q
theorem sw_op0 : ∀ k : Nat, k < 7 → sw_op k 0 = k := by decide
theorem sw_p64 : ∀ k : Nat, k < 7 → 0 < 2 ^ k ∧ 2 ^ k ≤ 64 := by decide
/-- the table of the least costs, and the lowest cut that leads there -/
def sw_TB (w : Nat → Nat → Nat) (k : Nat) (T lb : Nat → Nat) : Prop := T (2 ^ k - 1) = 0 ∧ ∀ m : Nat, m < 2 ^ k - 1 → (lb m < k ∧ ¬ m.testBit (lb m) = true ∧ T m = w m (lb m) + T (m ||| 2 ^ lb m)) ∧ ∀ c : Nat, c < k → ¬ m.testBit c = true → T m ≤ w m c + T (m ||| 2 ^ c) ∧ (c < lb m → T m < w m c + T (m ||| 2 ^ c))
def sw_cd (lb : Nat → Nat) : Nat → Nat → Nat
  | 0, _ => 0
  | r + 1, m => lb m * 7 ^ r + sw_cd lb r (m ||| 2 ^ lb m)
theorem sw_lt1 {k m r : Nat} (hk : k ≤ 6) (hm : m < 2 ^ k) (ho : sw_op k m = r + 1) : m < 2 ^ k - 1 := by
  have p := sw_p64 k (by omega)
  have q := sw_opB k (by omega) m (by omega) hm
  by_cases e : m = 2 ^ k - 1
  · have := q.mpr e; omega
  · omega
theorem sw_nxm {k m r c : Nat} (hk : k ≤ 6) (hm : m < 2 ^ k) (ho : sw_op k m = r + 1) (hc : c < k) (hb : ¬ m.testBit c = true) : (m ||| 2 ^ c) < 2 ^ k ∧ sw_op k (m ||| 2 ^ c) = r := by
  have p := sw_p64 k (by omega)
  have q := sw_opC k (by omega) m (by omega) hm c hc hb
  exact ⟨q.1, by omega⟩
theorem sw_cd_lt {w : Nat → Nat → Nat} {k : Nat} {T lb : Nat → Nat} (hT : sw_TB w k T lb) (hk : k ≤ 6) : ∀ r m : Nat, m < 2 ^ k → sw_op k m = r → sw_cd lb r m < 7 ^ r := by
  intro r
  induction r with
  | zero => intro m _ _; exact Nat.one_pos
  | succ r ih =>
    intro m hm ho
    obtain ⟨⟨h1, h2, -⟩, -⟩ := hT.2 m (sw_lt1 hk hm ho)
    obtain ⟨n1, n2⟩ := sw_nxm hk hm ho h1 h2
    have := ih _ n1 n2
    unfold sw_cd
    have h6 : lb m * 7 ^ r ≤ 6 * 7 ^ r := Nat.mul_le_mul_right _ (by omega)
    rw [Nat.pow_succ]
    omega
theorem sw_low {w : Nat → Nat → Nat} {k : Nat} {T lb : Nat → Nat} (hT : sw_TB w k T lb) (hk : k ≤ 6) : ∀ r m : Nat, m < 2 ^ k → sw_op k m = r → ∀ v y : Nat, sw_it w k r m v = some y → T m ≤ y := by
  intro r
  induction r with
  | zero =>
    intro m hm ho v y _
    have p := sw_p64 k (by omega)
    rw [(sw_opB k (by omega) m (by omega) hm).mp ho, hT.1]
    exact Nat.zero_le _
  | succ r ih =>
    intro m hm ho v y hy
    obtain ⟨-, h2⟩ := hT.2 m (sw_lt1 hk hm ho)
    unfold sw_it at hy
    generalize v / 7 ^ r % 7 = c at hy
    by_cases q : c < k ∧ ¬ m.testBit c = true
    · rw [if_pos q] at hy
      obtain ⟨n1, n2⟩ := sw_nxm hk hm ho q.1 q.2
      cases hx : sw_it w k r (m ||| 2 ^ c) v with
      | none => rw [hx] at hy; exact absurd hy (by simp)
      | some x =>
        rw [hx] at hy
        injection hy with hy
        have hy : w m c + x = y := hy
        have := ih _ n1 n2 v x hx
        have := (h2 c q.1 q.2).1
        omega
    · rw [if_neg q] at hy; exact absurd hy (by simp)
theorem sw_hit {w : Nat → Nat → Nat} {k : Nat} {T lb : Nat → Nat} (hT : sw_TB w k T lb) (hk : k ≤ 6) : ∀ r m x : Nat, m < 2 ^ k → sw_op k m = r → sw_it w k r m (x * 7 ^ r + sw_cd lb r m) = some (T m) := by
  intro r
  induction r with
  | zero =>
    intro m x hm ho
    have p := sw_p64 k (by omega)
    rw [(sw_opB k (by omega) m (by omega) hm).mp ho, hT.1]
    rfl
  | succ r ih =>
    intro m x hm ho
    obtain ⟨⟨h1, h2, h3⟩, -⟩ := hT.2 m (sw_lt1 hk hm ho)
    obtain ⟨n1, n2⟩ := sw_nxm hk hm ho h1 h2
    have cl := sw_cd_lt hT hk r _ n1 n2
    have P0 : 0 < 7 ^ r := Nat.pos_of_ne_zero (fun z => by rw [z] at cl; omega)
    have e : x * 7 ^ (r + 1) + sw_cd lb (r + 1) m = (x * 7 + lb m) * 7 ^ r + sw_cd lb r (m ||| 2 ^ lb m) := by
      rw [show sw_cd lb (r + 1) m = lb m * 7 ^ r + sw_cd lb r (m ||| 2 ^ lb m) from rfl, Nat.pow_succ, Nat.add_mul, Nat.mul_comm (7 ^ r) 7, Nat.mul_assoc, Nat.add_assoc]
    have d : ((x * 7 + lb m) * 7 ^ r + sw_cd lb r (m ||| 2 ^ lb m)) / 7 ^ r % 7 = lb m := by
      rw [Nat.add_comm, Nat.add_mul_div_right _ _ P0, Nat.div_eq_of_lt cl]
      omega
    rw [e]
    unfold sw_it
    rw [d, if_pos ⟨h1, h2⟩, ih _ (x * 7 + lb m) n1 n2, h3]
    rfl
theorem sw_first {w : Nat → Nat → Nat} {k : Nat} {T lb : Nat → Nat} (hT : sw_TB w k T lb) (hk : k ≤ 6) : ∀ r m x v y : Nat, m < 2 ^ k → sw_op k m = r → x * 7 ^ r ≤ v → v < x * 7 ^ r + sw_cd lb r m → sw_it w k r m v = some y → T m < y := by
  intro r
  induction r with
  | zero =>
    intro m x v y _ _ h1 h2 _
    unfold sw_cd at h2
    omega
  | succ r ih =>
    intro m x v y hm ho l1 l2 hy
    obtain ⟨⟨h1, h2, h3⟩, h4⟩ := hT.2 m (sw_lt1 hk hm ho)
    obtain ⟨n1, n2⟩ := sw_nxm hk hm ho h1 h2
    have cl := sw_cd_lt hT hk r _ n1 n2
    have P0 : 0 < 7 ^ r := Nat.pos_of_ne_zero (fun z => by rw [z] at cl; omega)
    have e : x * 7 ^ (r + 1) + sw_cd lb (r + 1) m = (x * 7 + lb m) * 7 ^ r + sw_cd lb r (m ||| 2 ^ lb m) := by
      rw [show sw_cd lb (r + 1) m = lb m * 7 ^ r + sw_cd lb r (m ||| 2 ^ lb m) from rfl, Nat.pow_succ, Nat.add_mul, Nat.mul_comm (7 ^ r) 7, Nat.mul_assoc, Nat.add_assoc]
    have e' : x * 7 ^ (r + 1) = x * 7 * 7 ^ r := by rw [Nat.pow_succ, Nat.mul_comm (7 ^ r) 7, Nat.mul_assoc]
    rw [e] at l2
    rw [e'] at l1
    have lo : x * 7 ≤ v / 7 ^ r := (Nat.le_div_iff_mul_le P0).mpr l1
    have hi : v / 7 ^ r < x * 7 + lb m + 1 := (Nat.div_lt_iff_lt_mul P0).mpr (by rw [Nat.add_mul (x * 7 + lb m) 1]; omega)
    have ec : v / 7 ^ r % 7 = v / 7 ^ r - x * 7 := by omega
    unfold sw_it at hy
    rw [ec] at hy
    generalize hc : v / 7 ^ r - x * 7 = c at hy
    by_cases q : c < k ∧ ¬ m.testBit c = true
    · rw [if_pos q] at hy
      cases hx : sw_it w k r (m ||| 2 ^ c) v with
      | none => rw [hx] at hy; exact absurd hy (by simp)
      | some z =>
        rw [hx] at hy
        injection hy with hy
        have hy : w m c + z = y := hy
        by_cases z1 : c < lb m
        · obtain ⟨k1, k2⟩ := sw_nxm hk hm ho q.1 q.2
          have := sw_low hT hk r _ k1 k2 v z hx
          have := (h4 c q.1 q.2).2 z1
          omega
        · have z2 : c = lb m := by omega
          have z3 : v / 7 ^ r = x * 7 + lb m := by omega
          rw [z2] at hx hy
          have := ih _ (x * 7 + lb m) v z n1 n2 ((Nat.le_div_iff_mul_le P0).mp (by omega)) l2 hx
          omega
    · rw [if_neg q] at hy; exact absurd hy (by simp)
/-- the first of the cheapest orders -/
theorem sw_TB_fm {w : Nat → Nat → Nat} {k : Nat} {T lb : Nat → Nat} (hT : sw_TB w k T lb) (hk : k ≤ 6) : sw_fm (sw_it w k k 0) (7 ^ k) (some (T 0, sw_cd lb k 0)) := by
  have p := sw_p64 k (by omega)
  have o := sw_op0 k (by omega)
  refine Or.inr ⟨T 0, sw_cd lb k 0, rfl, sw_cd_lt hT hk k 0 p.1 o, ?_, fun v y hv hy => ⟨sw_low hT hk k 0 p.1 o v y hy, fun l => ?_⟩⟩
  · have := sw_hit hT hk k 0 0 p.1 o
    rw [Nat.zero_mul, Nat.zero_add] at this
    exact this
  · exact sw_first hT hk k 0 0 v y p.1 o (by rw [Nat.zero_mul]; exact Nat.zero_le _) (by rw [Nat.zero_mul, Nat.zero_add]; exact l) hy
/-- its digits -/
theorem sw_dig {U P lb c : Nat} (hP : 0 < P) (hc : c < P) (h : U % (P * 7) = lb * P + c) : U / P % 7 = lb ∧ U % P = c := by
  constructor
  · rw [← Nat.mod_mul_right_div_self, h, Nat.add_comm, Nat.add_mul_div_right _ _ hP, Nat.div_eq_of_lt hc, Nat.zero_add]
  · have : U % (P * 7) % P = U % P := Nat.mod_mul_right_mod U P 7
    rw [← this, h, Nat.add_comm, Nat.add_mul_mod_self_right, Nat.mod_eq_of_lt hc]
/-- there is a least one -/
theorem sw_least {p : Nat → Prop} : ∀ n : Nat, (∃ c : Nat, c < n ∧ p c) → ∃ c : Nat, c < n ∧ p c ∧ ∀ j : Nat, j < c → ¬ p j := by
  intro n
  induction n with
  | zero => rintro ⟨c, h, -⟩; omega
  | succ n ih =>
    rintro ⟨c, h, hp⟩
    by_cases q : ∃ c : Nat, c < n ∧ p c
    · obtain ⟨c, h1, h2, h3⟩ := ih q
      exact ⟨c, by omega, h2, h3⟩
    · have e : c = n := by
        by_cases z : c = n
        · exact z
        · exact absurd ⟨c, by omega, hp⟩ q
      exact ⟨c, h, hp, fun j hj pj => q ⟨j, by omega, pj⟩⟩
