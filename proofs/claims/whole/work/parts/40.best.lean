/-! The least mending: candidates (how many acts, the first, the second), the best of a set of them. -/
def sw_ca (a : Nat) : Nat := if a % 4 = 0 then 2 else if a % 4 = 3 then 4 else 1
def sw_cc (c : Nat × Nat × Nat) : Nat := if c.1 = 0 then 0 else if c.1 = 1 then sw_ca c.2.1 else sw_ca c.2.1 + sw_ca c.2.2
def sw_po (c : Nat × Nat × Nat) : Nat := c.1 * 1024 + c.2.1 * 32 + c.2.2
def sw_ky (c : Nat × Nat × Nat) : Nat := sw_cc c * 3072 + sw_po c
def sw_bd (c : Nat × Nat × Nat) : Prop := c.1 ≤ 2 ∧ c.2.1 < 32 ∧ c.2.2 < 32
theorem sw_ca_b (a : Nat) : 1 ≤ sw_ca a ∧ sw_ca a ≤ 4 := by unfold sw_ca; split <;> (try split) <;> omega
theorem sw_cc_b (c : Nat × Nat × Nat) : sw_cc c ≤ 8 := by
  have h1 := sw_ca_b c.2.1
  have h2 := sw_ca_b c.2.2
  unfold sw_cc; split <;> (try split) <;> omega
theorem sw_po_b {c : Nat × Nat × Nat} (h : sw_bd c) : sw_po c < 3072 := by
  obtain ⟨h1, h2, h3⟩ := h
  unfold sw_po; omega
def sw_best (g : Nat × Nat × Nat → Bool) (Q : Nat × Nat × Nat → Prop) (r : Option (Nat × Nat × Nat)) : Prop := (r = none ∧ ∀ c, Q c → ¬ g c = true) ∨ ∃ c, r = some c ∧ Q c ∧ sw_bd c ∧ g c = true ∧ ∀ d, Q d → g d = true → sw_ky c ≤ sw_ky d
theorem sw_best_ext {g : Nat × Nat × Nat → Bool} {Q Q' : Nat × Nat × Nat → Prop} {r : Option (Nat × Nat × Nat)} (h : sw_best g Q r) (h1 : ∀ c, Q c → Q' c) (h2 : ∀ c, Q' c → Q c ∨ ¬ g c = true) : sw_best g Q' r := by
  rcases h with ⟨e, h⟩ | ⟨c, e, hc, hb, hg, h⟩
  · refine Or.inl ⟨e, fun c hc => ?_⟩
    rcases h2 c hc with q | q
    · exact h c q
    · exact q
  · refine Or.inr ⟨c, e, h1 c hc, hb, hg, fun d hd gd => ?_⟩
    rcases h2 d hd with q | q
    · exact h d q gd
    · exact absurd gd q
def sw_chp (r : Option (Nat × Nat × Nat)) (x : Nat) : Bool := match r with
  | none => true
  | some c => decide (x < sw_cc c)
def sw_btr (r : Option (Nat × Nat × Nat)) (d : Nat × Nat × Nat) : Bool := match r with
  | none => true
  | some c => decide (sw_cc d < sw_cc c) || (decide (sw_cc d = sw_cc c) && decide (d.1 < c.1))
theorem sw_best_x {g : Nat × Nat × Nat → Bool} {Q Q' : Nat × Nat × Nat → Prop} {r : Option (Nat × Nat × Nat)} {d : Nat × Nat × Nat} (h : sw_best g Q r) (hQ : ∀ c, Q' c ↔ (Q c ∨ c = d)) (hd : sw_bd d) (hp : ∀ c, Q c → sw_po c < sw_po d) : sw_best g Q' (if g d = true ∧ sw_chp r (sw_cc d) = true then some d else r) := by
  have pd := sw_po_b hd
  by_cases gd : g d = true
  · rcases h with ⟨e, h⟩ | ⟨c, e, hc, hb, hg, h⟩
    · rw [if_pos ⟨gd, by rw [e]; rfl⟩]
      refine Or.inr ⟨d, rfl, (hQ d).mpr (Or.inr rfl), hd, gd, fun x hx gx => ?_⟩
      rcases (hQ x).mp hx with q | q
      · exact absurd gx (h x q)
      · rw [q]; exact Nat.le_refl _
    · have pc := sw_po_b hb
      have pp := hp c hc
      by_cases lt : sw_cc d < sw_cc c
      · have K : sw_ky d ≤ sw_ky c := by unfold sw_ky; omega
        rw [if_pos ⟨gd, by rw [e]; simp [sw_chp, lt]⟩]
        refine Or.inr ⟨d, rfl, (hQ d).mpr (Or.inr rfl), hd, gd, fun x hx gx => ?_⟩
        rcases (hQ x).mp hx with q | q
        · exact Nat.le_trans K (h x q gx)
        · rw [q]; exact Nat.le_refl _
      · rw [if_neg (fun z => lt (by have := z.2; rw [e] at this; simpa [sw_chp] using this))]
        refine Or.inr ⟨c, e, (hQ c).mpr (Or.inl hc), hb, hg, fun x hx gx => ?_⟩
        rcases (hQ x).mp hx with q | q
        · exact h x q gx
        · rw [q]; unfold sw_ky; omega
  · rw [if_neg (fun z => gd z.1)]
    refine sw_best_ext h (fun c hc => (hQ c).mpr (Or.inl hc)) (fun c hc => ?_)
    rcases (hQ c).mp hc with q | q
    · exact Or.inl q
    · rw [q]; exact Or.inr gd
theorem sw_best_m {g : Nat × Nat × Nat → Bool} {Q Q' : Nat × Nat × Nat → Prop} {r : Option (Nat × Nat × Nat)} {d : Nat × Nat × Nat} (h : sw_best g Q r) (hQ : ∀ c, Q' c ↔ (Q c ∨ c = d)) (hd : sw_bd d) (hp : ∀ c, Q c → c.1 = d.1 → sw_po c < sw_po d) : sw_best g Q' (if g d = true ∧ sw_btr r d = true then some d else r) := by
  have pd := sw_po_b hd
  by_cases gd : g d = true
  · rcases h with ⟨e, h⟩ | ⟨c, e, hc, hb, hg, h⟩
    · rw [if_pos ⟨gd, by rw [e]; rfl⟩]
      refine Or.inr ⟨d, rfl, (hQ d).mpr (Or.inr rfl), hd, gd, fun x hx gx => ?_⟩
      rcases (hQ x).mp hx with q | q
      · exact absurd gx (h x q)
      · rw [q]; exact Nat.le_refl _
    · have pc := sw_po_b hb
      obtain ⟨b1, b2, b3⟩ := id hb
      obtain ⟨d1, d2, d3⟩ := id hd
      by_cases lt : sw_cc d < sw_cc c ∨ (sw_cc d = sw_cc c ∧ d.1 < c.1)
      · have K : sw_ky d ≤ sw_ky c := by unfold sw_ky sw_po; omega
        rw [if_pos ⟨gd, by rw [e]; simpa [sw_btr] using lt⟩]
        refine Or.inr ⟨d, rfl, (hQ d).mpr (Or.inr rfl), hd, gd, fun x hx gx => ?_⟩
        rcases (hQ x).mp hx with q | q
        · exact Nat.le_trans K (h x q gx)
        · rw [q]; exact Nat.le_refl _
      · have K : sw_ky c ≤ sw_ky d := by
          by_cases l : c.1 = d.1
          · have := hp c hc l
            unfold sw_ky; omega
          · unfold sw_ky sw_po at *; omega
        rw [if_neg (fun z => lt (by have := z.2; rw [e] at this; simpa [sw_btr] using this))]
        refine Or.inr ⟨c, e, (hQ c).mpr (Or.inl hc), hb, hg, fun x hx gx => ?_⟩
        rcases (hQ x).mp hx with q | q
        · exact h x q gx
        · rw [q]; exact K
  · rw [if_neg (fun z => gd z.1)]
    refine sw_best_ext h (fun c hc => (hQ c).mpr (Or.inl hc)) (fun c hc => ?_)
    rcases (hQ c).mp hc with q | q
    · exact Or.inl q
    · rw [q]; exact Or.inr gd
theorem sw_ky_inj {c d : Nat × Nat × Nat} (hc : sw_bd c) (hd : sw_bd d) (h : sw_ky c = sw_ky d) : c = d := by
  have p1 := sw_po_b hc
  have p2 := sw_po_b hd
  have e : sw_po c = sw_po d := by unfold sw_ky at h; omega
  obtain ⟨c1, c2, c3⟩ := c
  obtain ⟨d1, d2, d3⟩ := d
  obtain ⟨b1, b2, b3⟩ := hc
  obtain ⟨f1, f2, f3⟩ := hd
  unfold sw_po at e
  simp only at *
  have e1 : c1 = d1 := by omega
  have e2 : c2 = d2 := by omega
  have e3 : c3 = d3 := by omega
  rw [e1, e2, e3]
theorem sw_best_eq {g : Nat × Nat × Nat → Bool} {Q Q' : Nat × Nat × Nat → Prop} {r r' : Option (Nat × Nat × Nat)} (h : sw_best g Q r) (h' : sw_best g Q' r') (hs : ∀ c, Q' c → Q c) (hH : ∀ c, Q c → g c = true → ∃ d, Q' d ∧ g d = true ∧ sw_ky d ≤ sw_ky c) : r = r' := by
  rcases h with ⟨e, h⟩ | ⟨c, e, hc, hb, hg, h⟩
  · rcases h' with ⟨e', h'⟩ | ⟨c', e', hc', hb', hg', h'⟩
    · rw [e, e']
    · exact absurd hg' (h c' (hs c' hc'))
  · obtain ⟨d, d1, d2, d3⟩ := hH c hc hg
    rcases h' with ⟨e', h'⟩ | ⟨c', e', hc', hb', hg', h'⟩
    · exact absurd d2 (h' d d1)
    · have k1 := h' d d1 d2
      have k2 := h c' (hs c' hc') hg'
      rw [e, e', sw_ky_inj hb hb' (by omega)]
/-! Acts on a saw as a function. -/
def sw_at5 (a : Nat) (t : Int32 × Int32 × Int32 × Int32 × Int32) : Int32 × Int32 × Int32 × Int32 × Int32 := match a with
  | 0 => (t.1, t.2.1, t.2.2.1, t.2.2.2.1 - 1, t.2.2.2.2 + 2)
  | 1 => (t.1, t.2.1, t.2.2.1 - 1, t.2.2.2.1, t.2.2.2.2)
  | 2 => (t.1, t.2.1, t.2.2.1 + 1, t.2.2.2.1, t.2.2.2.2)
  | _ => (t.1, t.2.1, t.2.2.1, 0, t.2.2.2.2)
def sw_ac (S : sw_Sw) (a : Nat) : sw_Sw := fun j => if j = a / 4 then sw_at5 (a % 4) (S (a / 4)) else S j
def sw_my (S : sw_Sw) (a : Nat) : Bool := sw_may (a % 4) (S (a / 4)).1 (S (a / 4)).2.2.1 (S (a / 4)).2.2.2.1 (S (a / 4)).2.2.2.2
theorem sw_ac_ne {S : sw_Sw} {a j : Nat} (h : j ≠ a / 4) : sw_ac S a j = S j := by unfold sw_ac; rw [if_neg h]
theorem sw_ac_eq {S : sw_Sw} {a : Nat} : sw_ac S a (a / 4) = sw_at5 (a % 4) (S (a / 4)) := by unfold sw_ac; rw [if_pos rfl]
theorem sw_my_ne {S : sw_Sw} {a b : Nat} (h : b / 4 ≠ a / 4) : sw_my (sw_ac S a) b = sw_my S b := by unfold sw_my; rw [sw_ac_ne h]
theorem sw_ac_comm {S : sw_Sw} {a b : Nat} (h : b / 4 ≠ a / 4) : sw_ac (sw_ac S a) b = sw_ac (sw_ac S b) a := by
  funext j
  by_cases h1 : j = a / 4
  · subst h1
    rw [sw_ac_ne (Ne.symm h), sw_ac_eq, sw_ac_eq, sw_ac_ne (Ne.symm h)]
  · by_cases h2 : j = b / 4
    · subst h2
      rw [sw_ac_eq, sw_ac_ne h, sw_ac_ne h, sw_ac_eq]
    · rw [sw_ac_ne h2, sw_ac_ne h1, sw_ac_ne h1, sw_ac_ne h2]
theorem sw_ac_congr {S S' : sw_Sw} {N a : Nat} (h : ∀ k : Nat, k < N → S k = S' k) : ∀ k : Nat, k < N → sw_ac S a k = sw_ac S' a k := by
  intro k hk
  by_cases e : k = a / 4
  · subst e; rw [sw_ac_eq, sw_ac_eq, h _ hk]
  · rw [sw_ac_ne e, sw_ac_ne e, h k hk]
theorem sw_my_congr {S S' : sw_Sw} {a : Nat} (h : S (a / 4) = S' (a / 4)) : sw_my S a = sw_my S' a := by unfold sw_my; rw [h]
theorem sw_ac_ok {S : sw_Sw} {N a : Nat} (hv : sw_okS S N) (hm : sw_my S a = true) : sw_okS (sw_ac S a) N := by
  intro k hk
  have t := hv k hk
  by_cases e : k = a / 4
  · subst e
    rw [sw_ac_eq]
    unfold sw_my at hm
    have a3 : a % 4 ≤ 3 := by omega
    generalize a % 4 = x at *
    generalize S (a / 4) = s at *
    obtain ⟨t1, t2, t3, t4⟩ := t
    rcases (show x = 0 ∨ x = 1 ∨ x = 2 ∨ x = 3 by omega) with rfl | rfl | rfl | rfl
    · simp only [sw_may, Bool.and_eq_true, Bool.not_eq_true', decide_eq_false_iff_not] at hm
      exact ⟨t1, t2, sw_dg_dn t3 hm.2, sw_dg_up2 t4 hm.1⟩
    · simp only [sw_may, Bool.and_eq_true, Bool.not_eq_true', decide_eq_false_iff_not] at hm
      exact ⟨t1, sw_dg_dn t2 hm.2, t3, t4⟩
    · simp only [sw_may, Bool.and_eq_true, Bool.not_eq_true', decide_eq_false_iff_not] at hm
      exact ⟨t1, sw_dg_up t2 hm.2, t3, t4⟩
    · exact ⟨t1, t2, sw_dg0, t4⟩
  · rw [sw_ac_ne e]; exact t
theorem sw_X6_act {τ : sw_St} {c a : Nat} : sw_X6 (sw_actx τ c (a % 4) (a / 4)) c = sw_ac (sw_X6 τ c) a := by
  have a3 : a % 4 ≤ 3 := by omega
  funext j
  unfold sw_ac
  generalize a % 4 = x at *
  generalize a / 4 = k at *
  rcases (show x = 0 ∨ x = 1 ∨ x = 2 ∨ x = 3 by omega) with rfl | rfl | rfl | rfl
  · show sw_X6 (sw_up (sw_up τ (c + 3) (3 * k + 2) (τ (c + 3) (3 * k + 2) + 2)) (c + 3) (3 * k + 1) (τ (c + 3) (3 * k + 1) - 1)) c j = _
    rw [sw_X6_up (by decide), sw_X6_up (by decide)]
    unfold sw_chg
    by_cases e : j = k
    · subst e; simp [sw_at5, sw_X6]
    · rw [if_neg e, if_neg e, if_neg e]
  · show sw_X6 (sw_up τ (c + 3) (3 * k + 0) (τ (c + 3) (3 * k) - 1)) c j = _
    rw [sw_X6_up (by decide)]
    unfold sw_chg
    by_cases e : j = k
    · subst e; simp [sw_at5, sw_X6]
    · rw [if_neg e, if_neg e]
  · show sw_X6 (sw_up τ (c + 3) (3 * k + 0) (τ (c + 3) (3 * k) + 1)) c j = _
    rw [sw_X6_up (by decide)]
    unfold sw_chg
    by_cases e : j = k
    · subst e; simp [sw_at5, sw_X6]
    · rw [if_neg e, if_neg e]
  · show sw_X6 (sw_up τ (c + 3) (3 * k + 1) 0) c j = _
    rw [sw_X6_up (by decide)]
    unfold sw_chg
    by_cases e : j = k
    · subst e; simp [sw_at5, sw_X6]
    · rw [if_neg e, if_neg e]
theorem sw_M6_act {τ : sw_St} {a : Nat} : sw_M6 (sw_actm τ (a % 4) (a / 4)) = sw_ac (sw_M6 τ) a := by
  have a3 : a % 4 ≤ 3 := by omega
  funext j
  unfold sw_ac
  generalize a % 4 = x at *
  generalize a / 4 = k at *
  rcases (show x = 0 ∨ x = 1 ∨ x = 2 ∨ x = 3 by omega) with rfl | rfl | rfl | rfl
  · show sw_M6 (sw_up (sw_up τ (40 + 2) k (τ 42 k + 2)) (40 + 1) k (τ 41 k - 1)) j = _
    rw [sw_M6_up (by decide), sw_M6_up (by decide)]
    unfold sw_chg
    by_cases e : j = k
    · subst e; simp [sw_at5, sw_M6]
    · rw [if_neg e, if_neg e, if_neg e]
  · show sw_M6 (sw_up τ (40 + 0) k (τ 40 k - 1)) j = _
    rw [sw_M6_up (by decide)]
    unfold sw_chg
    by_cases e : j = k
    · subst e; simp [sw_at5, sw_M6]
    · rw [if_neg e, if_neg e]
  · show sw_M6 (sw_up τ (40 + 0) k (τ 40 k + 1)) j = _
    rw [sw_M6_up (by decide)]
    unfold sw_chg
    by_cases e : j = k
    · subst e; simp [sw_at5, sw_M6]
    · rw [if_neg e, if_neg e]
  · show sw_M6 (sw_up τ (40 + 1) k 0) j = _
    rw [sw_M6_up (by decide)]
    unfold sw_chg
    by_cases e : j = k
    · subst e; simp [sw_at5, sw_M6]
    · rw [if_neg e, if_neg e]
