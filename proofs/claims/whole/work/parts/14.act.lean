/-! Acts of mending on a tooth. -/
theorem sw_up_comm {σ : sw_St} {c k c' k' : Nat} {v v' : Int32} (h : c ≠ c') : sw_up (sw_up σ c k v) c' k' v' = sw_up (sw_up σ c' k' v') c k v := by
  funext j
  by_cases h1 : j = c
  · subst h1
    rw [sw_up_ne h, sw_up_eq, sw_up_eq, sw_up_ne h]
  · by_cases h2 : j = c'
    · subst h2
      rw [sw_up_eq, sw_up_ne h1, sw_up_ne h1, sw_up_eq]
    · rw [sw_up_ne h2, sw_up_ne h1, sw_up_ne h1, sw_up_ne h2]
/-- may an act be done on such a tooth -/
def sw_may (a : Nat) (kd b h e : Int32) : Bool := match a with
  | 0 => !decide (8 ≤ e) && !decide (h ≤ 0)
  | 1 => !decide (kd ≤ 0) && !decide (b ≤ 0)
  | 2 => !decide (kd ≤ 0) && !decide (9 ≤ b)
  | _ => !decide (h ≤ 0)
/-- the class's saw c behind an act on tooth k -/
def sw_actx (σ : sw_St) (c a k : Nat) : sw_St := match a with
  | 0 => sw_up (sw_up σ (c + 3) (3 * k + 2) (σ (c + 3) (3 * k + 2) + 2)) (c + 3) (3 * k + 1) (σ (c + 3) (3 * k + 1) - 1)
  | 1 => sw_up σ (c + 3) (3 * k + 0) (σ (c + 3) (3 * k) - 1)
  | 2 => sw_up σ (c + 3) (3 * k + 0) (σ (c + 3) (3 * k) + 1)
  | _ => sw_up σ (c + 3) (3 * k + 1) 0
def sw_actm (σ : sw_St) (a k : Nat) : sw_St := match a with
  | 0 => sw_up (sw_up σ 42 k (σ 42 k + 2)) 41 k (σ 41 k - 1)
  | 1 => sw_up σ 40 k (σ 40 k - 1)
  | 2 => sw_up σ 40 k (σ 40 k + 1)
  | _ => sw_up σ 41 k 0
theorem sw_d9 : ∀ j : Nat, j ≤ 9 → ((9 < nI j + 2) ↔ (8 ≤ nI j)) ∧ ((0 ≤ nI j - 1) ↔ ¬ (nI j ≤ 0)) ∧ ((nI j + (-1) < 0) ↔ nI j ≤ 0) ∧ (nI j + (-1) ≤ 9) ∧ ¬ (nI j + 1 < 0) ∧ ((nI j + 1 ≤ 9) ↔ ¬ 9 ≤ nI j) ∧ ((nI j = 0) ↔ nI j ≤ 0) := by decide +kernel
theorem sw_mendBy {c N k a : Nat} {σ : sw_St} (hN : N ≤ 8) (hc : σ c 0 = nI N) (hk : k < N) (ha : a ≤ 3) (ht : sw_tok (σ (c + 1) k) (σ (c + 2) k) (σ (c + 3) (3 * k)) (σ (c + 3) (3 * k + 1)) (σ (c + 3) (3 * k + 2))) : fX6_mendBy c (nI k) (nI a) σ = if sw_may a (σ (c + 1) k) (σ (c + 3) (3 * k)) (σ (c + 3) (3 * k + 1)) (σ (c + 3) (3 * k + 2)) = true then some (1, sw_actx σ c a k) else some (0, σ) := by
  have s0 := fun (τ : sw_St) (h : τ c 0 = nI N) => sw_sizeOf (w := 0) hN h hk (by decide)
  have s1 := fun (τ : sw_St) (h : τ c 0 = nI N) => sw_sizeOf (w := 1) hN h hk (by decide)
  have s2 := fun (τ : sw_St) (h : τ c 0 = nI N) => sw_sizeOf (w := 2) hN h hk (by decide)
  have g0 := fun (τ : sw_St) (v : Int32) (h : τ c 0 = nI N) => sw_change (w := 0) (v := v) hN h hk (by decide)
  have g1 := fun (τ : sw_St) (v : Int32) (h : τ c 0 = nI N) => sw_change (w := 1) (v := v) hN h hk (by decide)
  have g2 := fun (τ : sw_St) (v : Int32) (h : τ c 0 = nI N) => sw_change (w := 2) (v := v) hN h hk (by decide)
  simp only [show nI 0 = 0 from rfl, Nat.add_zero] at s0 g0
  simp only [show nI 1 = 1 from rfl] at s1 g1
  simp only [show nI 2 = 2 from rfl] at s2 g2
  have hne : c ≠ c + 3 := by omega
  obtain ⟨hkd, ⟨jb, hjb, eb⟩, ⟨jh, hjh, eh⟩, ⟨je, hje, ee⟩⟩ := ht
  have hk3 : (σ (c + 1) k = 0 ∧ σ (c + 1) k ≤ 0) ∨ (¬ σ (c + 1) k = 0 ∧ ¬ σ (c + 1) k ≤ 0) := by
    rcases hkd with ⟨q, -⟩ | ⟨q | q, -⟩
    · rw [q]; left; decide
    · rw [q]; right; decide
    · rw [q]; right; decide
  rcases (show a = 0 ∨ a = 1 ∨ a = 2 ∨ a = 3 by omega) with rfl | rfl | rfl | rfl
  · have D1 := (sw_d9 je hje).1
    have D2 := (sw_d9 jh hjh).2.1
    rw [← ee] at D1
    rw [← eh] at D2
    by_cases c1 : 8 ≤ σ (c + 3) (3 * k + 2)
    · simp [fX6_mendBy, fX6_fileIt, show nI 0 = 0 from rfl, s2 σ hc, s1 σ hc, sw_bs, sw_le, D1.mpr c1, c1, sw_bl, sw_may]
    · by_cases c2 : σ (c + 3) (3 * k + 1) ≤ 0
      · have q1 : ¬ 9 < σ (c + 3) (3 * k + 2) + 2 := fun q => c1 (D1.mp q)
        have q2 : ¬ 0 ≤ σ (c + 3) (3 * k + 1) - 1 := fun q => D2.mp q c2
        simp only [fX6_mendBy, fX6_fileIt, show nI 0 = 0 from rfl, s2 σ hc, s1 σ hc, sw_bs, sw_le, q1, q2, if_true, if_false, sw_bl, sw_may, c1, c2]
        simp
      · have q1 : ¬ 9 < σ (c + 3) (3 * k + 2) + 2 := fun q => c1 (D1.mp q)
        have q2 : 0 ≤ σ (c + 3) (3 * k + 1) - 1 := D2.mpr c2
        have hc2 : ∀ v, (sw_up σ (c + 3) (3 * k + 2) v) c 0 = nI N := fun v => by rw [sw_up_ne hne]; exact hc
        simp only [fX6_mendBy, fX6_fileIt, show nI 0 = 0 from rfl, s2 σ hc, s1 σ hc, sw_bs, sw_le, q1, q2, if_true, if_false, sw_may, c1, c2, g2 σ _ hc, g1 _ _ (hc2 _)]
        simp [sw_bl, sw_actx]
  · have D1 := (sw_d9 jb hjb).2.2.1
    have D2 := (sw_d9 jb hjb).2.2.2.1
    rw [← eb] at D1 D2
    rcases hk3 with ⟨k1, k2⟩ | ⟨k1, k2⟩
    · simp [fX6_mendBy, fX6_bendBy, show nI 1 = 1 from rfl, s0 σ hc, sw_kindOf hN hc hk, sw_bs, sw_le, k1, sw_bl, sw_may]
    · by_cases c1 : σ (c + 3) (3 * k) ≤ 0
      · simp only [fX6_mendBy, fX6_bendBy, show nI 1 = 1 from rfl, s0 σ hc, sw_kindOf hN hc hk, sw_bs, sw_le, k1, if_false, D1.mpr c1, if_true, sw_bl, sw_may, k2, c1]
        simp
      · have q1 : ¬ σ (c + 3) (3 * k) + (-1) < 0 := fun q => c1 (D1.mp q)
        simp only [fX6_mendBy, fX6_bendBy, show nI 1 = 1 from rfl, s0 σ hc, sw_kindOf hN hc hk, sw_bs, sw_le, k1, if_false, q1, D2, if_true, sw_may, k2, c1, g0 σ _ hc]
        simp [sw_bl, sw_actx, Int32.sub_eq_add_neg]
  · have D1 := (sw_d9 jb hjb).2.2.2.2.1
    have D2 := (sw_d9 jb hjb).2.2.2.2.2.1
    rw [← eb] at D1 D2
    rcases hk3 with ⟨k1, k2⟩ | ⟨k1, k2⟩
    · simp [fX6_mendBy, fX6_bendBy, show nI 2 = 2 from rfl, s0 σ hc, sw_kindOf hN hc hk, sw_bs, sw_le, k1, sw_bl, sw_may]
    · by_cases c1 : 9 ≤ σ (c + 3) (3 * k)
      · have q1 : ¬ σ (c + 3) (3 * k) + 1 ≤ 9 := fun q => D2.mp q c1
        simp only [fX6_mendBy, fX6_bendBy, show nI 2 = 2 from rfl, s0 σ hc, sw_kindOf hN hc hk, sw_bs, sw_le, k1, if_false, D1, q1, if_true, sw_bl, sw_may, k2, c1]
        simp
      · have q1 : σ (c + 3) (3 * k) + 1 ≤ 9 := D2.mpr c1
        simp only [fX6_mendBy, fX6_bendBy, show nI 2 = 2 from rfl, s0 σ hc, sw_kindOf hN hc hk, sw_bs, sw_le, k1, if_false, D1, q1, if_true, sw_may, k2, c1, g0 σ _ hc]
        simp [sw_bl, sw_actx]
  · have D1 := (sw_d9 jh hjh).2.2.2.2.2.2
    rw [← eh] at D1
    by_cases c1 : σ (c + 3) (3 * k + 1) ≤ 0
    · simp only [fX6_mendBy, fX6_breakOff, show nI 3 = 3 from rfl, s1 σ hc, sw_bs, D1.mpr c1, if_true, sw_bl, sw_may, c1]
      simp
    · have q1 : ¬ σ (c + 3) (3 * k + 1) = 0 := fun q => c1 (D1.mp q)
      simp only [fX6_mendBy, fX6_breakOff, show nI 3 = 3 from rfl, s1 σ hc, sw_bs, q1, if_false, sw_may, c1, g1 σ _ hc]
      simp [sw_bl, sw_actx]
theorem sw_mayBe {k a : Nat} {σ : sw_St} (hk : k < 8) (ha : a ≤ 3) : fX10_mayBe (nI k) (nI a) σ = some (if sw_may a (σ 38 k) (σ 40 k) (σ 41 k) (σ 42 k) = true then 1 else 0, σ) := by
  have h8 : sw_ok (nI k) 8 = true := sw_ok_nI hk (by decide)
  have hcl : (nI k).toNatClampNeg = k := nI_clamp (by omega)
  rcases (show a = 0 ∨ a = 1 ∨ a = 2 ∨ a = 3 by omega) with rfl | rfl | rfl | rfl
  · by_cases c1 : 8 ≤ σ 42 k
    · simp [fX10_mayBe, h8, hcl, c1, sw_may, show nI 0 = 0 from rfl]
    · by_cases c2 : σ 41 k ≤ 0 <;> simp only [fX10_mayBe, h8, hcl, c1, c2, sw_may, show nI 0 = 0 from rfl, if_true, if_false] <;> simp
  · by_cases c1 : σ 38 k ≤ 0
    · simp [fX10_mayBe, h8, hcl, c1, sw_may, show nI 1 = 1 from rfl]
    · by_cases c2 : σ 40 k ≤ 0 <;> simp only [fX10_mayBe, h8, hcl, c1, c2, sw_may, show nI 1 = 1 from rfl, if_true, if_false] <;> simp
  · by_cases c1 : σ 38 k ≤ 0
    · simp [fX10_mayBe, h8, hcl, c1, sw_may, show nI 2 = 2 from rfl]
    · by_cases c2 : 9 ≤ σ 40 k <;> simp only [fX10_mayBe, h8, hcl, c1, c2, sw_may, show nI 2 = 2 from rfl, if_true, if_false] <;> simp
  · by_cases c2 : σ 41 k ≤ 0 <;> simp only [fX10_mayBe, h8, hcl, c2, sw_may, show nI 3 = 3 from rfl, if_true, if_false] <;> simp
theorem sw_doAct {k a : Nat} {σ : sw_St} (hk : k < 8) (ha : a ≤ 3) : fX10_doAct (nI k) (nI a) σ = some ((), sw_actm σ a k) := by
  have h8 : sw_ok (nI k) 8 = true := sw_ok_nI hk (by decide)
  have hcl : (nI k).toNatClampNeg = k := nI_clamp (by omega)
  rcases (show a = 0 ∨ a = 1 ∨ a = 2 ∨ a = 3 by omega) with rfl | rfl | rfl | rfl
  · simp [fX10_doAct, h8, hcl, sw_le, sw_actm, show nI 0 = 0 from rfl, sw_up_ne]
  · simp [fX10_doAct, h8, hcl, sw_le, sw_actm, show nI 1 = 1 from rfl]
  · simp [fX10_doAct, h8, hcl, sw_le, sw_actm, show nI 2 = 2 from rfl]
  · simp [fX10_doAct, h8, hcl, sw_le, sw_actm, show nI 3 = 3 from rfl]
