/-! The relation between the class's cells and the reference's; what the small methods answer. -/
theorem sw_bs {β γ : Type} (r : β) (τ : sw_St) (K : β → sw_St → Option γ) : sw_bind (some (r, τ)) K = K r τ := rfl
theorem sw_le {β γ : Type} (v : β) (K : β → γ) : sw_let v K = K v := rfl
theorem sw_up_ne {σ : sw_St} {c k c' : Nat} {v : Int32} (h : c' ≠ c) : sw_up σ c k v c' = σ c' := by simp [sw_up, h]
theorem sw_up_eq {σ : sw_St} {c k : Nat} {v : Int32} : sw_up σ c k v c = upd (σ c) k v := by simp [sw_up]
theorem sw_ar_ne {σ : sw_St} {c c' : Nat} {f : Nat → Int32} (h : c' ≠ c) : sw_ar σ c f c' = σ c' := by simp [sw_ar, h]
theorem sw_ar_eq {σ : sw_St} {c : Nat} {f : Nat → Int32} : sw_ar σ c f c = f := by simp [sw_ar]
theorem sw_ue {f : Nat → Int32} {k : Nat} {v : Int32} : upd f k v k = v := by simp [upd]
theorem sw_un {f : Nat → Int32} {k j : Nat} {v : Int32} (h : j ≠ k) : upd f k v j = f j := by simp [upd, h]
/-- a digit; a tooth as it can be -/
def sw_dg (x : Int32) : Prop := ∃ j : Nat, j ≤ 9 ∧ x = nI j
def sw_tok (kd sd b h e : Int32) : Prop := ((kd = 0 ∧ sd = 0) ∨ ((kd = 1 ∨ kd = 2) ∧ (sd = -1 ∨ sd = 1))) ∧ sw_dg b ∧ sw_dg h ∧ sw_dg e
def sw_RT (n m : Int32) (kd sd sz kd' sd' b' h' e' : Nat → Int32) : Prop := m = n ∧ ∃ N : Nat, N ≤ 8 ∧ n = nI N ∧ ∀ k : Nat, k < N → (kd' k = kd k ∧ sd' k = sd k ∧ b' k = sz (3 * k) ∧ h' k = sz (3 * k + 1) ∧ e' k = sz (3 * k + 2)) ∧ sw_tok (kd k) (sd k) (sz (3 * k)) (sz (3 * k + 1)) (sz (3 * k + 2))
def sw_RB (n m : Int32) (hd gr cl hd' gr' cl' : Nat → Int32) : Prop := m = n ∧ ∃ N : Nat, N ≤ 24 ∧ n = nI N ∧ ∀ t : Nat, t < N → (hd' t = hd t ∧ gr' t = gr t ∧ cl' t = cl t) ∧ ∃ j : Nat, 1 ≤ j ∧ j ≤ 9 ∧ hd t = nI j
def sw_RH (l s t r l' s' t' r' : Int32) : Prop := (l' = l ∧ s' = s ∧ t' = t ∧ r' = r) ∧ ∃ j : Nat, j ≤ 5 ∧ t = nI j
def sw_RF (n m T : Int32) (to wh va to' wh' va' : Nat → Int32) : Prop := m = n ∧ ∃ N : Nat, N ≤ 6 ∧ n = nI N ∧ ∀ q : Nat, q < N → (to' q = to q ∧ wh' q = wh q ∧ va' q = va q) ∧ (∃ k M : Nat, k < M ∧ M ≤ 8 ∧ T = nI M ∧ to q = nI k) ∧ (∃ w : Nat, w ≤ 2 ∧ wh q = nI w) ∧ sw_dg (va q)
def sw_RR (n m B : Int32) (li pl li' pl' : Nat → Int32) : Prop := m = n ∧ ∃ N : Nat, N ≤ 8 ∧ n = nI N ∧ ∀ i : Nat, i < N → (li' i = li i ∧ pl' i = pl i) ∧ ∃ t M : Nat, t < M ∧ M ≤ 24 ∧ B = nI M ∧ li i = nI t
def sw_RS (la si ce sz' la' ce' : Nat → Int32) : Prop := ∀ k : Nat, k < 4 → (la k = -1 ∧ sz' k = -1) ∨ ∃ N : Nat, N ≤ 80 ∧ si k = nI N ∧ sz' k = nI N ∧ la' k = la k ∧ (la k = 0 ∨ la k = 1 ∨ la k = 2) ∧ ∀ i : Nat, i < N → ce' (80 * k + i) = ce (80 * k + i)
def sw_RZ (f t f' t' : Int32) : Prop := f' = f ∧ t' = t
def sw_Rel (σ : sw_St) : Prop := sw_RT (σ 5 0) (σ 37 1) (σ 6) (σ 7) (σ 8) (σ 38) (σ 39) (σ 40) (σ 41) (σ 42) ∧ sw_RB (σ 17 0) (σ 37 12) (σ 18) (σ 19) (σ 20) (σ 46) (σ 47) (σ 48) ∧ sw_RH (σ 21 0) (σ 21 1) (σ 21 2) (σ 21 3) (σ 37 16) (σ 37 17) (σ 37 18) (σ 37 19) ∧ sw_RF (σ 26 0) (σ 37 24) (σ 5 0) (σ 27) (σ 28) (σ 29) (σ 51) (σ 52) (σ 53) ∧ sw_RR (σ 30 0) (σ 37 28) (σ 17 0) (σ 31) (σ 32) (σ 54) (σ 55) ∧ sw_RS (σ 2) (σ 3) (σ 4) (σ 59) (σ 60) (σ 61) ∧ sw_RZ (σ 0 13) (σ 0 12) (σ 37 0) (σ 37 45)
/-- class and reference answer alike, and stay related -/
def sw_sim {α : Type} (f g : sw_St → Option (α × sw_St)) : Prop := ∀ σ : sw_St, sw_Rel σ → ∃ (r : α) (σ1 σ2 : sw_St), f σ = some (r, σ1) ∧ g σ1 = some (r, σ2) ∧ sw_Rel σ2
theorem sw_in_cmp (a l h : Int64) (σ : sw_St) : fX10_in a l h σ = some (if l ≤ a ∧ a ≤ h then 1 else 0, σ) := by
  unfold fX10_in
  have e1 : lg_cmp a l < 0 ↔ a < l := by
    unfold lg_cmp
    by_cases h1 : a > l
    · have : ¬ a < l := Int64.not_lt.mpr (Int64.le_of_lt h1)
      simp [h1, this]
    · by_cases h2 : a = l
      · subst h2; simp
      · have h3 : a < l := by
          rw [Int64.lt_iff_toInt_lt] at *
          have h4 : ¬ a.toInt = l.toInt := fun q => h2 (Int64.toInt_inj.mp q)
          simp only [gt_iff_lt, Int64.lt_iff_toInt_lt] at h1
          omega
        simp [h1, h2, h3]
  have e2 : 0 < lg_cmp a h ↔ h < a := by
    unfold lg_cmp
    by_cases h1 : a > h
    · simp [h1]
    · by_cases h2 : a = h
      · subst h2; simp
      · simp [h1, h2]
  by_cases c1 : a < l
  · have : ¬ (l ≤ a ∧ a ≤ h) := fun q => Int64.not_lt.mpr q.1 c1
    rw [if_pos (e1.mpr c1), if_neg this]
  · by_cases c2 : h < a
    · have : ¬ (l ≤ a ∧ a ≤ h) := fun q => Int64.not_lt.mpr q.2 c2
      rw [if_neg (fun q => c1 (e1.mp q)), if_pos (e2.mpr c2), if_neg this]
    · rw [if_neg (fun q => c1 (e1.mp q)), if_neg (fun q => c2 (e2.mp q)), if_pos ⟨Int64.not_lt.mp c1, Int64.not_lt.mp c2⟩]
theorem sw_in32 {a l h : Int32} {l' h' : Int64} (hl : l.toInt64 = l') (hh : h.toInt64 = h') (σ : sw_St) : fX10_in a.toInt64 l' h' σ = some (if l ≤ a ∧ a ≤ h then 1 else 0, σ) := by
  rw [sw_in_cmp, ← hl, ← hh]
  have e : (l.toInt64 ≤ a.toInt64 ∧ a.toInt64 ≤ h.toInt64) ↔ (l ≤ a ∧ a ≤ h) := by
    simp [Int64.le_iff_toInt_le, Int32.le_iff_toInt_le]
  by_cases c : l ≤ a ∧ a ≤ h
  · rw [if_pos c, if_pos (e.mpr c)]
  · rw [if_neg c, if_neg (fun q => c (e.mp q))]
theorem sw_within (a l h : Int32) (σ : sw_St) : fX9_isWithin a l h σ = some (if l ≤ a ∧ a ≤ h then 1 else 0, σ) := by
  unfold fX9_isWithin
  by_cases c1 : a < l
  · have : ¬ (l ≤ a ∧ a ≤ h) := fun q => Int32.not_lt.mpr q.1 c1
    rw [if_pos c1, if_neg this]
  · by_cases c2 : h < a
    · have : ¬ (l ≤ a ∧ a ≤ h) := fun q => Int32.not_lt.mpr q.2 c2
      rw [if_neg c1, if_pos c2, if_neg this]
    · rw [if_neg c1, if_neg c2, if_pos ⟨Int32.not_lt.mp c1, Int32.not_lt.mp c2⟩]
theorem sw_m1 : ∀ N : Nat, N < 25 → (nI N).toInt64 - 1 = (nI N - 1).toInt64 := by decide +kernel
theorem sw_ok_nI {j n : Nat} (h : j < n) (hn : n < 2 ^ 31) : sw_ok (nI j) n = true := by
  simp [sw_ok, nI_toInt (show j < 2 ^ 31 by omega), h]
/-- a number is a place below N, or not -/
theorem sw_okE {x : Int32} {N : Nat} (hN : N < 2 ^ 31) : sw_ok x N = true ↔ ∃ j : Nat, j < N ∧ x = nI j := by
  constructor
  · intro h
    exact vp_in_of (sw_ok_in h) hN
  · rintro ⟨j, hj, rfl⟩
    exact sw_ok_nI hj hN
theorem sw_ok_le {x : Int32} {N : Nat} (hN : N < 2 ^ 30) : sw_ok x N = true ↔ 0 ≤ x ∧ x ≤ nI N - 1 := by
  have hs : (nI N - 1).toInt = (N : Int) - 1 := by
    have := pk_sub_toInt (a := N) (b := 1) (by omega) (by decide)
    exact this
  rw [Int32.le_iff_toInt_le, Int32.le_iff_toInt_le, hs, Int32.toInt_zero]
  simp only [sw_ok, Bool.and_eq_true, decide_eq_true_eq]
  omega
