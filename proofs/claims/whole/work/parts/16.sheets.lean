/-! Sheets. -/
theorem sw_up_up {σ : sw_St} {c k : Nat} {v v' : Int32} : sw_up (sw_up σ c k v) c k v' = sw_up σ c k v' := by
  funext j
  by_cases h : j = c
  · subst h
    rw [sw_up_eq, sw_up_eq, sw_up_eq]
    funext i
    by_cases hi : i = k
    · subst hi; rw [sw_ue, sw_ue]
    · rw [sw_un hi, sw_un hi, sw_un hi]
  · rw [sw_up_ne h, sw_up_ne h, sw_up_ne h]
theorem sw_isSheet (x : Int32) (σ : sw_St) : fX7_isSheet x σ = some (if sw_ok x 4 = true then 1 else 0, σ) := by
  unfold fX7_isSheet
  by_cases h : sw_ok x 4 = true
  · rw [if_pos h]
    obtain ⟨j, hj, rfl⟩ := (sw_okE (by decide)).mp h
    rw [if_neg (nI_pos (by omega)), if_neg (show ¬ 4 ≤ nI j from nI_ge (b := 4) hj (by decide))]
  · rw [if_neg h]
    split
    · rfl
    · split
      · rfl
      · rename_i h1 h2
        exfalso
        apply h
        rcases pk_ix x (n := 4) (by decide) with q | q | q
        · exact absurd q h1
        · exact absurd q h2
        · exact (sw_okE (by decide)).mpr q
theorem sw_ok_03 (x : Int32) : (0 ≤ x ∧ x ≤ 3) ↔ sw_ok x 4 = true := by
  rw [sw_ok_le (by decide)]
  exact Iff.rfl
theorem sw_noSheet (x : Int32) (σ : sw_St) : fX10_noSheet x σ = some (if sw_ok x 4 = true then 0 else 1, σ) := by
  unfold fX10_noSheet
  rw [sw_in32 (l := 0) (h := 3) (l' := 0) (h' := 3) rfl rfl, sw_bs]
  by_cases h : sw_ok x 4 = true
  · simp [h, (sw_ok_03 x).mpr h]
  · have : ¬ (0 ≤ x ∧ x ≤ 3) := fun q => h ((sw_ok_03 x).mp q)
    simp [h, this]
theorem sw_isLane (x : Int32) (σ : sw_St) : fX7_isLane x σ = some (if 0 ≤ x ∧ x ≤ 2 then 1 else 0, σ) := sw_within x 0 2 σ
theorem sw_k4 {k : Nat} (hk : k < 4) : sw_ok (nI k) 4 = true := sw_ok_nI hk (by decide)
theorem sw_isNothing {k : Nat} {σ : sw_St} (hk : k < 4) : fX7_isNothing (nI k) σ = some (if σ 2 k = -1 then 1 else 0, σ) := by
  simp only [fX7_isNothing, sw_isSheet, sw_bs, sw_k4 hk, if_true, nI_clamp (show k < 2 ^ 31 by omega)]
  by_cases h : σ 2 k = -1 <;> simp [h]
theorem sw_hasCell {k N : Nat} {x : Int32} {σ : sw_St} (hk : k < 4) (hN : N ≤ 80) (h1 : ¬ σ 2 k = -1) (h2 : σ 3 k = nI N) : fX7_hasCell (nI k) x σ = some (if sw_ok x N = true then 1 else 0, σ) := by
  simp only [fX7_hasCell, sw_isNothing hk, h1, if_false, sw_bs, sw_k4 hk, if_true, nI_clamp (show k < 2 ^ 31 by omega), h2]
  by_cases h : sw_ok x N = true
  · obtain ⟨j, hj, rfl⟩ := (sw_okE (by omega)).mp h
    rw [if_neg (nI_pos (by omega)), if_neg (nI_ge hj (by omega)), if_pos h]
  · rw [if_neg h]
    split
    · rfl
    · split
      · rfl
      · rename_i q1 q2
        exfalso
        apply h
        rcases pk_ix x (n := N) (by omega) with q | q | q
        · exact absurd q q1
        · exact absurd q q2
        · exact (sw_okE (by omega)).mpr q
theorem sw_ix80 (k i : Nat) : nI k * 80 + nI i = nI (80 * k + i) := by
  show nI k * nI 80 + nI i = _
  rw [pk_mul, nI_add, Nat.mul_comm]
theorem sw_ix08 (k i : Nat) : 80 * nI k + nI i = nI (80 * k + i) := by
  show nI 80 * nI k + nI i = _
  rw [pk_mul, nI_add]
theorem sw_at {k N i : Nat} {σ : sw_St} (hk : k < 4) (hN : N ≤ 80) (h1 : ¬ σ 2 k = -1) (h2 : σ 3 k = nI N) (hi : i < N) : fX7_at (nI k) (nI i) σ = some (σ 4 (80 * k + i), σ) := by
  simp [fX7_at, sw_hasCell hk hN h1 h2, sw_bs, sw_ok_nI hi (show N < 2 ^ 31 by omega), sw_ix80, sw_ok_nI (show 80 * k + i < 320 by omega) (by decide), nI_clamp (show 80 * k + i < 2 ^ 31 by omega)]
theorem sw_m1b : ∀ N : Nat, N < 81 → (nI N).toInt64 - 1 = (nI N - 1).toInt64 := by decide +kernel
theorem sw_inNb {N : Nat} {x : Int32} {σ : sw_St} (hN : N ≤ 80) : fX10_in x.toInt64 0 ((nI N).toInt64 - 1) σ = some (if sw_ok x N = true then 1 else 0, σ) := by
  rw [sw_m1b N (by omega), sw_in32 (l := 0) (h := nI N - 1) (l' := 0) rfl rfl]
  have e := sw_ok_le (N := N) (x := x) (by omega)
  by_cases h : sw_ok x N = true
  · rw [if_pos h, if_pos (e.mp h)]
  · rw [if_neg h, if_neg (fun q => h (e.mpr q))]
theorem sw_noCell {k N : Nat} {x : Int32} {σ : sw_St} (hk : k < 4) (hN : N ≤ 80) (h2 : σ 59 k = nI N) : fX10_noCell (nI k) x σ = some (if sw_ok x N = true then 0 else 3, σ) := by
  simp only [fX10_noCell, sw_k4 hk, if_true, nI_clamp (show k < 2 ^ 31 by omega), h2, if_pos (nI_pos' (show N < 2 ^ 31 by omega)), sw_inNb hN, sw_bs]
  by_cases h : sw_ok x N = true <;> simp [h]
theorem sw_noCell0 {k : Nat} {x : Int32} {σ : sw_St} (hk : k < 4) (h2 : σ 59 k = -1) : fX10_noCell (nI k) x σ = some (1, σ) := by
  simp [fX10_noCell, sw_k4 hk, nI_clamp (show k < 2 ^ 31 by omega), h2]
/-- cells from x on, y of them, lie within N -/
def sw_cs (N : Nat) (x y : Int32) : Bool := decide (0 ≤ x.toInt) && decide (0 ≤ y.toInt) && decide (x.toInt + y.toInt ≤ N)
theorem sw_hasCells {k N : Nat} {x y : Int32} {σ : sw_St} (hk : k < 4) (hN : N ≤ 80) (h1 : ¬ σ 2 k = -1) (h2 : σ 3 k = nI N) : fX7_hasCells (nI k) x y σ = some (if sw_cs N x y = true then 1 else 0, σ) := by
  have hNi : (nI N).toInt = (N : Int) := nI_toInt (by omega)
  simp only [fX7_hasCells, sw_isNothing hk, h1, if_false, sw_bs, sw_k4 hk, if_true, nI_clamp (show k < 2 ^ 31 by omega), h2]
  simp only [Int32.lt_iff_toInt_lt, Int32.toInt_zero, hNi, sw_cs, Bool.and_eq_true, decide_eq_true_eq]
  by_cases c1 : x.toInt < 0
  · have : ¬ ((0 ≤ x.toInt ∧ 0 ≤ y.toInt) ∧ x.toInt + y.toInt ≤ N) := by omega
    simp [c1, this]
  · by_cases c2 : (N : Int) < x.toInt
    · have : ¬ ((0 ≤ x.toInt ∧ 0 ≤ y.toInt) ∧ x.toInt + y.toInt ≤ N) := by omega
      simp [c1, c2, this]
    · have hx : (nI N - x).toInt = (N : Int) - x.toInt := by
        obtain ⟨j, hj, rfl⟩ : ∃ j : Nat, j ≤ N ∧ x = nI j := ⟨x.toInt.toNat, by omega, by
          apply Int32.toInt_inj.mp
          rw [nI_toInt (by omega)]
          omega⟩
        rw [pk_sub hj, nI_toInt (by omega), nI_toInt (by omega)]
        omega
      by_cases c3 : y.toInt < 0
      · have : ¬ ((0 ≤ x.toInt ∧ 0 ≤ y.toInt) ∧ x.toInt + y.toInt ≤ N) := by omega
        simp [c1, c2, c3, this]
      · rw [hx]
        by_cases c4 : (N : Int) - x.toInt < y.toInt
        · have : ¬ ((0 ≤ x.toInt ∧ 0 ≤ y.toInt) ∧ x.toInt + y.toInt ≤ N) := by omega
          simp [c1, c2, c3, c4, this]
        · have : ((0 ≤ x.toInt ∧ 0 ≤ y.toInt) ∧ x.toInt + y.toInt ≤ N) := by omega
          simp [c1, c2, c3, c4, this]
theorem sw_cmp_lt (a l : Int64) : lg_cmp a l < 0 ↔ a.toInt < l.toInt := by
  rw [← Int64.lt_iff_toInt_lt]
  unfold lg_cmp
  by_cases h1 : a > l
  · have : ¬ a < l := Int64.not_lt.mpr (Int64.le_of_lt h1)
    simp [h1, this]
  · by_cases h2 : a = l
    · subst h2; simp
    · have h3 : a < l := by
        rw [Int64.lt_iff_toInt_lt] at *
        have h4 : ¬ a.toInt = l.toInt := fun q => h2 (Int64.toInt_inj.mp q)
        simp only [gt_iff_lt, Int64.lt_iff_toInt_lt] at h1
        omega
      simp [h1, h2, h3]
theorem sw_cmp_le (a l : Int64) : lg_cmp a l ≤ 0 ↔ a.toInt ≤ l.toInt := by
  rw [← Int64.le_iff_toInt_le]
  unfold lg_cmp
  by_cases h1 : a > l
  · have : ¬ a ≤ l := Int64.not_le.mpr h1
    simp [h1, this]
  · have h3 : a ≤ l := Int64.not_lt.mp h1
    by_cases h2 : a = l
    · subst h2; simp
    · simp [h1, h2, h3]
theorem sw_l_add (x y : Int32) : (x.toInt64 + y.toInt64).toInt = x.toInt + y.toInt := by
  have hx := Int32.le_toInt x
  have hx2 := Int32.toInt_lt x
  have hy := Int32.le_toInt y
  have hy2 := Int32.toInt_lt y
  rw [Int64.toInt_add, Int32.toInt_toInt64, Int32.toInt_toInt64]
  apply Int.bmod_eq_of_le <;> omega
theorem sw_isBeyond {N : Nat} {x y : Int32} {σ : sw_St} (hN : N ≤ 80) : fX10_isBeyond x y.toInt64 (nI N) σ = some (if sw_cs N x y = true then 0 else 1, σ) := by
  have hNi : (nI N).toInt = (N : Int) := nI_toInt (by omega)
  unfold fX10_isBeyond
  simp only [sw_cmp_lt, sw_cmp_le]
  simp only [sw_l_add, Int32.toInt_toInt64, Int32.lt_iff_toInt_lt, Int32.toInt_zero, hNi, sw_cs, Bool.and_eq_true, decide_eq_true_eq, show (0 : Int64).toInt = 0 from rfl]
  by_cases c1 : x.toInt < 0
  · have : ¬ ((0 ≤ x.toInt ∧ 0 ≤ y.toInt) ∧ x.toInt + y.toInt ≤ N) := by omega
    simp [c1, this]
  · by_cases c3 : y.toInt < 0
    · have : ¬ ((0 ≤ x.toInt ∧ 0 ≤ y.toInt) ∧ x.toInt + y.toInt ≤ N) := by omega
      simp [c1, c3, this]
    · by_cases c4 : x.toInt + y.toInt ≤ N
      · have : ((0 ≤ x.toInt ∧ 0 ≤ y.toInt) ∧ x.toInt + y.toInt ≤ N) := by omega
        simp [c1, c3, c4, this]
      · have : ¬ ((0 ≤ x.toInt ∧ 0 ≤ y.toInt) ∧ x.toInt + y.toInt ≤ N) := by omega
        simp [c1, c3, c4, this]
