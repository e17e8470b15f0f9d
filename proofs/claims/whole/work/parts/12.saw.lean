/-! The saw: what its methods answer, for the class's three saws and for the reference. -/
theorem sw_ix (k w : Nat) : nI k * 3 + nI w = nI (3 * k + w) := by
  show nI k * nI 3 + nI w = _
  rw [pk_mul, nI_add, Nat.mul_comm]
theorem sw_ix0 (k : Nat) : nI k * 3 + 0 = nI (3 * k + 0) := sw_ix k 0
theorem sw_ix1 (k : Nat) : nI k * 3 + 1 = nI (3 * k + 1) := sw_ix k 1
theorem sw_ix2 (k : Nat) : nI k * 3 + 2 = nI (3 * k + 2) := sw_ix k 2
/-- what a tooth takes -/
def sw_tk (kd h e : Int32) : Int32 := if h * e ≤ 0 then h * e else if kd = 2 then h * e + 2 else h * e
theorem sw_kindOf {c N k : Nat} {σ : sw_St} (hN : N ≤ 8) (hc : σ c 0 = nI N) (hk : k < N) : fX6_kindOf c (nI k) σ = some (σ (c + 1) k, σ) := by
  simp [fX6_kindOf, sw_has6 hN hc, sw_bs, sw_ok_nI hk (show N < 2 ^ 31 by omega), sw_ok_nI (show k < 8 by omega) (by decide), nI_clamp (show k < 2 ^ 31 by omega)]
theorem sw_sideOf {c N k : Nat} {σ : sw_St} (hN : N ≤ 8) (hc : σ c 0 = nI N) (hk : k < N) : fX6_sideOf c (nI k) σ = some (σ (c + 2) k, σ) := by
  simp [fX6_sideOf, sw_has6 hN hc, sw_bs, sw_ok_nI hk (show N < 2 ^ 31 by omega), sw_ok_nI (show k < 8 by omega) (by decide), nI_clamp (show k < 2 ^ 31 by omega)]
theorem sw_wOk : ∀ w : Nat, w ≤ 2 → (0 : Int32) ≤ nI w ∧ nI w ≤ 2 := by
  intro w hw
  exact ⟨nI_pos' (by omega), nI_le (b := 2) hw (by decide)⟩
theorem sw_sizeOf {c N k w : Nat} {σ : sw_St} (hN : N ≤ 8) (hc : σ c 0 = nI N) (hk : k < N) (hw : w ≤ 2) : fX6_sizeOf c (nI k) (nI w) σ = some (σ (c + 3) (3 * k + w), σ) := by
  simp [fX6_sizeOf, sw_has6 hN hc, sw_bs, sw_ok_nI hk (show N < 2 ^ 31 by omega), sw_isSize, sw_wOk w hw, sw_ix, sw_ok_nI (show 3 * k + w < 24 by omega) (by decide), nI_clamp (show 3 * k + w < 2 ^ 31 by omega)]
theorem sw_change {c N k w : Nat} {v : Int32} {σ : sw_St} (hN : N ≤ 8) (hc : σ c 0 = nI N) (hk : k < N) (hw : w ≤ 2) : fX6_change c (nI k) (nI w) v σ = some ((), sw_up σ (c + 3) (3 * k + w) v) := by
  simp [fX6_change, sw_has6 hN hc, sw_bs, sw_le, sw_ok_nI hk (show N < 2 ^ 31 by omega), sw_isSize, sw_wOk w hw, sw_ix, sw_ok_nI (show 3 * k + w < 24 by omega) (by decide), nI_clamp (show 3 * k + w < 2 ^ 31 by omega)]
theorem sw_lt8 {k : Nat} (hk : k < 8) : nI k < 8 := nI_lt (b := 8) hk (by decide)
theorem sw_takes {c k : Nat} {σ : sw_St} (hk : k < 8) : fX6_takes c (nI k) σ = some (sw_tk (σ (c + 1) k) (σ (c + 3) (3 * k + 1)) (σ (c + 3) (3 * k + 2)), σ) := by
  simp only [fX6_takes, sw_ix1, sw_ix2, sw_le, if_neg (nI_pos (show k < 2 ^ 31 by omega)), if_pos (sw_lt8 hk), sw_ok_nI (show 3 * k + 1 < 24 by omega) (by decide), sw_ok_nI (show 3 * k + 2 < 24 by omega) (by decide), sw_ok_nI (show k < 8 by omega) (by decide), nI_clamp (show 3 * k + 1 < 2 ^ 31 by omega), nI_clamp (show 3 * k + 2 < 2 ^ 31 by omega), nI_clamp (show k < 2 ^ 31 by omega), if_true, sw_tk]
  split
  · rfl
  · split <;> rfl
theorem sw_leaning {c k : Nat} {σ : sw_St} (hk : k < 8) : fX6_leaning c (nI k) σ = some (σ (c + 2) k * σ (c + 3) (3 * k), σ) := by
  simp only [fX6_leaning, sw_ix0, if_neg (nI_pos (show k < 2 ^ 31 by omega)), if_pos (sw_lt8 hk), sw_ok_nI (show 3 * k < 24 by omega) (by decide), sw_ok_nI (show k < 8 by omega) (by decide), nI_clamp (show 3 * k < 2 ^ 31 by omega), nI_clamp (show k < 2 ^ 31 by omega), if_true, Nat.add_zero]
theorem sw_takesOf {k : Nat} {σ : sw_St} (hk : k < 8) : fX10_takesOf (nI k) σ = some (sw_tk (σ 38 k) (σ 41 k) (σ 42 k), σ) := by
  simp only [fX10_takesOf, sw_le, sw_ok_nI hk (by decide), nI_clamp (show k < 2 ^ 31 by omega), if_true, sw_tk]
  split
  · rfl
  · split <;> rfl
theorem sw_pushOf {k : Nat} {σ : sw_St} (hk : k < 8) : fX10_pushOf (nI k) σ = some (sw_tk (σ 38 k) (σ 41 k) (σ 42 k) * (σ 39 k * σ 40 k), σ) := by
  simp only [fX10_pushOf, sw_takesOf hk, sw_bs, sw_ok_nI hk (by decide), nI_clamp (show k < 2 ^ 31 by omega), if_true]
  rw [Int32.mul_assoc, Int32.mul_comm (σ 40 k)]
theorem sim_ofTooth (a0 a1 : Int32) : sw_sim (fX9_ofTooth a0 a1) (fX10_ofTooth a0 a1) := by
  intro σ hR
  obtain ⟨⟨hm, N, hN, hn, hT⟩, hB, hH, hF, hRd, hS, hZ⟩ := id hR
  have hm2 : σ 37 1 = nI N := by rw [hm, hn]
  by_cases h : sw_ok a0 N = true
  · obtain ⟨k, hk, rfl⟩ := (sw_okE (by omega)).mp h
    obtain ⟨⟨e1, e2, e3, e4, e5⟩, -⟩ := hT k hk
    have h8 : sw_ok (nI k) 8 = true := sw_ok_nI (by omega) (by decide)
    have hcl : (nI k).toNatClampNeg = k := nI_clamp (by omega)
    have s0 := sw_sizeOf (w := 0) hN hn hk (by decide)
    have s1 := sw_sizeOf (w := 1) hN hn hk (by decide)
    have s2 := sw_sizeOf (w := 2) hN hn hk (by decide)
    rw [show nI 0 = 0 from rfl] at s0
    rw [show nI 1 = 1 from rfl] at s1
    rw [show nI 2 = 2 from rfl] at s2
    have t1 := sw_takes (c := 5) (σ := σ) (show k < 8 by omega)
    have t2 := sw_leaning (c := 5) (σ := σ) (show k < 8 by omega)
    have t3 := sw_takesOf (σ := σ) (show k < 8 by omega)
    have t4 := sw_pushOf (σ := σ) (show k < 8 by omega)
    rw [e1, e4, e5] at t3
    rw [e1, e4, e5, e2, e3] at t4
    have X : fX6_has 5 (nI k) σ = some (1, σ) := by rw [sw_has6 hN hn, if_pos h]
    have Y : fX10_noTooth (nI k) σ = some (0, σ) := by rw [sw_noTooth hN hm2, if_pos h]
    by_cases c0 : a1 = 0
    · exact sw_ro hR (σ 6 k) (by simp [fX9_ofTooth, X, sw_bs, c0, sw_kindOf hN hn hk]) (by simp [fX10_ofTooth, Y, sw_bs, h8, hcl, c0, e1])
    by_cases c1 : a1 = 1
    · exact sw_ro hR (σ 7 k) (by simp [fX9_ofTooth, X, sw_bs, c1, sw_sideOf hN hn hk]) (by simp [fX10_ofTooth, Y, sw_bs, h8, hcl, c1, e2])
    by_cases c2 : a1 = 2
    · exact sw_ro hR (σ 8 (3 * k)) (by simp [fX9_ofTooth, X, sw_bs, c2, s0]) (by simp [fX10_ofTooth, Y, sw_bs, h8, hcl, c2, e3])
    by_cases c3 : a1 = 3
    · exact sw_ro hR (σ 8 (3 * k + 1)) (by simp [fX9_ofTooth, X, sw_bs, c3, s1]) (by simp [fX10_ofTooth, Y, sw_bs, h8, hcl, c3, e4])
    by_cases c4 : a1 = 4
    · exact sw_ro hR (σ 8 (3 * k + 2)) (by simp [fX9_ofTooth, X, sw_bs, c4, s2]) (by simp [fX10_ofTooth, Y, sw_bs, h8, hcl, c4, e5])
    by_cases c5 : a1 = 5
    · exact sw_ro hR _ (by simp [fX9_ofTooth, X, sw_bs, c5, t1]; rfl) (by simp [fX10_ofTooth, Y, sw_bs, c5, t3])
    by_cases c6 : a1 = 6
    · exact sw_ro hR _ (by simp [fX9_ofTooth, fX6_pushes, X, sw_bs, c6, t1, t2]; rfl) (by simp [fX10_ofTooth, Y, sw_bs, c6, t4])
    · exact sw_ro hR (-2) (by simp [fX9_ofTooth, X, sw_bs, c0, c1, c2, c3, c4, c5, c6]) (by simp [fX10_ofTooth, Y, sw_bs, c0, c1, c2, c3, c4, c5, c6])
  · exact sw_ro hR (-1) (by simp [fX9_ofTooth, sw_has6 hN hn, sw_bs, h]) (by simp [fX10_ofTooth, sw_noTooth hN hm2, sw_bs, h])
theorem sim_joint (a0 : Int32) : sw_sim (fX9_joint a0) (fX10_joint a0) := by
  intro σ hR
  obtain ⟨⟨hm, N, hN, hn, hT⟩, hB, hH, hF, hRd, hS, ⟨hZ1, hZ2⟩⟩ := id hR
  have hm2 : σ 37 1 = nI N := by rw [hm, hn]
  by_cases h : sw_ok a0 N = true
  · obtain ⟨k, hk, rfl⟩ := (sw_okE (by omega)).mp h
    obtain ⟨⟨e1, e2, e3, e4, e5⟩, -⟩ := hT k hk
    have h8 : sw_ok (nI k) 8 = true := sw_ok_nI (by omega) (by decide)
    have hcl : (nI k).toNatClampNeg = k := nI_clamp (by omega)
    have X : fX6_has 5 (nI k) σ = some (1, σ) := by rw [sw_has6 hN hn, if_pos h]
    have Y : ∀ τ : sw_St, τ 37 = σ 37 → fX10_noTooth (nI k) τ = some (0, τ) := fun τ ht => by rw [sw_noTooth hN (by rw [ht]; exact hm2), if_pos h]
    have key : ∀ b : Int32, sw_Rel (sw_up (sw_up σ 0 12 (31 * σ 0 12 + b)) 37 45 (31 * σ 0 12 + b)) := by
      intro b
      simp only [sw_Rel, sw_up_eq, sw_ue, sw_un, sw_up_ne, ne_eq, Nat.reduceEqDiff, not_false_eq_true]
      exact ⟨⟨hm, N, hN, hn, hT⟩, hB, hH, hF, hRd, hS, ⟨hZ1, rfl⟩⟩
    by_cases c : σ 6 k = 2
    · refine ⟨70, _, _, by simp [fX9_joint, X, sw_bs, sw_kindOf hN hn hk, c, fX9_leaveInTrail, sw_le]; rfl, ?_, key 5⟩
      rw [fX10_joint, Y _ (sw_up_ne (by decide))]
      simp [sw_bs, h8, hcl, sw_up_ne, e1, c, fX10_joint_B26, fX10_traced, sw_le, hZ2]
    · refine ⟨nI k, _, _, by simp [fX9_joint, X, sw_bs, sw_kindOf hN hn hk, c, fX9_leaveInTrail, sw_le]; rfl, ?_, key 4⟩
      rw [fX10_joint, Y _ (sw_up_ne (by decide))]
      simp [sw_bs, h8, hcl, sw_up_ne, e1, c, fX10_joint_B26, fX10_traced, sw_le, hZ2]
  · exact sw_ro hR (-1) (by simp [fX9_joint, sw_has6 hN hn, sw_bs, h]) (by simp [fX10_joint, sw_noTooth hN hm2, sw_bs, h])
