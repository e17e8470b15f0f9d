/-! The reference's search for the least mending; sim_mend. -/
def sw_rM (r : Option (Nat × Nat × Nat)) (τ : sw_St) : Prop := τ 37 34 = sw_r1 r ∧ (¬ r = none → τ 37 35 = sw_r0 r) ∧ τ 37 36 = sw_r2 r ∧ τ 37 37 = sw_r3r r
theorem sw_rM_k {r : Option (Nat × Nat × Nat)} {τ τ' : sw_St} (h : sw_rM r τ) (e : ∀ k : Nat, 34 ≤ k → k ≤ 37 → τ' 37 k = τ 37 k) : sw_rM r τ' := by
  unfold sw_rM; rw [e 34 (by decide) (by decide), e 35 (by decide) (by decide), e 36 (by decide) (by decide), e 37 (by decide) (by decide)]; exact h
def sw_FrL (τ τ' : sw_St) : Prop := (∀ c : Nat, c ≠ 37 → c ≠ 49 → c ≠ 50 → τ' c = τ c) ∧ ∀ k : Nat, k ≠ 20 → k ≠ 23 → (k < 34 ∨ 37 < k) → τ' 37 k = τ 37 k
theorem sw_lookM {σ : sw_St} {N L la F R : Nat} (hC : sw_Cn σ N L la F R) {m : Int32} {τ : sw_St} {S : sw_Sw} (hF : sw_FrZ σ τ) (hS : ∀ k : Nat, k < N → sw_M6 τ k = S k) (hv : sw_okS S N) {r : Option (Nat × Nat × Nat)} (hr : sw_rM r τ) {d : Nat × Nat × Nat} (hd : sw_bd d) (hrb : ∀ c, r = some c → sw_bd c) : ∃ τ' : sw_St, fX10_look m (nI (sw_cc d)) (nI d.1) (sw_r2 (some d)) (sw_r3r (some d)) τ = some ((), τ') ∧ sw_FrL τ τ' ∧ sw_rM (if sw_gS σ N L la m S = true ∧ sw_btr r d = true then some d else r) τ' := by
  obtain ⟨τ1, g1, gF, g0, g2, -⟩ := sw_cutX hC hF hS hv
  have hL := hC.2.2.1.1
  have le : sw_sk σ N L S ≤ L := sw_ns_le _ _ _
  have r1 := sw_rM_k (τ' := τ1) hr (fun k h1 h2 => gF.2 k (by omega) (by omega))
  have e12 : τ1 37 12 = nI L := by
    rw [gF.2 12 (by decide) (by decide), hF.2 12 (by decide), hC.1.2.1.1]; exact hC.2.2.1.2
  have bd := sw_cc_b d
  have d2 := hd.1
  have FL : sw_FrL τ τ1 := ⟨gF.1, fun k a1 a2 _ => gF.2 k a1 a2⟩
  -- what is compared
  have cmp : (if τ1 37 34 < 0 then fX10_look_B35 m (nI (sw_cc d)) (nI d.1) (sw_r2 (some d)) (sw_r3r (some d)) τ1 else (if nI (sw_cc d) < τ1 37 34 then fX10_look_B35 m (nI (sw_cc d)) (nI d.1) (sw_r2 (some d)) (sw_r3r (some d)) τ1 else (if nI (sw_cc d) = τ1 37 34 then (if τ1 37 35 ≤ nI d.1 then fX10_look_B39 m (nI (sw_cc d)) (nI d.1) (sw_r2 (some d)) (sw_r3r (some d)) τ1 else fX10_look_B35 m (nI (sw_cc d)) (nI d.1) (sw_r2 (some d)) (sw_r3r (some d)) τ1) else fX10_look_B39 m (nI (sw_cc d)) (nI d.1) (sw_r2 (some d)) (sw_r3r (some d)) τ1))) = fX10_look_B40 m (nI (sw_cc d)) (nI d.1) (sw_r2 (some d)) (sw_r3r (some d)) (if sw_btr r d = true then 1 else 0) τ1 := by
    rw [fX10_look_B35, fX10_look_B39, r1.1]
    cases hrr : r with
    | none => rw [if_pos (show sw_r1 none < 0 by decide), if_pos (show sw_btr none d = true from rfl)]
    | some c =>
      have bc := sw_cc_b c
      have e35 : τ1 37 35 = nI c.1 := by have := r1.2.1 (by rw [hrr]; simp); rw [this, hrr]; rfl
      rw [show sw_r1 (some c) = nI (sw_cc c) from rfl, if_neg (nI_pos (by omega)), e35]
      by_cases c1 : sw_cc d < sw_cc c
      · rw [if_pos (nI_lt c1 (by omega)), if_pos (show sw_btr (some c) d = true by simp [sw_btr, c1])]
      · rw [if_neg (nI_nlt (by omega) (by omega))]
        by_cases c2 : sw_cc d = sw_cc c
        · rw [if_pos (by rw [c2])]
          by_cases c3 : d.1 < c.1
          · have c4 := (hrb c hrr).1
            rw [if_neg (nI_ge c3 (by omega)), if_pos (show sw_btr (some c) d = true by simp [sw_btr, c2, c3])]
          · rw [if_pos (nI_le (by omega) (by omega)), if_neg (show ¬ sw_btr (some c) d = true by simp [sw_btr, c2]; omega)]
        · rw [if_neg (fun z => c2 ((nI_eq (by omega) (by omega)).mp z)), if_neg (show ¬ sw_btr (some c) d = true by simp [sw_btr, c1, c2])]
  rw [fX10_look, g1, sw_bs, cmp, fX10_look_B40, g0, e12, g2]
  by_cases q : sw_gS σ N L la m S = true
  · have q' := q
    unfold sw_gS at q'
    simp only [Bool.and_eq_true, decide_eq_true_eq, Bool.not_eq_true', decide_eq_false_iff_not] at q'
    rw [if_pos (by rw [q'.1]), if_neg q'.2]
    by_cases b : sw_btr r d = true
    · rw [if_pos b, if_neg (by decide), if_pos ⟨q, b⟩, sw_le, sw_le, sw_le, sw_le]
      refine ⟨_, rfl, ⟨fun c a1 a2 a3 => ?_, fun k a1 a2 a3 => ?_⟩, ?_, fun _ => ?_, ?_, ?_⟩
      · rw [sw_up_ne a1, sw_up_ne a1, sw_up_ne a1, sw_up_ne a1]; exact FL.1 c a1 a2 a3
      · rw [sw_up_eq, sw_un (by omega), sw_up_eq, sw_un (by omega), sw_up_eq, sw_un (by omega), sw_up_eq, sw_un (by omega)]; exact FL.2 k a1 a2 a3
      · rw [sw_up_eq, sw_un (by decide), sw_up_eq, sw_un (by decide), sw_up_eq, sw_un (by decide), sw_up_eq, sw_ue]; rfl
      · rw [sw_up_eq, sw_un (by decide), sw_up_eq, sw_un (by decide), sw_up_eq, sw_ue]; rfl
      · rw [sw_up_eq, sw_un (by decide), sw_up_eq, sw_ue]
      · rw [sw_up_eq, sw_ue]
    · rw [if_neg b, if_pos rfl, if_neg (fun z => b z.2)]
      exact ⟨τ1, rfl, FL, r1⟩
  · rw [if_neg (show ¬ (sw_gS σ N L la m S = true ∧ sw_btr r d = true) from fun z => q z.1)]
    by_cases c1 : sw_sk σ N L S = L
    · have c2 : m < (sw_zk σ N L la S).2.2 := by
        by_cases z : m < (sw_zk σ N L la S).2.2
        · exact z
        · exact absurd (by unfold sw_gS; simp [c1, z]) q
      rw [if_pos (by rw [c1]), if_pos c2]
      exact ⟨τ1, rfl, FL, r1⟩
    · rw [if_neg (fun z => c1 ((nI_eq (by omega) (by omega)).mp z))]
      exact ⟨τ1, rfl, FL, r1⟩
theorem sw_keepM {k s : Nat} {τ : sw_St} (hk : k < 8) (hs : s + 2 < 6) : fX10_keep (nI k) (nI s) τ = some ((), sw_up (sw_up (sw_up τ 57 s (τ 40 k)) 57 (s + 1) (τ 41 k)) 57 (s + 2) (τ 42 k)) := by
  have o := sw_ok_nI hk (by decide)
  have p1 : nI s + 1 = nI (s + 1) := nI_1 s
  have p2 : nI s + 2 = nI (s + 2) := nI_add s 2
  rw [fX10_keep, p1, p2, if_pos o, if_pos (sw_ok_nI (show s < 6 by omega) (by decide)), sw_le, if_pos o, if_pos (sw_ok_nI (show s + 1 < 6 by omega) (by decide)), sw_le, if_pos o, if_pos (sw_ok_nI (show s + 2 < 6 by omega) (by decide)), sw_le, nI_clamp (show k < 2 ^ 31 by omega), nI_clamp (show s < 2 ^ 31 by omega), nI_clamp (show s + 1 < 2 ^ 31 by omega), nI_clamp (show s + 2 < 2 ^ 31 by omega), sw_up_ne (show 42 ≠ 57 by decide), sw_up_ne (show 42 ≠ 57 by decide), sw_up_ne (show 41 ≠ 57 by decide)]
theorem sw_putB {k s : Nat} {τ : sw_St} (hk : k < 8) (hs : s + 2 < 6) : fX10_putBack (nI k) (nI s) τ = some ((), sw_up (sw_up (sw_up τ 40 k (τ 57 s)) 41 k (τ 57 (s + 1))) 42 k (τ 57 (s + 2))) := by
  have o := sw_ok_nI hk (by decide)
  have p1 : nI s + 1 = nI (s + 1) := nI_1 s
  have p2 : nI s + 2 = nI (s + 2) := nI_add s 2
  rw [fX10_putBack, p1, p2, if_pos (sw_ok_nI (show s < 6 by omega) (by decide)), if_pos o, sw_le, if_pos (sw_ok_nI (show s + 1 < 6 by omega) (by decide)), if_pos o, sw_le, if_pos (sw_ok_nI (show s + 2 < 6 by omega) (by decide)), if_pos o, sw_le, nI_clamp (show k < 2 ^ 31 by omega), nI_clamp (show s < 2 ^ 31 by omega), nI_clamp (show s + 1 < 2 ^ 31 by omega), nI_clamp (show s + 2 < 2 ^ 31 by omega), sw_up_ne (show 57 ≠ 41 by decide), sw_up_ne (show 57 ≠ 40 by decide)]
theorem sw_actm_ne {τ : sw_St} {a k c : Nat} (h0 : c ≠ 40) (h1 : c ≠ 41) (h2 : c ≠ 42) : sw_actm τ a k c = τ c := by
  unfold sw_actm
  split
  · rw [sw_up_ne h1, sw_up_ne h2]
  · rw [sw_up_ne h0]
  · rw [sw_up_ne h0]
  · rw [sw_up_ne h1]
theorem sw_actm_j {τ : sw_St} {a k c j : Nat} (hj : j ≠ k) : sw_actm τ a k c j = τ c j := by
  have u : ∀ {ρ : sw_St} {d : Nat} {x : Int32}, sw_up ρ d k x c j = ρ c j := fun {ρ d x} => by
    by_cases e : c = d
    · subst e; rw [sw_up_eq, sw_un hj]
    · rw [sw_up_ne e]
  unfold sw_actm
  split
  · rw [u, u]
  · rw [u]
  · rw [u]
  · rw [u]
/-- a tooth put back -/
theorem sw_upf {f g : Nat → Int32} {k : Nat} {x : Int32} (h : ∀ j : Nat, j ≠ k → f j = g j) (hx : x = g k) : upd f k x = g := by
  funext j
  by_cases e : j = k
  · subst e; rw [sw_ue, hx]
  · rw [sw_un e, h j e]
