/-! sim_saw. -/
def sw_FrW (σ τ : sw_St) : Prop := ∀ c : Nat, c ≠ 38 → c ≠ 39 → c ≠ 40 → c ≠ 41 → c ≠ 42 → τ c = σ c
def sw_w5 (σ τ : sw_St) (t : Nat) : Prop := ∀ j : Nat, j < t → τ 38 j = σ 43 j ∧ τ 39 j = σ 44 j ∧ τ 40 j = σ 45 (3 * j) ∧ τ 41 j = σ 45 (3 * j + 1) ∧ τ 42 j = σ 45 (3 * j + 2)
theorem sw_swL {Q : Nat} {σ : sw_St} (hQ : Q ≤ 8) (h1 : σ 37 1 = nI Q) : ∀ (m t : Nat) (τ : sw_St), t ≤ Q → Q - t < m → sw_FrW σ τ → sw_w5 σ τ t → ∃ τ' : sw_St, fX10_saw_L58 m (nI t) τ = some (nI Q, sw_up (sw_up (sw_up τ' 37 24 0) 37 28 0) 37 0 0) ∧ sw_FrW σ τ' ∧ sw_w5 σ τ' Q := by
  intro m
  induction m with
  | zero => intro t τ _ h; omega
  | succ m ih =>
    intro t τ ht hm hF hr
    have h37 := hF 37 (by decide) (by decide) (by decide) (by decide) (by decide)
    rw [fX10_saw_L58, h37, h1]
    by_cases c : t = Q
    · subst c
      rw [if_pos (nI_le (Nat.le_refl _) (by omega)), sw_le, sw_le, sw_mref, sw_up_eq, sw_un (by decide), sw_up_eq, sw_un (by decide), h37, h1]
      exact ⟨τ, rfl, hF, hr⟩
    · have ok := sw_ok_nI (show t < 8 by omega) (by decide)
      have h43 := hF 43 (by decide) (by decide) (by decide) (by decide) (by decide)
      have h44 := hF 44 (by decide) (by decide) (by decide) (by decide) (by decide)
      have h45 := hF 45 (by decide) (by decide) (by decide) (by decide) (by decide)
      rw [if_neg (nI_ge (show t < Q by omega) (by omega)), sw_ix3, show nI (3 * t) + 1 = nI (3 * t + 1) from nI_1 _, show nI (3 * t) + 2 = nI (3 * t + 2) from nI_add (3 * t) 2, if_pos ok, if_pos ok, sw_le, if_pos ok, if_pos ok, sw_le, if_pos (sw_ok_nI (show 3 * t < 72 by omega) (by decide)), if_pos ok, sw_le, if_pos (sw_ok_nI (show 3 * t + 1 < 72 by omega) (by decide)), if_pos ok, sw_le, if_pos (sw_ok_nI (show 3 * t + 2 < 72 by omega) (by decide)), if_pos ok, sw_le, nI_1, nI_clamp (show t < 2 ^ 31 by omega), nI_clamp (show 3 * t < 2 ^ 31 by omega), nI_clamp (show 3 * t + 1 < 2 ^ 31 by omega), nI_clamp (show 3 * t + 2 < 2 ^ 31 by omega)]
      refine ih (t + 1) _ (by omega) (by omega) (fun c a1 a2 a3 a4 a5 => by rw [sw_up_ne a5, sw_up_ne a4, sw_up_ne a3, sw_up_ne a2, sw_up_ne a1]; exact hF c a1 a2 a3 a4 a5) ?_
      intro j hj
      rw [sw_up_ne (show 38 ≠ 42 by decide), sw_up_ne (show 38 ≠ 41 by decide), sw_up_ne (show 38 ≠ 40 by decide), sw_up_ne (show 38 ≠ 39 by decide), sw_up_eq, sw_up_ne (show 39 ≠ 42 by decide), sw_up_ne (show 39 ≠ 41 by decide), sw_up_ne (show 39 ≠ 40 by decide), sw_up_eq, sw_up_ne (show 39 ≠ 38 by decide), sw_up_ne (show 40 ≠ 42 by decide), sw_up_ne (show 40 ≠ 41 by decide), sw_up_eq, sw_up_ne (show 40 ≠ 39 by decide), sw_up_ne (show 40 ≠ 38 by decide), sw_up_ne (show 41 ≠ 42 by decide), sw_up_eq, sw_up_ne (show 41 ≠ 40 by decide), sw_up_ne (show 41 ≠ 39 by decide), sw_up_ne (show 41 ≠ 38 by decide), sw_up_eq, sw_up_ne (show 42 ≠ 41 by decide), sw_up_ne (show 42 ≠ 40 by decide), sw_up_ne (show 42 ≠ 39 by decide), sw_up_ne (show 42 ≠ 38 by decide), sw_up_ne (show 44 ≠ 38 by decide), sw_up_ne (show 45 ≠ 41 by decide), sw_up_ne (show 45 ≠ 40 by decide), sw_up_ne (show 45 ≠ 39 by decide), sw_up_ne (show 45 ≠ 38 by decide), h43, h44, h45]
      by_cases z : j = t
      · subst z
        rw [sw_ue, sw_ue, sw_ue, sw_ue, sw_ue]
        exact ⟨rfl, rfl, rfl, rfl, rfl⟩
      · rw [sw_un z, sw_un z, sw_un z, sw_un z, sw_un z]
        exact hr j (by omega)
theorem sw_become {c c1 : Nat} {σ : sw_St} : fX6_become c c1 σ = some ((), sw_ar (sw_ar (sw_ar (sw_up σ c 0 (σ c1 0)) (c + 1) (va_cpy ((sw_up σ c 0 (σ c1 0)) (c1 + 1)) ((sw_up σ c 0 (σ c1 0)) (c + 1)) 0 0 8)) (c + 2) (va_cpy ((sw_ar (sw_up σ c 0 (σ c1 0)) (c + 1) (va_cpy ((sw_up σ c 0 (σ c1 0)) (c1 + 1)) ((sw_up σ c 0 (σ c1 0)) (c + 1)) 0 0 8)) (c1 + 2)) ((sw_ar (sw_up σ c 0 (σ c1 0)) (c + 1) (va_cpy ((sw_up σ c 0 (σ c1 0)) (c1 + 1)) ((sw_up σ c 0 (σ c1 0)) (c + 1)) 0 0 8)) (c + 2)) 0 0 8)) (c + 3) (va_cpy ((sw_ar (sw_ar (sw_up σ c 0 (σ c1 0)) (c + 1) (va_cpy ((sw_up σ c 0 (σ c1 0)) (c1 + 1)) ((sw_up σ c 0 (σ c1 0)) (c + 1)) 0 0 8)) (c + 2) (va_cpy ((sw_ar (sw_up σ c 0 (σ c1 0)) (c + 1) (va_cpy ((sw_up σ c 0 (σ c1 0)) (c1 + 1)) ((sw_up σ c 0 (σ c1 0)) (c + 1)) 0 0 8)) (c1 + 2)) ((sw_ar (sw_up σ c 0 (σ c1 0)) (c + 1) (va_cpy ((sw_up σ c 0 (σ c1 0)) (c1 + 1)) ((sw_up σ c 0 (σ c1 0)) (c + 1)) 0 0 8)) (c + 2)) 0 0 8)) (c1 + 3)) ((sw_ar (sw_ar (sw_up σ c 0 (σ c1 0)) (c + 1) (va_cpy ((sw_up σ c 0 (σ c1 0)) (c1 + 1)) ((sw_up σ c 0 (σ c1 0)) (c + 1)) 0 0 8)) (c + 2) (va_cpy ((sw_ar (sw_up σ c 0 (σ c1 0)) (c + 1) (va_cpy ((sw_up σ c 0 (σ c1 0)) (c1 + 1)) ((sw_up σ c 0 (σ c1 0)) (c + 1)) 0 0 8)) (c1 + 2)) ((sw_ar (sw_up σ c 0 (σ c1 0)) (c + 1) (va_cpy ((sw_up σ c 0 (σ c1 0)) (c1 + 1)) ((sw_up σ c 0 (σ c1 0)) (c + 1)) 0 0 8)) (c + 2)) 0 0 8)) (c + 3)) 0 0 24)) := by
  have ok1 : sw_cok 0 0 8 8 8 = true := by decide +kernel
  have ok2 : sw_cok 0 0 24 24 24 = true := by decide +kernel
  rw [fX6_become, sw_le, if_pos ok1, sw_le, if_pos ok1, sw_le, if_pos ok2, sw_le]
  rfl
/-- one saw becomes the other -/
theorem sw_bec {c c1 : Nat} {σ : sw_St} (h : c + 3 < c1 ∨ c1 + 3 < c) : ∃ τ : sw_St, fX6_become c c1 σ = some ((), τ) ∧ (∀ d : Nat, d ≠ c → d ≠ c + 1 → d ≠ c + 2 → d ≠ c + 3 → τ d = σ d) ∧ τ c = upd (σ c) 0 (σ c1 0) ∧ (∀ j : Nat, j < 8 → τ (c + 1) j = σ (c1 + 1) j) ∧ (∀ j : Nat, j < 8 → τ (c + 2) j = σ (c1 + 2) j) ∧ (∀ j : Nat, j < 24 → τ (c + 3) j = σ (c1 + 3) j) := by
  refine ⟨_, sw_become, fun d a1 a2 a3 a4 => ?_, ?_, fun j hj => ?_, fun j hj => ?_, fun j hj => ?_⟩
  · rw [sw_ar_ne a4, sw_ar_ne a3, sw_ar_ne a2, sw_up_ne a1]
  · rw [sw_ar_ne (by omega), sw_ar_ne (by omega), sw_ar_ne (by omega), sw_up_eq]
  · rw [sw_ar_ne (by omega), sw_ar_ne (by omega), sw_ar_eq, va_cpy, if_pos (by omega), sw_up_ne (by omega)]
    congr 1; omega
  · rw [sw_ar_ne (by omega), sw_ar_eq, va_cpy, if_pos (by omega), sw_ar_ne (by omega), sw_up_ne (by omega)]
    congr 1; omega
  · rw [sw_ar_eq, va_cpy, if_pos (by omega), sw_ar_ne (by omega), sw_ar_ne (by omega), sw_up_ne (by omega)]
    congr 1; omega
theorem sim_saw (a0 a1 a2 a3 : Int32) : sw_sim (fX9_saw a0 a1 a2 a3) (fX10_saw a0 a1 a2 a3) := by
  intro σ hR
  obtain ⟨hT, hB, hH, hFl, hRd, hS, ⟨hZ1, hZ2⟩⟩ := id hR
  rcases sw_refuse hR a0 a1 a2 a3 with ⟨r, f, r1, r2, X, Y⟩ | ⟨k, N, i, n, hk, hN, rfl, rfl, rfl, hin, l1, l2, l3, l4, X, Y⟩
  · refine ⟨r, sw_up σ 0 13 f, sw_up (sw_up σ 0 13 f) 37 0 f, ?_, ?_, sw_fault_rel hR f⟩
    · rw [fX9_saw, X, sw_bs, if_neg r2]
    · rw [fX10_saw, Y _ (sw_up_ne (by decide)) (sw_up_ne (by decide)), sw_bs, if_neg r1]
  · have hb := sw_fuel_big
    have ix : (80 : Int32) * nI k + nI i = nI (80 * k + i) := by rw [show (80 : Int32) * nI k = nI (80 * k) from pk_mul 80 k, nI_add]
    obtain ⟨cd, hcd⟩ : ∃ cd : Nat → Int32, ∀ p : Nat, cd p = σ 4 (80 * k + i + p) := ⟨_, fun _ => rfl⟩
    obtain ⟨M, hM⟩ : ∃ M : Nat, sw_fuel = M + 1 := ⟨sw_fuel - 1, by omega⟩
    have c61 : ∀ p : Nat, p < n → σ 61 (80 * k + i + p) = cd p := fun p hp => by
      have := l4 (i + p) (by omega)
      rw [← Nat.add_assoc] at this
      rw [this, hcd]
    have u2 : (sw_up σ 0 13 0) 2 = σ 2 := sw_up_ne (by decide)
    have u3 : (sw_up σ 0 13 0) 3 = σ 3 := sw_up_ne (by decide)
    have u4 : (sw_up σ 0 13 0) 4 = σ 4 := sw_up_ne (by decide)
    have hx : ∀ ρ0 : sw_St, ρ0 61 = σ 61 → sw_cx k N i n (80 * k + i) cd (sw_up σ 0 13 0) ρ0 := fun ρ0 h => ⟨hk, hN, by rw [u2]; exact l1, by rw [u3]; exact l2, hin, fun p _ => by rw [u4, hcd], by omega, fun p hp => by rw [h]; exact c61 p hp⟩
    have run : ∀ ρ : sw_St, ρ 61 = σ 61 → sw_jt (sw_up σ 0 13 0) (sw_up (sw_up ρ 37 7 0) 37 8 0) (fX6_read 9 (nI k) (nI i) (nI n) (sw_up σ 0 13 0)) (fX10_readsSaw (nI (80 * k + i)) (nI n) ρ) := by
      intro ρ h61
      have := sw_NXall (hx (sw_up (sw_up ρ 37 7 0) 37 8 0) (by rw [sw_up_ne (by decide), sw_up_ne (by decide), h61])) 7 0 M (by omega) (by omega) (sw_up (sw_up σ 0 13 0) 9 0 0) (sw_up (sw_up ρ 37 7 0) 37 8 0) sw_fuel 0 (fun c a1 a2 a3 a4 => by rw [sw_up_ne a1]) ⟨fun c _ _ _ _ => rfl, fun k _ _ => rfl⟩ (by rw [sw_up_eq, sw_ue]; rfl) (by rw [sw_up_eq, sw_ue]; rfl) (fun j hj => by omega) (by rw [sw_up_eq, sw_un (by decide), sw_up_eq, sw_ue]; rfl) (Nat.zero_le _) (by omega)
      rw [fX6_read, sw_le, fX10_readsSaw, sw_le, sw_le]
      rw [nI_0] at this
      have e8 : (sw_up (sw_up ρ 37 7 0) 37 8 0) 37 8 = 0 := by rw [sw_up_eq, sw_ue]
      have Y0 : fX10_readsSaw_L10 sw_fuel (nI (80 * k + i)) (nI n) (sw_up (sw_up ρ 37 7 0) 37 8 0) = fX10_readsSaw_B69 (fX10_readsSaw_L10 M) (nI (80 * k + i)) (nI n) (sw_up (sw_up ρ 37 7 0) 37 8 0) := by
        rw [hM, fX10_readsSaw_L10, e8, if_pos rfl, fX10_readsSaw_B25, e8, if_pos (by decide)]
      rw [Y0]
      exact this
    obtain ⟨r, τ', ρd, X1, -, FA, -, hok, -⟩ := run (sw_up σ 0 13 0) (sw_up_ne (by decide))
    by_cases hr : r = -1
    · subst hr
      obtain ⟨τb, b1, b2, b3, b4, b5, b6⟩ := sw_bec (c := 5) (c1 := 9) (σ := τ') (Or.inl (by decide))
      have a1 : ∀ c : Nat, c ≠ 0 → c ≠ 5 → c ≠ 6 → c ≠ 7 → c ≠ 8 → c ≠ 9 → c ≠ 10 → c ≠ 11 → c ≠ 12 → c ≠ 26 → c ≠ 30 → (sw_up (sw_up τb 26 0 0) 30 0 0) c = σ c := fun c q0 q1 q2 q3 q4 q5 q6 q7 q8 q9 q10 => by rw [sw_up_ne q10, sw_up_ne q9, b2 c q1 q2 q3 q4, FA c q5 q6 q7 q8, sw_up_ne q0]
      obtain ⟨r2, τ2, ρ2, X2, Y2, -, FS, hok2, -⟩ := run (sw_up (sw_up τb 26 0 0) 30 0 0) (a1 61 (by decide) (by decide) (by decide) (by decide) (by decide) (by decide) (by decide) (by decide) (by decide) (by decide) (by decide))
      rw [X1] at X2
      obtain ⟨rfl, rfl⟩ : -1 = r2 ∧ τ' = τ2 := by injection X2 with q; injection q with q1 q2; exact ⟨q1, q2⟩
      rw [if_pos rfl] at Y2
      obtain ⟨Q, hQ, e9, e8, htd⟩ := hok2 rfl
      obtain ⟨τ3, C1, C2, C3⟩ := sw_swL (Q := Q) (σ := sw_up ρ2 37 1 (nI Q)) hQ (by rw [sw_up_eq, sw_ue]) sw_fuel 0 (sw_up ρ2 37 1 (nI Q)) (Nat.zero_le _) (by omega) (fun c _ _ _ _ _ => rfl) (fun j hj => by omega)
      rw [nI_0] at C1
      have t5 : (sw_up (sw_up τb 26 0 0) 30 0 0) 5 0 = nI Q := by rw [sw_up_ne (by decide), sw_up_ne (by decide), b3, sw_ue, e9]
      refine ⟨nI Q, sw_up (sw_up τb 26 0 0) 30 0 0, sw_up (sw_up (sw_up τ3 37 24 0) 37 28 0) 37 0 0, ?_, ?_, ?_⟩
      · rw [fX9_saw, X, sw_bs, if_pos rfl, X1, sw_bs, if_pos rfl, b1, sw_bs, sw_le, sw_le, t5]
      · rw [fX10_saw, Y _ (a1 59 (by decide) (by decide) (by decide) (by decide) (by decide) (by decide) (by decide) (by decide) (by decide) (by decide) (by decide)) (a1 60 (by decide) (by decide) (by decide) (by decide) (by decide) (by decide) (by decide) (by decide) (by decide) (by decide) (by decide)), sw_bs, if_pos (by decide), ix, Y2, sw_bs, if_neg (by decide), sw_le, e8, C1]
      · have g : ∀ c : Nat, c ≠ 37 → c ≠ 38 → c ≠ 39 → c ≠ 40 → c ≠ 41 → c ≠ 42 → c ≠ 43 → c ≠ 44 → c ≠ 45 → (sw_up (sw_up (sw_up τ3 37 24 0) 37 28 0) 37 0 0) c = (sw_up (sw_up τb 26 0 0) 30 0 0) c := fun c q0 q1 q2 q3 q4 q5 q6 q7 q8 => by
          rw [sw_up_ne q0, sw_up_ne q0, sw_up_ne q0, C2 c q1 q2 q3 q4 q5, sw_up_ne q0, FS.1 c q0 q6 q7 q8, sw_up_ne q0, sw_up_ne q0]
        have g37 : ∀ k : Nat, k ≠ 0 → k ≠ 1 → k ≠ 7 → k ≠ 8 → k ≠ 24 → k ≠ 28 → (sw_up (sw_up (sw_up τ3 37 24 0) 37 28 0) 37 0 0) 37 k = σ 37 k := fun k q0 q1 q2 q3 q4 q5 => by
          rw [sw_up_eq, sw_un q0, sw_up_eq, sw_un q5, sw_up_eq, sw_un q4, C2 37 (by decide) (by decide) (by decide) (by decide) (by decide), sw_up_eq, sw_un q1, FS.2 k q2 q3, sw_up_eq, sw_un q3, sw_up_eq, sw_un q2, a1 37 (by decide) (by decide) (by decide) (by decide) (by decide) (by decide) (by decide) (by decide) (by decide) (by decide) (by decide)]
        have g0 : (sw_up (sw_up (sw_up τ3 37 24 0) 37 28 0) 37 0 0) 37 0 = 0 := by rw [sw_up_eq, sw_ue]
        have g28 : (sw_up (sw_up (sw_up τ3 37 24 0) 37 28 0) 37 0 0) 37 28 = 0 := by rw [sw_up_eq, sw_un (by decide), sw_up_eq, sw_ue]
        have g24 : (sw_up (sw_up (sw_up τ3 37 24 0) 37 28 0) 37 0 0) 37 24 = 0 := by rw [sw_up_eq, sw_un (by decide), sw_up_eq, sw_un (by decide), sw_up_eq, sw_ue]
        have g1 : (sw_up (sw_up (sw_up τ3 37 24 0) 37 28 0) 37 0 0) 37 1 = nI Q := by rw [sw_up_eq, sw_un (by decide), sw_up_eq, sw_un (by decide), sw_up_eq, sw_un (by decide), C2 37 (by decide) (by decide) (by decide) (by decide) (by decide), sw_up_eq, sw_ue]
        have h38 : ∀ c : Nat, c ≠ 37 → (sw_up (sw_up (sw_up τ3 37 24 0) 37 28 0) 37 0 0) c = τ3 c := fun c q => by rw [sw_up_ne q, sw_up_ne q, sw_up_ne q]
        have f0 : (sw_up (sw_up τb 26 0 0) 30 0 0) 0 = upd (σ 0) 13 0 := by rw [sw_up_ne (by decide), sw_up_ne (by decide), b2 0 (by decide) (by decide) (by decide) (by decide), FA 0 (by decide) (by decide) (by decide) (by decide), sw_up_eq]
        have f30 : (sw_up (sw_up τb 26 0 0) 30 0 0) 30 0 = 0 := by rw [sw_up_eq, sw_ue]
        have f26 : (sw_up (sw_up τb 26 0 0) 30 0 0) 26 0 = 0 := by rw [sw_up_ne (by decide), sw_up_eq, sw_ue]
        have f5 : ∀ c : Nat, c ≠ 26 → c ≠ 30 → (sw_up (sw_up τb 26 0 0) 30 0 0) c = τb c := fun c q1 q2 => by rw [sw_up_ne q2, sw_up_ne q1]
        unfold sw_Rel
        rw [g0, g28, g24, g1, h38 38, h38 39, h38 40, h38 41, h38 42, g37 12, g37 16, g37 17, g37 18, g37 19, g37 45, g 5, g 6, g 7, g 8, g 17, g 18, g 19, g 20, g 46, g 47, g 48, g 21, g 26, g 27, g 28, g 29, g 51, g 52, g 53, g 30, g 31, g 32, g 54, g 55, g 2, g 3, g 4, g 59, g 60, g 61, g 0, f0, f30, f26, t5, f5 6, f5 7, f5 8, a1 17, a1 18, a1 19, a1 20, a1 46, a1 47, a1 48, a1 21, a1 27, a1 28, a1 29, a1 51, a1 52, a1 53, a1 31, a1 32, a1 54, a1 55, a1 2, a1 3, a1 4, a1 59, a1 60, a1 61, sw_ue, sw_un (show 12 ≠ 13 by decide)]
        · refine ⟨⟨rfl, Q, hQ, rfl, fun t ht => ?_⟩, hB, hH, ⟨rfl, 0, Nat.zero_le _, rfl, fun i hi => by omega⟩, ⟨rfl, 0, Nat.zero_le _, rfl, fun i hi => by omega⟩, hS, ⟨rfl, hZ2⟩⟩
          obtain ⟨w1, w2, w3, w4, w5⟩ := C3 t ht
          obtain ⟨v1, v2, v3, v4, v5, v6⟩ := htd t ht
          have p43 : (sw_up ρ2 37 1 (nI Q)) 43 = ρ2 43 := sw_up_ne (by decide)
          have p44 : (sw_up ρ2 37 1 (nI Q)) 44 = ρ2 44 := sw_up_ne (by decide)
          have p45 : (sw_up ρ2 37 1 (nI Q)) 45 = ρ2 45 := sw_up_ne (by decide)
          have z6 : τb 6 t = τ' 10 t := b4 t (by omega)
          have z7 : τb 7 t = τ' 11 t := b5 t (by omega)
          have z80 : τb 8 (3 * t) = τ' 12 (3 * t) := b6 _ (by omega)
          have z81 : τb 8 (3 * t + 1) = τ' 12 (3 * t + 1) := b6 _ (by omega)
          have z82 : τb 8 (3 * t + 2) = τ' 12 (3 * t + 2) := b6 _ (by omega)
          rw [w1, w2, w3, w4, w5, p43, p44, p45, z6, z7, z80, z81, z82]
          exact ⟨⟨v1, v2, v3, v4, v5⟩, v6⟩
        all_goals decide
    · obtain ⟨r2, τ2, ρ2, X2, Y2, -, FS, -, hno⟩ := run τ' (by rw [FA 61 (by decide) (by decide) (by decide) (by decide), sw_up_ne (by decide)])
      rw [X1] at X2
      obtain ⟨rfl, rfl⟩ : r = r2 ∧ τ' = τ2 := by injection X2 with q; injection q with q1 q2; exact ⟨q1, q2⟩
      rw [if_neg hr] at Y2
      have a1 : ∀ c : Nat, c ≠ 0 → c ≠ 9 → c ≠ 10 → c ≠ 11 → c ≠ 12 → τ' c = σ c := fun c q0 q5 q6 q7 q8 => by rw [FA c q5 q6 q7 q8, sw_up_ne q0]
      refine ⟨-100 - r, τ', sw_up ρ2 37 0 0, ?_, ?_, ?_⟩
      · rw [fX9_saw, X, sw_bs, if_pos rfl, X1, sw_bs, if_neg hr]
      · rw [fX10_saw, Y _ (a1 59 (by decide) (by decide) (by decide) (by decide) (by decide)) (a1 60 (by decide) (by decide) (by decide) (by decide) (by decide)), sw_bs, if_pos (by decide), ix, Y2, sw_bs, if_pos rfl, sw_mref, hno hr]
      · have g : ∀ c : Nat, c ≠ 0 → c ≠ 9 → c ≠ 10 → c ≠ 11 → c ≠ 12 → c ≠ 37 → c ≠ 43 → c ≠ 44 → c ≠ 45 → (sw_up ρ2 37 0 0) c = σ c := fun c p0 p1 p2 p3 p4 q0 q1 q2 q3 => by
          rw [sw_up_ne q0, FS.1 c q0 q1 q2 q3, sw_up_ne q0, sw_up_ne q0, a1 c p0 p1 p2 p3 p4]
        have g0 : (sw_up ρ2 37 0 0) 0 = upd (σ 0) 13 0 := by
          rw [sw_up_ne (by decide), FS.1 0 (by decide) (by decide) (by decide) (by decide), sw_up_ne (by decide), sw_up_ne (by decide), FA 0 (by decide) (by decide) (by decide) (by decide), sw_up_eq]
        have g37 : ∀ k : Nat, k ≠ 0 → k ≠ 7 → k ≠ 8 → (sw_up ρ2 37 0 0) 37 k = σ 37 k := fun k q0 q2 q3 => by
          rw [sw_up_eq, sw_un q0, FS.2 k q2 q3, sw_up_eq, sw_un q3, sw_up_eq, sw_un q2, a1 37 (by decide) (by decide) (by decide) (by decide) (by decide)]
        have g370 : (sw_up ρ2 37 0 0) 37 0 = 0 := by rw [sw_up_eq, sw_ue]
        unfold sw_Rel
        rw [g0, g370, sw_ue, sw_un (show 12 ≠ 13 by decide), g37 1, g37 12, g37 16, g37 17, g37 18, g37 19, g37 24, g37 28, g37 45, g 5, g 6, g 7, g 8, g 38, g 39, g 40, g 41, g 42, g 17, g 18, g 19, g 20, g 46, g 47, g 48, g 21, g 26, g 27, g 28, g 29, g 51, g 52, g 53, g 30, g 31, g 32, g 54, g 55, g 2, g 3, g 4, g 59, g 60, g 61]
        · exact ⟨hT, hB, hH, hFl, hRd, hS, ⟨rfl, hZ2⟩⟩
        all_goals decide
