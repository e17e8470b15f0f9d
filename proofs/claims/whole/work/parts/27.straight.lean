/-! The straightest. -/
def sw_Fr2 (σ τ : sw_St) : Prop := ∀ c : Nat, c ≠ 22 → c ≠ 23 → c ≠ 24 → c ≠ 25 → τ c = σ c
def sw_of (σ : sw_St) (N L la : Nat) (le st : Int32) : Int32 := (sw_cu (sw_ps (sw_X6 σ 5) N) (σ 18) (σ 19) le st la (σ 21 3) (sw_Sn σ N L)).2.2
theorem sw_cu_pos (pu : Int32) (hd gr : Nat → Int32) (le st : Int32) (la : Nat) (ra : Int32) : ∀ n : Nat, 0 ≤ (sw_cu pu hd gr le st la ra n).2.2 := by
  intro n
  induction n with
  | zero => exact (by decide : (0 : Int32) ≤ 0)
  | succ n ih =>
    rw [sw_cu]
    exact sw_mx_pos ih
theorem sw_of_pos (σ : sw_St) (N L la : Nat) (le st : Int32) : 0 ≤ sw_of σ N L la le st := sw_cu_pos _ _ _ _ _ _ _ _
theorem sw_Rel_x2 {σ τ : sw_St} (h : sw_Fr2 σ τ) (hR : sw_Rel σ) : sw_Rel τ := by
  have h' : sw_Fr σ (fun c => if c = 22 then σ 22 else τ c) := by
    intro c a1 a2 a3
    by_cases e : c = 22
    · subst e; rfl
    · show (if c = 22 then σ 22 else τ c) = σ c
      rw [if_neg e]
      exact h c e a1 a2 a3
  have := sw_Rel_x h' hR
  simpa [sw_Rel] using this
theorem sw_become3 (σ : sw_St) : ∃ τ : sw_St, fX3_become 22 21 σ = some ((), τ) ∧ (∀ c : Nat, c ≠ 22 → τ c = σ c) ∧ τ 22 0 = σ 21 0 ∧ τ 22 1 = σ 21 1 ∧ τ 22 2 = σ 21 2 ∧ τ 22 3 = σ 21 3 := by
  refine ⟨_, rfl, fun c h => ?_, ?_, ?_, ?_, ?_⟩
  · rw [sw_up_ne h, sw_up_ne h, sw_up_ne h, sw_up_ne h]
  · simp [sw_up_eq, sw_un, sw_ue]
  · simp [sw_up_eq, sw_un, sw_ue, sw_up_ne]
  · simp [sw_up_eq, sw_un, sw_ue, sw_up_ne]
  · simp [sw_up_eq, sw_ue, sw_up_ne]
theorem sw_goH {σ τ : sw_St} (hF : sw_Fr2 σ τ) (hR : sw_Rel σ) {N L la : Nat} (hN : N ≤ 8) (hn : σ 5 0 = nI N) (hL : L ≤ 24) (hl : σ 17 0 = nI L) (hla : la ≤ 5) (h2 : τ 22 2 = nI la) (h3 : τ 22 3 = σ 21 3) : ∃ τ' : sw_St, fX1_go 5 22 τ = some ((), τ') ∧ sw_Fr2 σ τ' ∧ τ' 23 2 = sw_of σ N L la (τ 22 0) (τ 22 1) := by
  obtain ⟨-, ⟨-, L', hL', hl', hB⟩, -⟩ := hR
  have e : L' = L := (nI_eq (by omega) (by omega)).mp (hl'.symm.trans hl)
  subst e
  have f := fun (c : Nat) (a : c ≠ 22) (a1 : c ≠ 23) (a2 : c ≠ 24) (a3 : c ≠ 25) => hF c a a1 a2 a3
  have f18 := f 18 (by decide) (by decide) (by decide) (by decide)
  have f19 := f 19 (by decide) (by decide) (by decide) (by decide)
  have f20 := f 20 (by decide) (by decide) (by decide) (by decide)
  have hX : sw_X6 τ 5 = sw_X6 σ 5 := by
    funext k
    show (τ 6 k, τ 7 k, τ 8 (3 * k), τ 8 (3 * k + 1), τ 8 (3 * k + 2)) = (σ 6 k, σ 7 k, σ 8 (3 * k), σ 8 (3 * k + 1), σ 8 (3 * k + 2))
    rw [f 6 (by decide) (by decide) (by decide) (by decide), f 7 (by decide) (by decide) (by decide) (by decide), f 8 (by decide) (by decide) (by decide) (by decide)]
  obtain ⟨τ', e1, hG, -, -, i2, -⟩ := sw_go (c := 5) (c1 := 22) (σ := τ) hN (by rw [f 5 (by decide) (by decide) (by decide) (by decide)]; exact hn) (by decide) hL (by rw [f 17 (by decide) (by decide) (by decide) (by decide)]; exact hl) (fun t ht => by rw [f18]; exact (hB t ht).2) hla h2 (by decide) (by decide)
  refine ⟨τ', e1, fun c a a1 a2 a3 => ?_, ?_⟩
  · rw [hG c a1 a2 a3]; exact hF c a a1 a2 a3
  · rw [i2, hX, f18, f19, f20, h3]
    rfl
theorem sw_offLean {σ τ : sw_St} (hF : sw_Fr2 σ τ) (hR : sw_Rel σ) {N L la : Nat} (hN : N ≤ 8) (hn : σ 5 0 = nI N) (hL : L ≤ 24) (hl : σ 17 0 = nI L) (hla : la ≤ 5) (ha : σ 21 2 = nI la) (a : Int32) : ∃ τ' : sw_St, fX9_offByLean a τ = some (sw_of σ N L la a (σ 21 1), τ') ∧ sw_Fr2 σ τ' := by
  obtain ⟨τ1, e1, f1, q0, q1, q2, q3⟩ := sw_become3 τ
  have f21 := hF 21 (by decide) (by decide) (by decide) (by decide)
  have hF1 : sw_Fr2 σ (sw_up τ1 22 0 a) := fun c a a1 a2 a3 => by rw [sw_up_ne a, f1 c a]; exact hF c a a1 a2 a3
  obtain ⟨τ', g1, g2, g3⟩ := sw_goH hF1 hR hN hn hL hl hla (by rw [sw_up_eq, sw_un (by decide), q2, f21]; exact ha) (by rw [sw_up_eq, sw_un (by decide), q3, f21])
  refine ⟨τ', ?_, g2⟩
  rw [fX9_offByLean, e1, sw_bs, sw_le, g1, sw_bs, g3, sw_up_eq, sw_ue, sw_un (by decide), q1, f21]
theorem sw_offSteers {σ τ : sw_St} (hF : sw_Fr2 σ τ) (hR : sw_Rel σ) {N L la : Nat} (hN : N ≤ 8) (hn : σ 5 0 = nI N) (hL : L ≤ 24) (hl : σ 17 0 = nI L) (hla : la ≤ 5) (ha : σ 21 2 = nI la) (a : Int32) : ∃ τ' : sw_St, fX9_offBySteers a τ = some (sw_of σ N L la (σ 21 0) a, τ') ∧ sw_Fr2 σ τ' := by
  obtain ⟨τ1, e1, f1, q0, q1, q2, q3⟩ := sw_become3 τ
  have f21 := hF 21 (by decide) (by decide) (by decide) (by decide)
  have hF1 : sw_Fr2 σ (sw_up τ1 22 1 a) := fun c a a1 a2 a3 => by rw [sw_up_ne a, f1 c a]; exact hF c a a1 a2 a3
  obtain ⟨τ', g1, g2, g3⟩ := sw_goH hF1 hR hN hn hL hl hla (by rw [sw_up_eq, sw_un (by decide), q2, f21]; exact ha) (by rw [sw_up_eq, sw_un (by decide), q3, f21])
  refine ⟨τ', ?_, g2⟩
  rw [fX9_offBySteers, e1, sw_bs, sw_le, g1, sw_bs, g3, sw_up_eq, sw_ue, sw_un (by decide), q0, f21]
/-- the first of the least, along a row of tries -/
def sw_bb (F : Int32 → Int32) (it : Nat → Int32) : Nat → Int32 × Int32
  | 0 => (it 0, F (it 0))
  | k + 1 => if (sw_bb F it k).2 ≤ F (it (k + 1)) then sw_bb F it k else (it (k + 1), F (it (k + 1)))
theorem sw_bb_2 (F : Int32 → Int32) (it : Nat → Int32) : ∀ k : Nat, F (sw_bb F it k).1 = (sw_bb F it k).2 := by
  intro k
  induction k with
  | zero => rfl
  | succ k ih =>
    rw [sw_bb]
    split
    · exact ih
    · rfl
def sw_sq (k : Nat) : Int32 := if k % 2 = 1 then -(nI ((k + 1) / 2)) else nI (k / 2)
theorem sw_sq_x : ∀ i : Nat, i < 10 → 1 ≤ i → (-1 : Int32) * nI i = sw_sq (2 * i - 1) ∧ (1 : Int32) * nI i = sw_sq (2 * i) := by decide +kernel
theorem sw_sq_m : ∀ k : Nat, k < 19 → ((nI k - nI k / 2 * 2 = 1) ↔ k % 2 = 1) ∧ (k % 2 = 1 → (-(nI k + 1)) / 2 = sw_sq k) ∧ (k % 2 ≠ 1 → nI k / 2 = sw_sq k) := by decide +kernel
theorem sw_xsteersL {σ : sw_St} (hR : sw_Rel σ) {N L la : Nat} (hN : N ≤ 8) (hn : σ 5 0 = nI N) (hL : L ≤ 24) (hl : σ 17 0 = nI L) (hla : la ≤ 5) (ha : σ 21 2 = nI la) : ∀ (n i : Nat) (τ : sw_St), 1 ≤ i → i ≤ 10 → 10 - i < n → sw_Fr2 σ τ → ∃ τ' : sw_St, fX9_straightestSteers_L10 n (sw_bb (sw_of σ N L la (σ 21 0)) nI (i - 1)).1 (sw_bb (sw_of σ N L la (σ 21 0)) nI (i - 1)).2 (nI i) τ = some ((sw_bb (sw_of σ N L la (σ 21 0)) nI 9).1, τ') ∧ sw_Fr2 σ τ' := by
  intro n
  induction n with
  | zero => intro i τ _ _ h; omega
  | succ n ih =>
    intro i τ h1 h10 hm hF
    unfold fX9_straightestSteers_L10
    by_cases e : i = 10
    · subst e
      exact ⟨τ, by rw [if_pos (show (9 : Int32) < nI 10 by decide)], hF⟩
    · obtain ⟨τ', e1, e2⟩ := sw_offSteers hF hR hN hn hL hl hla ha (nI i)
      obtain ⟨τ'', g1, g2⟩ := ih (i + 1) τ' (by omega) (by omega) (by omega) e2
      refine ⟨τ'', ?_, g2⟩
      rw [if_neg (show ¬ (9 : Int32) < nI i from nI_nlt (a := 9) (by omega) (by decide)), e1, sw_bs]
      obtain ⟨j, rfl⟩ : ∃ j, i = j + 1 := ⟨i - 1, by omega⟩
      rw [show j + 1 + 1 - 1 = j + 1 by omega, sw_bb] at g1
      rw [show j + 1 - 1 = j by omega]
      by_cases c : (sw_bb (sw_of σ N L la (σ 21 0)) nI j).2 ≤ sw_of σ N L la (σ 21 0) (nI (j + 1))
      · rw [if_pos c] at g1
        rw [if_pos c, fX9_straightestSteers_B34, nI_1]
        exact g1
      · rw [if_neg c] at g1
        rw [if_neg c, fX9_straightestSteers_B34, nI_1]
        exact g1
theorem sw_xleanL {σ : sw_St} (hR : sw_Rel σ) {N L la : Nat} (hN : N ≤ 8) (hn : σ 5 0 = nI N) (hL : L ≤ 24) (hl : σ 17 0 = nI L) (hla : la ≤ 5) (ha : σ 21 2 = nI la) : ∀ (n i : Nat) (τ : sw_St), 1 ≤ i → i ≤ 10 → 10 - i < n → sw_Fr2 σ τ → ∃ τ' : sw_St, fX9_straightestLean_L10 n (sw_bb (fun a => sw_of σ N L la a (σ 21 1)) sw_sq (2 * i - 2)).1 (sw_bb (fun a => sw_of σ N L la a (σ 21 1)) sw_sq (2 * i - 2)).2 (nI i) τ = some ((sw_bb (fun a => sw_of σ N L la a (σ 21 1)) sw_sq 18).1, τ') ∧ sw_Fr2 σ τ' := by
  intro n
  induction n with
  | zero => intro i τ _ _ h; omega
  | succ n ih =>
    intro i τ h1 h10 hm hF
    unfold fX9_straightestLean_L10
    by_cases e : i = 10
    · subst e
      exact ⟨τ, by rw [if_pos (show (9 : Int32) < nI 10 by decide)], hF⟩
    · have hb := sw_fuel_big
      obtain ⟨f, hf⟩ : ∃ f, sw_fuel = f + 3 := ⟨sw_fuel - 3, by omega⟩
      obtain ⟨s1, s2⟩ := sw_sq_x i (by omega) h1
      obtain ⟨τ1, e1, e2⟩ := sw_offLean hF hR hN hn hL hl hla ha (sw_sq (2 * i - 1))
      obtain ⟨τ2, g1, g2⟩ := sw_offLean e2 hR hN hn hL hl hla ha (sw_sq (2 * i))
      obtain ⟨τ3, k1, k2⟩ := ih (i + 1) τ2 (by omega) (by omega) (by omega) g2
      refine ⟨τ3, ?_, k2⟩
      rw [if_neg (show ¬ (9 : Int32) < nI i from nI_nlt (a := 9) (by omega) (by decide)), hf]
      rw [show 2 * (i + 1) - 2 = 2 * i by omega] at k1
      obtain ⟨j, hj⟩ : ∃ j, 2 * i = j + 2 := ⟨2 * i - 2, by omega⟩
      have b1 : sw_bb (fun a => sw_of σ N L la a (σ 21 1)) sw_sq (2 * i) = if (sw_bb (fun a => sw_of σ N L la a (σ 21 1)) sw_sq (2 * i - 1)).2 ≤ sw_of σ N L la (sw_sq (2 * i)) (σ 21 1) then sw_bb (fun a => sw_of σ N L la a (σ 21 1)) sw_sq (2 * i - 1) else (sw_sq (2 * i), sw_of σ N L la (sw_sq (2 * i)) (σ 21 1)) := by
        rw [hj, show j + 2 - 1 = j + 1 by omega]
        rfl
      have b2 : sw_bb (fun a => sw_of σ N L la a (σ 21 1)) sw_sq (2 * i - 1) = if (sw_bb (fun a => sw_of σ N L la a (σ 21 1)) sw_sq (2 * i - 2)).2 ≤ sw_of σ N L la (sw_sq (2 * i - 1)) (σ 21 1) then sw_bb (fun a => sw_of σ N L la a (σ 21 1)) sw_sq (2 * i - 2) else (sw_sq (2 * i - 1), sw_of σ N L la (sw_sq (2 * i - 1)) (σ 21 1)) := by
        rw [hj, show j + 2 - 1 = j + 1 by omega, show j + 2 - 2 = j by omega]
        rfl
      have last : ∀ (p : Int32 × Int32) (ρ : sw_St), fX9_straightestLean_L19 (fX9_straightestLean_L10 n) (f + 1) p.1 p.2 (nI i) 3 ρ = fX9_straightestLean_L10 n p.1 p.2 (nI (i + 1)) ρ := by
        intro p ρ
        unfold fX9_straightestLean_L19
        rw [if_pos (by decide), nI_1]
      have mid : ∀ (p : Int32 × Int32), fX9_straightestLean_L19 (fX9_straightestLean_L10 n) (f + 2) p.1 p.2 (nI i) 1 τ1 = fX9_straightestLean_L10 n (if p.2 ≤ sw_of σ N L la (sw_sq (2 * i)) (σ 21 1) then p else (sw_sq (2 * i), sw_of σ N L la (sw_sq (2 * i)) (σ 21 1))).1 (if p.2 ≤ sw_of σ N L la (sw_sq (2 * i)) (σ 21 1) then p else (sw_sq (2 * i), sw_of σ N L la (sw_sq (2 * i)) (σ 21 1))).2 (nI (i + 1)) τ2 := by
        intro p
        rw [fX9_straightestLean_L19, if_neg (by decide), s2, g1, sw_bs]
        by_cases c : p.2 ≤ sw_of σ N L la (sw_sq (2 * i)) (σ 21 1)
        · rw [if_pos c, if_pos c, fX9_straightestLean_B49, show (1 : Int32) + 2 = 3 from rfl, last]
        · rw [if_neg c, if_neg c, sw_le, fX9_straightestLean_B49, show (1 : Int32) + 2 = 3 from rfl]
          exact last (sw_sq (2 * i), sw_of σ N L la (sw_sq (2 * i)) (σ 21 1)) τ2
      rw [fX9_straightestLean_L19, if_neg (by decide), s1, e1, sw_bs]
      by_cases c : (sw_bb (fun a => sw_of σ N L la a (σ 21 1)) sw_sq (2 * i - 2)).2 ≤ sw_of σ N L la (sw_sq (2 * i - 1)) (σ 21 1)
      · rw [if_pos c] at b2
        rw [if_pos c, fX9_straightestLean_B49, show (-1 : Int32) + 2 = 1 from rfl, mid, ← b2, ← b1]
        exact k1
      · rw [if_neg c] at b2
        rw [if_neg c, sw_le, fX9_straightestLean_B49, show (-1 : Int32) + 2 = 1 from rfl]
        rw [show fX9_straightestLean_L19 (fX9_straightestLean_L10 n) (f + 2) (sw_sq (2 * i - 1)) (sw_of σ N L la (sw_sq (2 * i - 1)) (σ 21 1)) (nI i) 1 τ1 = _ from mid (sw_sq (2 * i - 1), sw_of σ N L la (sw_sq (2 * i - 1)) (σ 21 1)), ← b2, ← b1]
        exact k1
