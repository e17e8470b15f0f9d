theorem sw_fwL {σ : sw_St} {N L la F R : Nat} (hC : sw_Cn σ N L la F R) {P q : Nat} (hP : P ≤ 64) (hq : q ≤ 2) {K : Int32 → Int32 → sw_St → Option (Int32 × sw_St)} : ∀ (k n v : Nat) (τ : sw_St), v + k = P → k < n → sw_FrX σ τ → ∃ τ' : sw_St, sw_FrX σ τ' ∧ fX9_firstOfFewest_L19 K n (nI P) (nI q) (nI v) τ = match ((List.range' v k).filter (fun x => sw_pcn x == q)).find? (sw_ft σ N L la F R) with
    | some w => some (nI w, τ')
    | none => K (nI P) (nI q + 1) τ' := by
  intro k
  induction k with
  | zero =>
    intro n v τ hv hn hF
    obtain ⟨n, rfl⟩ : ∃ m, n = m + 1 := ⟨n - 1, by omega⟩
    refine ⟨τ, hF, ?_⟩
    rw [fX9_firstOfFewest_L19, if_pos (nI_le (by omega) (by omega))]
    rfl
  | succ k ih =>
    intro n v τ hv hn hF
    obtain ⟨n, rfl⟩ : ∃ m, n = m + 1 := ⟨n - 1, by omega⟩
    have p6 := sw_pc6 v
    rw [fX9_firstOfFewest_L19, if_neg (nI_ge (show v < P by omega) (by omega)), sw_bc (by omega), sw_bs, List.range'_succ]
    by_cases s : sw_pcn v = q
    · obtain ⟨τ1, g1, g2⟩ := sw_xfit hC (show v < 64 by omega) hF
      rw [if_pos (by rw [s]), g1, sw_bs, List.filter_cons_of_pos (by simp [s])]
      by_cases f : sw_ft σ N L la F R v = true
      · rw [if_pos f, if_neg (by decide), List.find?_cons_of_pos f]
        exact ⟨τ1, g2, rfl⟩
      · rw [if_neg f, if_pos rfl, List.find?_cons_of_neg f, fX9_firstOfFewest_B42, nI_1]
        exact ih n (v + 1) τ1 (by omega) (by omega) g2
    · rw [if_neg (fun z => s ((nI_eq (by omega) (by omega)).mp z)), List.filter_cons_of_neg (by simp [s]), fX9_firstOfFewest_B42, nI_1]
      exact ih n (v + 1) τ (by omega) (by omega) hF
def sw_lq (P q : Nat) : List Nat := (List.range' 0 P).filter (fun x => sw_pcn x == q)
theorem sw_fw {σ : sw_St} {N L la F R : Nat} (hC : sw_Cn σ N L la F R) {P : Nat} (hP : P ≤ 64) {τ : sw_St} (hF : sw_FrX σ τ) : ∃ τ' : sw_St, sw_FrX σ τ' ∧ fX9_firstOfFewest_L12 sw_fuel (nI P) 0 τ = some (match (sw_lq P 0 ++ (sw_lq P 1 ++ sw_lq P 2)).find? (sw_ft σ N L la F R) with
    | some w => nI w
    | none => -9, τ') := by
  have hb := sw_fuel_big
  obtain ⟨M, hM⟩ : ∃ M, sw_fuel = M + 4 := ⟨sw_fuel - 4, by omega⟩
  obtain ⟨τ1, a1, a2⟩ := sw_fwL hC (q := 0) hP (by decide) (K := fX9_firstOfFewest_L12 (M + 3)) P sw_fuel 0 τ (by omega) (by omega) hF
  obtain ⟨τ2, b1, b2⟩ := sw_fwL hC (q := 1) hP (by decide) (K := fX9_firstOfFewest_L12 (M + 2)) P sw_fuel 0 τ1 (by omega) (by omega) a1
  obtain ⟨τ3, c1, c2⟩ := sw_fwL hC (q := 2) hP (by decide) (K := fX9_firstOfFewest_L12 (M + 1)) P sw_fuel 0 τ2 (by omega) (by omega) b1
  have e1 : fX9_firstOfFewest_L12 (M + 4) (nI P) 0 τ = fX9_firstOfFewest_L19 (fX9_firstOfFewest_L12 (M + 3)) sw_fuel (nI P) 0 0 τ := by rw [fX9_firstOfFewest_L12, if_neg (by decide)]
  have e2 : fX9_firstOfFewest_L12 (M + 3) (nI P) (nI 0 + 1) τ1 = fX9_firstOfFewest_L19 (fX9_firstOfFewest_L12 (M + 2)) sw_fuel (nI P) (nI 1) (nI 0) τ1 := by rw [fX9_firstOfFewest_L12, if_neg (by decide)]; rfl
  have e3 : fX9_firstOfFewest_L12 (M + 2) (nI P) (nI 1 + 1) τ2 = fX9_firstOfFewest_L19 (fX9_firstOfFewest_L12 (M + 1)) sw_fuel (nI P) (nI 2) (nI 0) τ2 := by rw [fX9_firstOfFewest_L12, if_neg (by decide)]; rfl
  have e4 : fX9_firstOfFewest_L12 (M + 1) (nI P) (nI 2 + 1) τ3 = some (-9, τ3) := by rw [fX9_firstOfFewest_L12, if_pos (by decide)]
  have l : ∀ q : Nat, (List.range' 0 P).filter (fun x => sw_pcn x == q) = sw_lq P q := fun _ => rfl
  rw [l] at a2 b2 c2
  rw [nI_0] at a2
  rw [hM, e1, a2, List.find?_append, List.find?_append]
  cases h0 : (sw_lq P 0).find? (sw_ft σ N L la F R) with
  | some w => exact ⟨τ1, a1, rfl⟩
  | none =>
    rw [nI_0] at e2
    show ∃ τ' : sw_St, sw_FrX σ τ' ∧ fX9_firstOfFewest_L12 (M + 3) (nI P) (0 + 1) τ1 = _
    rw [e2]
    rw [nI_0] at b2
    rw [b2]
    cases h1 : (sw_lq P 1).find? (sw_ft σ N L la F R) with
    | some w => exact ⟨τ2, b1, rfl⟩
    | none =>
      show ∃ τ' : sw_St, sw_FrX σ τ' ∧ fX9_firstOfFewest_L12 (M + 2) (nI P) (nI 1 + 1) τ2 = _
      rw [e3, c2]
      cases h2 : (sw_lq P 2).find? (sw_ft σ N L la F R) with
      | some w => exact ⟨τ3, c1, rfl⟩
      | none =>
        show ∃ τ' : sw_St, sw_FrX σ τ' ∧ fX9_firstOfFewest_L12 (M + 1) (nI P) (nI 2 + 1) τ3 = _
        rw [e4]
        exact ⟨τ3, c1, rfl⟩
/-- the reference's order -/
def sw_sg (F : Nat) : List Nat := (List.range F).map (fun j => 2 ^ j)
def sw_pj (j i : Nat) : List Nat := (List.range i).map (fun x => 2 ^ x + 2 ^ j)
def sw_prs : Nat → List Nat
  | 0 => []
  | j + 1 => sw_prs j ++ sw_pj j j
def sw_ord (F : Nat) : List Nat := [0] ++ sw_sg F ++ sw_prs F
theorem sw_ordA : ∀ F : Nat, F < 7 → sw_lq (2 ^ F) 0 ++ (sw_lq (2 ^ F) 1 ++ sw_lq (2 ^ F) 2) = sw_ord F := by decide +kernel
theorem sw_ordB : ∀ F : Nat, F < 7 → ((List.range (2 ^ F)).filter (sw_sel 0)).isPerm (sw_ord F) = true := by decide +kernel
theorem sw_ordC : ∀ F : Nat, F < 7 → ∀ j : Nat, j < F → ((List.range (2 ^ F)).filter (sw_sel (2 ^ j))).isPerm ((sw_ord F).filter (fun v => v.testBit j)) = true := by decide +kernel
/-- what the reference holds when it has tried the masks of a list -/
def sw_JL (ft : Nat → Bool) (P : List Nat) (τ : sw_St) : Prop := τ 37 31 = nI (P.countP ft) ∧ ((∃ w : Nat, w < 64 ∧ P.find? ft = some w ∧ τ 37 32 = nI w) ∨ (P.find? ft = none ∧ τ 37 32 = -9)) ∧ ∀ j : Nat, j < 6 → τ 56 j = nI ((P.filter (fun v => v.testBit j)).countP ft)
theorem sw_JL_no {ft : Nat → Bool} {P : List Nat} {τ τ' : sw_St} {v : Nat} (h : sw_JL ft P τ) (hv : ¬ ft v = true) (h1 : τ' 37 31 = τ 37 31) (h2 : τ' 37 32 = τ 37 32) (h3 : τ' 56 = τ 56) : sw_JL ft (P ++ [v]) τ' := by
  obtain ⟨a, b, c⟩ := h
  have fn : List.find? ft [v] = none := by rw [List.find?_cons_of_neg hv]; rfl
  refine ⟨?_, ?_, fun j hj => ?_⟩
  · rw [h1, a, List.countP_append, List.countP_singleton, if_neg hv, Nat.add_zero]
  · rw [h2, List.find?_append, fn]
    rcases b with ⟨w, b1, b2, b3⟩ | ⟨b1, b2⟩
    · exact Or.inl ⟨w, b1, by rw [b2]; rfl, b3⟩
    · exact Or.inr ⟨by rw [b1]; rfl, b2⟩
  · rw [h3, c j hj, List.filter_append, List.countP_append]
    by_cases t : v.testBit j = true
    · rw [List.filter_cons_of_pos (by simpa using t), List.filter_nil, List.countP_singleton, if_neg hv, Nat.add_zero]
    · rw [List.filter_cons_of_neg (by simpa using t), List.filter_nil, List.countP_nil, Nat.add_zero]
theorem sw_JL_yes {ft : Nat → Bool} {P : List Nat} {τ τ' : sw_St} {v : Nat} (hv64 : v < 64) (h : sw_JL ft P τ) (hv : ft v = true) (h1 : τ' 37 31 = τ 37 31 + 1) (h2 : τ' 37 32 = if 0 ≤ τ 37 32 then τ 37 32 else nI v) (h3 : ∀ j : Nat, j < 6 → τ' 56 j = if v.testBit j = true then τ 56 j + 1 else τ 56 j) : sw_JL ft (P ++ [v]) τ' := by
  obtain ⟨a, b, c⟩ := h
  have fn : List.find? ft [v] = some v := List.find?_cons_of_pos hv
  refine ⟨?_, ?_, fun j hj => ?_⟩
  · rw [h1, a, List.countP_append, List.countP_singleton, if_pos hv, nI_1]
  · rw [h2, List.find?_append, fn]
    rcases b with ⟨w, b1, b2, b3⟩ | ⟨b1, b2⟩
    · rw [b3, if_pos (nI_pos' (by omega))]
      exact Or.inl ⟨w, b1, by rw [b2]; rfl, rfl⟩
    · rw [b2, if_neg (by decide)]
      exact Or.inl ⟨v, hv64, by rw [b1]; rfl, rfl⟩
  · rw [h3 j hj, c j hj, List.filter_append, List.countP_append]
    by_cases t : v.testBit j = true
    · rw [if_pos t, List.filter_cons_of_pos (by simpa using t), List.filter_nil, List.countP_singleton, if_pos hv, nI_1]
    · rw [if_neg t, List.filter_cons_of_neg (by simpa using t), List.filter_nil, List.countP_nil, Nat.add_zero]
theorem sw_JL_ge {ft : Nat → Bool} {P : List Nat} {τ : sw_St} (h : sw_JL ft P τ) : (0 ≤ τ 37 32 ↔ (P.find? ft).isSome = true) ∧ (τ 37 32 < 0 ↔ ¬ 0 ≤ τ 37 32) := by
  obtain ⟨-, b, -⟩ := h
  rcases b with ⟨w, b1, b2, b3⟩ | ⟨b1, b2⟩
  · rw [b3, b2]
    have p := nI_pos' (show w < 2 ^ 31 by omega)
    have p' := nI_pos (show w < 2 ^ 31 by omega)
    exact ⟨⟨fun _ => rfl, fun _ => p⟩, ⟨fun q => absurd q p', fun q => absurd p q⟩⟩
  · rw [b2, b1]
    exact ⟨⟨fun q => absurd q (by decide), fun q => absurd q (by decide)⟩, ⟨fun _ => by decide, fun _ => by decide⟩⟩
/-- the reference's state between two tries -/
def sw_ZS (σ τ : sw_St) : Prop := sw_FrZ σ τ ∧ τ 40 = σ 40 ∧ τ 41 = σ 41 ∧ τ 42 = σ 42
theorem sw_ZS_S {σ : sw_St} {N L la F R : Nat} (hC : sw_Cn σ N L la F R) {τ : sw_St} (h : sw_ZS σ τ) : ∀ k : Nat, k < N → sw_M6 τ k = sw_X6 σ 5 k := by
  intro k hk
  rw [← (sw_rel_saw hC.1 hC.2.1.2.2 hC.2.1.2.1).2.2 k hk]
  unfold sw_M6
  obtain ⟨h1, h2, h3, h4⟩ := h
  rw [h1.1 38 (by decide) (by decide) (by decide) (by decide) (by decide) (by decide) (by decide) (by decide) (by decide), h1.1 39 (by decide) (by decide) (by decide) (by decide) (by decide) (by decide) (by decide) (by decide) (by decide), h2, h3, h4]
theorem sw_ZS_M {σ τ τ' : sw_St} (h : sw_ZS σ τ) (h' : sw_FrM τ τ') : sw_ZS σ τ' := by
  obtain ⟨h1, h2, h3, h4⟩ := h
  exact ⟨sw_FrZ_cut h1 h', (h'.1 40 (by decide) (by decide) (by decide)).trans h2, (h'.1 41 (by decide) (by decide) (by decide)).trans h3, (h'.1 42 (by decide) (by decide) (by decide)).trans h4⟩
theorem sw_ZS_up {σ τ : sw_St} {c k : Nat} {x : Int32} (h : sw_ZS σ τ) (hc : (c = 37 ∧ 31 ≤ k ∧ k ≤ 37) ∨ c = 56 ∨ c = 57) : sw_ZS σ (sw_up τ c k x) := by
  obtain ⟨⟨h0, h1⟩, h2, h3, h4⟩ := h
  refine ⟨⟨fun d hd a1 a2 a3 a4 a5 a6 a7 a8 => ?_, fun j hj => ?_⟩, ?_, ?_, ?_⟩
  · rw [sw_up_ne (by omega)]; exact h0 d hd a1 a2 a3 a4 a5 a6 a7 a8
  · rcases hc with ⟨rfl, q1, q2⟩ | rfl | rfl
    · rw [sw_up_eq, sw_un (by omega)]; exact h1 j hj
    · rw [sw_up_ne (by decide)]; exact h1 j hj
    · rw [sw_up_ne (by decide)]; exact h1 j hj
  · rw [sw_up_ne (by omega)]; exact h2
  · rw [sw_up_ne (by omega)]; exact h3
  · rw [sw_up_ne (by omega)]; exact h4
theorem sw_JL_M {ft : Nat → Bool} {P : List Nat} {τ τ' : sw_St} (h : sw_JL ft P τ) (h' : sw_FrM τ τ') : sw_JL ft P τ' := by
  unfold sw_JL
  rw [h'.2 31 (by decide) (by decide), h'.2 32 (by decide) (by decide), h'.1 56 (by decide) (by decide) (by decide)]
  exact h
