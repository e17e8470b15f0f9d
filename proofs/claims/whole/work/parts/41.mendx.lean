/-! The class's search for the least mending. -/
def sw_gS (σ : sw_St) (N L la : Nat) (m : Int32) (S : sw_Sw) : Bool := decide (sw_sk σ N L S = L) && !decide (m < (sw_zk σ N L la S).2.2)
theorem sw_gS_congr {σ : sw_St} {N L la : Nat} {m : Int32} {S S' : sw_Sw} (h : ∀ k : Nat, k < N → S k = S' k) : sw_gS σ N L la m S = sw_gS σ N L la m S' := by
  have e := sw_sk_congr (σ := σ) (L := L) (la := la) h
  unfold sw_gS
  rw [e.1, e.2]
def sw_gt (σ : sw_St) (N L la : Nat) (m : Int32) (c : Nat × Nat × Nat) : Bool := if c.1 = 0 then sw_gS σ N L la m (sw_X6 σ 5) else if c.1 = 1 then sw_my (sw_X6 σ 5) c.2.1 && sw_gS σ N L la m (sw_ac (sw_X6 σ 5) c.2.1) else sw_my (sw_X6 σ 5) c.2.1 && (sw_my (sw_ac (sw_X6 σ 5) c.2.1) c.2.2 && sw_gS σ N L la m (sw_ac (sw_ac (sw_X6 σ 5) c.2.1) c.2.2))
def sw_told (a : Nat) : Int32 := nI (10 * (a / 4) + a % 4)
def sw_r0 (r : Option (Nat × Nat × Nat)) : Int32 := match r with
  | none => -9
  | some c => nI c.1
def sw_r1 (r : Option (Nat × Nat × Nat)) : Int32 := match r with
  | none => -9
  | some c => nI (sw_cc c)
def sw_r2 (r : Option (Nat × Nat × Nat)) : Int32 := match r with
  | none => -9
  | some c => if c.1 = 0 then -9 else sw_told c.2.1
def sw_r3r (r : Option (Nat × Nat × Nat)) : Int32 := match r with
  | none => -9
  | some c => if c.1 = 2 then sw_told c.2.2 else -9
def sw_rX (r : Option (Nat × Nat × Nat)) (τ : sw_St) : Prop := τ 33 0 = sw_r0 r ∧ τ 33 1 = sw_r1 r ∧ τ 33 2 = sw_r2 r ∧ τ 33 3 = sw_r3r r
theorem sw_rX_k {r : Option (Nat × Nat × Nat)} {τ τ' : sw_St} (h : sw_rX r τ) (e : τ' 33 = τ 33) : sw_rX r τ' := by
  unfold sw_rX; rw [e]; exact h
theorem sw_ne9 {e : Nat} (h : e < 2 ^ 31) : ¬ nI e = -9 := fun q => by
  have := nI_pos' h
  rw [q] at this
  exact absurd this (by decide)
theorem sw_gse {σ : sw_St} {N L la F R : Nat} (hC : sw_Cn σ N L la F R) {m : Int32} {τ : sw_St} {c : Nat} {S : sw_Sw} (hc : c = 5 ∨ c = 9 ∨ c = 13) (hF : sw_FrX σ τ) (hn : τ c 0 = nI N) (hS : ∀ k : Nat, k < N → sw_X6 τ c k = S k) : ∃ τ' : sw_St, fX9_goesStraightEnough c m τ = some (if sw_gS σ N L la m S = true then 1 else 0, τ') ∧ sw_Fr τ τ' := by
  obtain ⟨τ', g1, gF, -, gp, g2, -⟩ := sw_goX hC hc hF hn hS
  have le : sw_sk σ N L S ≤ L := sw_ns_le _ _ _
  have hL := hC.2.2.1.1
  refine ⟨τ', ?_, gF⟩
  rw [fX9_goesStraightEnough, g1, sw_bs, gp, g2]
  by_cases q : sw_sk σ N L S < L
  · have : ¬ sw_gS σ N L la m S = true := by
      unfold sw_gS; simp only [Bool.and_eq_true, decide_eq_true_eq]; omega
    rw [if_pos q, if_neg (sw_ne9 (by omega)), if_neg this]
  · have e : sw_sk σ N L S = L := by omega
    rw [if_neg q, if_pos rfl]
    by_cases z : m < (sw_zk σ N L la S).2.2
    · rw [if_pos z, if_neg (by unfold sw_gS; simp [z])]
    · rw [if_neg z, if_pos (by unfold sw_gS; simp [z, e])]
theorem sw_d4 {a : Nat} (h : a < 2 ^ 31) : nI a / 4 = nI (a / 4) := pk_div (d := 4) h (by decide) (by decide)
theorem sw_m4 {a : Nat} (h : a < 2 ^ 31) : nI a - nI a / 4 * 4 = nI (a % 4) := pk_rem (d := 4) h (by decide) (by decide)
theorem sw_mby {c N a : Nat} {τ : sw_St} {S : sw_Sw} (hN : N ≤ 8) (hc : τ c 0 = nI N) (ha : a < 4 * N) (hS : ∀ k : Nat, k < N → sw_X6 τ c k = S k) (hv : sw_okS S N) : fX6_mendBy c (nI (a / 4)) (nI (a % 4)) τ = if sw_my S a = true then some (1, sw_actx τ c (a % 4) (a / 4)) else some (0, τ) := by
  have hk : a / 4 < N := by omega
  have t := hv _ hk
  have e := hS _ hk
  rw [← e] at t
  rw [sw_mendBy hN hc hk (by omega) t]
  unfold sw_my
  rw [← e]
  rfl
theorem sw_cst {a : Nat} (h : a < 2 ^ 31) (τ : sw_St) : fX4_costOf (nI a) τ = some (nI (sw_ca a), τ) := by
  rw [fX4_costOf, sw_m4 h]
  unfold sw_ca
  rcases (show a % 4 = 0 ∨ a % 4 = 1 ∨ a % 4 = 2 ∨ a % 4 = 3 by omega) with e | e | e | e <;> rw [e] <;> rfl
theorem sw_tld {a : Nat} (h : a < 2 ^ 31) (τ : sw_St) : fX4_toldNumber (nI a) τ = some (sw_told a, τ) := by
  rw [fX4_toldNumber, sw_m4 h, sw_d4 h, show (10 : Int32) * nI (a / 4) = nI (10 * (a / 4)) from pk_mul 10 _, nI_add]
  rfl
theorem sw_chpx {r : Option (Nat × Nat × Nat)} {x : Nat} {τ : sw_St} (h : sw_rX r τ) (hx : x < 2 ^ 31) : fX4_isCheaper (nI x) τ = some (if sw_chp r x = true then 1 else 0, τ) := by
  rw [fX4_isCheaper, h.2.1]
  cases r with
  | none => rfl
  | some c =>
    have b := sw_cc_b c
    show (if nI (sw_cc c) = -9 then some (1, τ) else if nI (sw_cc c) ≤ nI x then some (0, τ) else some (1, τ)) = _
    rw [if_neg (sw_ne9 (by omega))]
    by_cases q : x < sw_cc c
    · rw [if_neg (nI_ge q (by omega)), if_pos (by simp [sw_chp, q])]
    · rw [if_pos (nI_le (by omega) (by omega)), if_neg (by simp [sw_chp, q])]
theorem sw_keep1 {r : Option (Nat × Nat × Nat)} {a : Nat} {τ : sw_St} (h : sw_rX r τ) (h3 : sw_r3r r = -9) (ha : a < 2 ^ 31) : ∃ τ' : sw_St, fX4_keepOneAct (nI a) τ = some ((), τ') ∧ (∀ c : Nat, c ≠ 33 → τ' c = τ c) ∧ sw_rX (some (1, a, 0)) τ' := by
  refine ⟨sw_up (sw_up (sw_up τ 33 0 1) 33 1 (nI (sw_ca a))) 33 2 (sw_told a), ?_, fun c hc => ?_, ?_, ?_, ?_, ?_⟩
  · rw [fX4_keepOneAct, sw_le, sw_cst ha, sw_bs, sw_le, sw_tld ha, sw_bs, sw_le]
  · rw [sw_up_ne hc, sw_up_ne hc, sw_up_ne hc]
  · rw [sw_up_eq, sw_un (by decide), sw_up_eq, sw_un (by decide), sw_up_eq, sw_ue]; rfl
  · rw [sw_up_eq, sw_un (by decide), sw_up_eq, sw_ue]; rfl
  · rw [sw_up_eq, sw_ue]; rfl
  · rw [sw_up_eq, sw_un (by decide), sw_up_eq, sw_un (by decide), sw_up_eq, sw_un (by decide), h.2.2.2, h3]; rfl
theorem sw_keep2 {a b : Nat} {τ : sw_St} (ha : a < 2 ^ 31) (hb : b < 2 ^ 31) : ∃ τ' : sw_St, fX4_keepTwoActs (nI a) (nI b) τ = some ((), τ') ∧ (∀ c : Nat, c ≠ 33 → τ' c = τ c) ∧ sw_rX (some (2, a, b)) τ' := by
  refine ⟨sw_up (sw_up (sw_up (sw_up τ 33 0 2) 33 1 (nI (sw_ca a) + nI (sw_ca b))) 33 2 (sw_told a)) 33 3 (sw_told b), ?_, fun c hc => ?_, ?_, ?_, ?_, ?_⟩
  · rw [fX4_keepTwoActs, sw_le, sw_cst ha, sw_bs, sw_cst hb, sw_bs, sw_le, sw_tld ha, sw_bs, sw_le, sw_tld hb, sw_bs, sw_le]
  · rw [sw_up_ne hc, sw_up_ne hc, sw_up_ne hc, sw_up_ne hc]
  · rw [sw_up_eq, sw_un (by decide), sw_up_eq, sw_un (by decide), sw_up_eq, sw_un (by decide), sw_up_eq, sw_ue]; rfl
  · rw [sw_up_eq, sw_un (by decide), sw_up_eq, sw_un (by decide), sw_up_eq, sw_ue, nI_add]; rfl
  · rw [sw_up_eq, sw_un (by decide), sw_up_eq, sw_ue]; rfl
  · rw [sw_up_eq, sw_ue]; rfl
theorem sw_po3 (l a b : Nat) : sw_po (l, a, b) = l * 1024 + a * 32 + b := rfl
theorem sw_po_a {l a a' b b' : Nat} (h : a' < a) (hb : b' < 32) : sw_po (l, a', b') < sw_po (l, a, b) := by
  rw [sw_po3, sw_po3]
  generalize l * 1024 = x
  omega
theorem sw_po_b' {l a b b' : Nat} (h : b' < b) : sw_po (l, a, b') < sw_po (l, a, b) := by
  rw [sw_po3, sw_po3]
  generalize l * 1024 = x
  omega
theorem sw_po_l {l l' a a' b b' : Nat} (h : l' < l) (ha : a' < 32) (hb : b' < 32) : sw_po (l', a', b') < sw_po (l, a, b) := by
  rw [sw_po3, sw_po3]
  omega
def sw_Q1 (a : Nat) (c : Nat × Nat × Nat) : Prop := c = (0, 0, 0) ∨ ∃ a' : Nat, a' < a ∧ c = (1, a', 0)
def sw_Q2 (M a : Nat) (c : Nat × Nat × Nat) : Prop := sw_Q1 M c ∨ ∃ a' b : Nat, a' < a ∧ b < M ∧ a' - a' % 4 ≤ b ∧ c = (2, a', b)
def sw_Q3 (M a b : Nat) (c : Nat × Nat × Nat) : Prop := sw_Q2 M a c ∨ ∃ b' : Nat, b' < b ∧ a - a % 4 ≤ b' ∧ c = (2, a, b')
/-- the saw 9 becomes the saw as it is -/
theorem sw_bec9 {σ : sw_St} {N L la F R : Nat} (hC : sw_Cn σ N L la F R) {τ : sw_St} (hF : sw_FrX σ τ) : ∃ τ1 : sw_St, fX6_become 9 5 τ = some ((), τ1) ∧ sw_FrX σ τ1 ∧ τ1 33 = τ 33 ∧ τ1 9 0 = nI N ∧ ∀ k : Nat, k < N → sw_X6 τ1 9 k = sw_X6 σ 5 k := by
  have hN := hC.2.1.2.1
  have hn := hC.2.1.2.2
  obtain ⟨τ1, b1, b2, b3, b4, b5, b6⟩ := sw_bec (c := 9) (c1 := 5) (σ := τ) (Or.inr (by decide))
  refine ⟨τ1, b1, fun c hc => (b2 c (by omega) (by omega) (by omega) (by omega)).trans (hF c hc), b2 33 (by decide) (by decide) (by decide) (by decide), ?_, fun k hk => ?_⟩
  · rw [b3, sw_ue, hF 5 (by decide)]; exact hn
  · unfold sw_X6
    rw [b4 k (by omega), b5 k (by omega), b6 (3 * k) (by omega), b6 (3 * k + 1) (by omega), b6 (3 * k + 2) (by omega), hF (5 + 1) (by decide), hF (5 + 2) (by decide), hF (5 + 3) (by decide)]
theorem sw_s39 {σ : sw_St} {N L la F R : Nat} (hC : sw_Cn σ N L la F R) {m : Int32} : ∀ (n a : Nat) (τ : sw_St) (r : Option (Nat × Nat × Nat)), a ≤ 4 * N → 4 * N - a < n → sw_FrX σ τ → sw_rX r τ → sw_best (sw_gt σ N L la m) (sw_Q1 a) r → ∃ (τ' : sw_St) (r' : Option (Nat × Nat × Nat)), fX9_seekMending_L39 n m (nI (4 * N)) (nI a) τ = fX9_seekMending_L113 sw_fuel m (nI (4 * N)) 0 τ' ∧ sw_FrX σ τ' ∧ sw_rX r' τ' ∧ sw_best (sw_gt σ N L la m) (sw_Q1 (4 * N)) r' := by
  have hN := hC.2.1.2.1
  have hv := (sw_rel_saw hC.1 hC.2.1.2.2 hN).2.1
  intro n
  induction n with
  | zero => intro a τ r _ h; omega
  | succ n ih =>
    intro a τ r ha hn hF hr hB
    rw [fX9_seekMending_L39]
    by_cases c : a = 4 * N
    · subst c
      rw [if_pos (nI_le (Nat.le_refl _) (by omega))]
      exact ⟨τ, r, rfl, hF, hr, hB⟩
    · have lt : a < 4 * N := by omega
      have a3 := sw_ca_b a
      obtain ⟨τ1, b1, F1, e33, n9, S9⟩ := sw_bec9 hC hF
      have r1 := sw_rX_k hr e33
      have r3 : sw_r3r r = -9 := by
        rcases hB with ⟨e, -⟩ | ⟨c, e, hc, -⟩
        · rw [e]; rfl
        · rw [e]
          rcases hc with q | ⟨a', -, q⟩ <;> rw [q] <;> rfl
      have nx := sw_best_x (Q' := sw_Q1 (a + 1)) (d := (1, a, 0)) hB (fun c => by
        unfold sw_Q1
        constructor
        · rintro (q | ⟨a', h1, h2⟩)
          · exact Or.inl (Or.inl q)
          · by_cases z : a' = a
            · subst z; exact Or.inr h2
            · exact Or.inl (Or.inr ⟨a', by omega, h2⟩)
        · rintro ((q | ⟨a', h1, h2⟩) | q)
          · exact Or.inl q
          · exact Or.inr ⟨a', by omega, h2⟩
          · exact Or.inr ⟨a, by omega, q⟩) ⟨by show 1 ≤ 2; decide, by show a < 32; omega, by show 0 < 32; decide⟩ (fun c hc => by
        clear ih hB hr hF
        rcases hc with q | ⟨a', h1, q⟩
        · rw [q]; exact sw_po_l (by decide) (by decide) (by decide)
        · rw [q]; exact sw_po_a h1 (by decide))
      have gd : sw_gt σ N L la m (1, a, 0) = (sw_my (sw_X6 σ 5) a && sw_gS σ N L la m (sw_ac (sw_X6 σ 5) a)) := rfl
      rw [gd, show sw_cc (1, a, 0) = sw_ca a from rfl] at nx
      have go : ∀ (ρ : sw_St) (r' : Option (Nat × Nat × Nat)), sw_FrX σ ρ → sw_rX r' ρ → (if (sw_my (sw_X6 σ 5) a && sw_gS σ N L la m (sw_ac (sw_X6 σ 5) a)) = true ∧ sw_chp r (sw_ca a) = true then some (1, a, 0) else r) = r' → ∃ (τ' : sw_St) (r' : Option (Nat × Nat × Nat)), fX9_seekMending_B105 (fX9_seekMending_L39 n) m (nI (4 * N)) (nI a) ρ = fX9_seekMending_L113 sw_fuel m (nI (4 * N)) 0 τ' ∧ sw_FrX σ τ' ∧ sw_rX r' τ' ∧ sw_best (sw_gt σ N L la m) (sw_Q1 (4 * N)) r' := fun ρ r' h1 h2 h3 => by
        rw [fX9_seekMending_B105, nI_1]
        exact ih (a + 1) ρ r' (by omega) (by omega) h1 h2 (by rw [← h3]; exact nx)
      rw [if_neg (nI_ge lt (by omega)), b1, sw_bs, sw_cst (by omega), sw_bs, sw_chpx r1 (by omega), sw_bs]
      by_cases q1 : sw_chp r (sw_ca a) = true
      · rw [if_pos q1, if_neg (by decide), sw_m4 (by omega), sw_d4 (by omega), sw_mby hN n9 lt S9 hv]
        by_cases q2 : sw_my (sw_X6 σ 5) a = true
        · rw [if_pos q2, sw_bs, if_neg (by decide)]
          have F2 : sw_FrX σ (sw_actx τ1 9 (a % 4) (a / 4)) := fun d hd => by rw [sw_actx_ne (by omega)]; exact F1 d hd
          obtain ⟨τ3, g1, g2⟩ := sw_gse hC (m := m) (c := 9) (S := sw_ac (sw_X6 σ 5) a) (Or.inr (Or.inl rfl)) F2 (by rw [sw_actx_ne (by decide)]; exact n9) (fun k hk => by rw [sw_X6_act]; exact sw_ac_congr S9 k hk)
          have F3 := sw_FrX_cut F2 g2
          have e3 : τ3 33 = τ1 33 := by rw [g2 33 (by decide) (by decide) (by decide), sw_actx_ne (by decide)]
          rw [g1, sw_bs]
          by_cases q3 : sw_gS σ N L la m (sw_ac (sw_X6 σ 5) a) = true
          · obtain ⟨τ4, k1, k2, k3⟩ := sw_keep1 (a := a) (sw_rX_k r1 e3) r3 (by omega)
            rw [if_pos q3, if_neg (by decide), k1, sw_bs]
            exact go τ4 _ (fun d hd => (k2 d (by omega)).trans (F3 d hd)) k3 (by rw [if_pos ⟨by rw [q2, q3]; rfl, q1⟩])
          · rw [if_neg q3, if_pos rfl]
            exact go τ3 r F3 (sw_rX_k r1 e3) (by rw [if_neg (fun z => q3 (by have := z.1; rw [Bool.and_eq_true] at this; exact this.2))])
        · rw [if_neg q2, sw_bs, if_pos rfl]
          exact go τ1 r F1 r1 (by rw [if_neg (fun z => q2 (by have := z.1; rw [Bool.and_eq_true] at this; exact this.1))])
      · rw [if_neg q1, if_pos rfl]
        exact go τ1 r F1 r1 (by rw [if_neg (fun z => q1 z.2)])
