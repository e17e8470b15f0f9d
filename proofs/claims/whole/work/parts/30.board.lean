/-! A board by a text. -/
def sw_bg (cd : Nat → Int32) (p : Nat) : Bool := if p % 3 = 0 then !decide (cd p < 49) && !decide (57 < cd p) else if p % 3 = 1 then !decide (cd p < 48) && !decide (56 < cd p) else !decide (cd p < 48) && !decide (57 < cd p)
theorem sw_two {a b : Int32} {c : Int32} {σ : sw_St} : (if c < a then some (0, σ) else (if b < c then some (0, σ) else some (1, σ))) = (some (if (!decide (c < a) && !decide (b < c)) = true then 1 else 0, σ) : Option (Int32 × sw_St)) := by
  by_cases h1 : c < a
  · rw [if_pos h1]; simp [h1]
  · rw [if_neg h1]
    by_cases h2 : b < c
    · rw [if_pos h2]; simp [h2]
    · rw [if_neg h2]; simp [h1, h2]
theorem sw_mod3 {p : Nat} (hp : p < 2 ^ 31) : nI p - nI p / 3 * 3 = nI (p % 3) := pk_rem (d := 3) hp (by decide) (by decide)
theorem sw_gow {p : Nat} {cd : Nat → Int32} {σ : sw_St} (hp : p < 2 ^ 31) : fX0_goesOnWith (nI p - nI p / 3 * 3) (cd p) σ = some (if sw_bg cd p = true then 1 else 0, σ) := by
  rw [sw_mod3 hp, fX0_goesOnWith, sw_two, sw_two, sw_two]
  unfold sw_bg
  rcases (show p % 3 = 0 ∨ p % 3 = 1 ∨ p % 3 = 2 by omega) with h | h | h
  · rw [h, if_pos (show nI 0 = 0 from nI_0), if_pos (show (0:Nat) = 0 from rfl)]
  · rw [h, if_neg (show ¬ nI 1 = 0 by decide), if_pos (show nI 1 = 1 by decide), if_neg (show ¬ (1:Nat) = 0 by decide), if_pos (show (1:Nat) = 1 from rfl)]
  · rw [h, if_neg (show ¬ nI 2 = 0 by decide), if_neg (show ¬ nI 2 = 1 by decide), if_neg (show ¬ (2:Nat) = 0 by decide), if_neg (show ¬ (2:Nat) = 1 by decide)]
/-- where a text of n codes stops -/
def sw_bE (cd : Nat → Int32) (n e : Nat) : Prop := e ≤ n ∧ (∀ p : Nat, p < e → p < 72 ∧ sw_bg cd p = true) ∧ (e = n ∨ 72 ≤ e ∨ ¬ sw_bg cd e = true)
theorem sw_bE_ex (cd : Nat → Int32) : ∀ n : Nat, ∃ e : Nat, sw_bE cd n e := by
  intro n
  induction n with
  | zero => exact ⟨0, Nat.le_refl _, fun p hp => by omega, Or.inl rfl⟩
  | succ n ih =>
    obtain ⟨e, h1, h2, h3⟩ := ih
    by_cases c : e = n
    · subst c
      by_cases q : e < 72 ∧ sw_bg cd e = true
      · refine ⟨e + 1, Nat.le_refl _, fun p hp => ?_, Or.inl rfl⟩
        by_cases z : p = e
        · rw [z]; exact q
        · exact h2 p (by omega)
      · refine ⟨e, by omega, h2, Or.inr ?_⟩
        by_cases z : e < 72
        · exact Or.inr (fun y => q ⟨z, y⟩)
        · exact Or.inl (by omega)
    · refine ⟨e, by omega, h2, Or.inr ?_⟩
      rcases h3 with q | q
      · exact absurd q c
      · exact q
theorem sw_ffL {k N i n e : Nat} {cd : Nat → Int32} {σ : sw_St} (hk : k < 4) (hN : N ≤ 80) (h1 : ¬ σ 2 k = -1) (h2 : σ 3 k = nI N) (hin : i + n ≤ N) (hcd : ∀ p : Nat, p < n → σ 4 (80 * k + i + p) = cd p) (hE : sw_bE cd n e) : ∀ (m p : Nat), p ≤ e → n - p < m → fX0_firstFault_L3 m (nI k) (nI i) (nI n) (nI p) σ = some (if e = n ∧ 0 < n ∧ n % 3 = 0 then -1 else nI e, σ) := by
  obtain ⟨he, hg, hs⟩ := hE
  intro m
  induction m with
  | zero => intro p _ h; omega
  | succ m ih =>
    intro p hp hm
    unfold fX0_firstFault_L3
    by_cases hpn : p = n
    · have hen : e = n := by omega
      subst hpn
      rw [if_pos (nI_le (Nat.le_refl _) (by omega)), sw_mod3 (by omega)]
      by_cases z : p = 0
      · rw [if_pos (by rw [z]; decide), if_neg (by omega), hen]
      · rw [if_neg (nI_nle (by omega) (by omega))]
        by_cases y : p % 3 = 0
        · rw [if_pos (by rw [y]; rfl), if_pos ⟨hen, by omega, y⟩]
        · rw [if_neg (nI_ne0 (by omega) (by omega)), if_neg (fun q => y q.2.2), hen]
    · have hlt : p < n := by omega
      rw [if_neg (nI_ge hlt (by omega))]
      have hat : fX7_at (nI k) (nI i + nI p) σ = some (cd p, σ) := by
        rw [nI_add, sw_at hk hN h1 h2 (show i + p < N by omega), ← Nat.add_assoc, hcd p hlt]
      by_cases hpe : p = e
      · subst hpe
        rw [if_neg (show ¬ (p = n ∧ 0 < n ∧ n % 3 = 0) from fun q => hpn q.1)]
        by_cases c72 : 72 ≤ p
        · rw [if_pos (show (72 : Int32) ≤ nI p from nI_le (a := 72) c72 (by omega))]
        · have ng : ¬ sw_bg cd p = true := by
            rcases hs with q | q | q
            · exact absurd q hpn
            · exact absurd q c72
            · exact q
          rw [if_neg (show ¬ (72 : Int32) ≤ nI p from nI_ge (b := 72) (by omega) (by decide)), hat, sw_bs, sw_gow (by omega), if_neg ng, sw_bs, if_pos rfl]
      · obtain ⟨g1, g2⟩ := hg p (by omega)
        rw [if_neg (show ¬ (72 : Int32) ≤ nI p from nI_ge (b := 72) (by omega) (by decide)), hat, sw_bs, sw_gow (by omega), if_pos g2, sw_bs, if_neg (by decide), nI_1]
        exact ih (p + 1) (by omega) (by omega)
/-- the reference's reading -/
def sw_FrB (σ τ : sw_St) : Prop := (∀ c : Nat, c ≠ 37 → c ≠ 45 → τ c = σ c) ∧ ∀ k : Nat, k ≠ 7 → k ≠ 8 → τ 37 k = σ 37 k
def sw_rn (cd : Nat → Int32) (τ : sw_St) (q : Nat) : Prop := ∀ j : Nat, j < q → τ 45 (3 * j) = cd (3 * j) - 48 ∧ τ 45 (3 * j + 1) = cd (3 * j + 1) - 48 - 4 ∧ τ 45 (3 * j + 2) = cd (3 * j + 2) - 48
theorem sw_ix3 (q : Nat) : (3 : Int32) * nI q = nI (3 * q) := pk_mul 3 q
theorem sw_ix3a (q : Nat) : (3 : Int32) * nI q + 1 = nI (3 * q + 1) := by rw [sw_ix3, nI_1]
theorem sw_ix3b (q : Nat) : (3 : Int32) * nI q + 2 = nI (3 * q + 2) := by rw [sw_ix3]; exact nI_add (3 * q) 2
theorem sw_in09 (c : Int32) (σ : sw_St) : fX10_in (c - 48).toInt64 0 9 σ = some (if (!decide (c < 48) && !decide (57 < c)) = true then 1 else 0, σ) := by
  rw [sw_in32 (l := 0) (h := 9) (l' := 0) (h' := 9) rfl rfl]
  have e := sw_rng c (lo := 0) (hi := 9) (lo' := 48) (hi' := 57) (by decide) (by decide) (by decide) (by decide)
  by_cases h : 0 ≤ c - 48 ∧ c - 48 ≤ 9
  · rw [if_pos h, if_pos (by simpa using e.mp h)]
  · rw [if_neg h, if_neg (fun q => h (e.mpr (by simpa using q)))]
theorem sw_in08 (c : Int32) (σ : sw_St) : fX10_in (c - 48).toInt64 0 8 σ = some (if (!decide (c < 48) && !decide (56 < c)) = true then 1 else 0, σ) := by
  rw [sw_in32 (l := 0) (h := 8) (l' := 0) (h' := 8) rfl rfl]
  have e := sw_rng c (lo := 0) (hi := 8) (lo' := 48) (hi' := 56) (by decide) (by decide) (by decide) (by decide)
  by_cases h : 0 ≤ c - 48 ∧ c - 48 ≤ 8
  · rw [if_pos h, if_pos (by simpa using e.mp h)]
  · rw [if_neg h, if_neg (fun q => h (e.mpr (by simpa using q)))]
theorem sw_in19 (c : Int32) (σ : sw_St) : fX10_in (c - 48).toInt64 1 9 σ = some (if (!decide (c < 49) && !decide (57 < c)) = true then 1 else 0, σ) := by
  rw [sw_in32 (l := 1) (h := 9) (l' := 1) (h' := 9) rfl rfl]
  have e := sw_rng c (lo := 1) (hi := 9) (lo' := 49) (hi' := 57) (by decide) (by decide) (by decide) (by decide)
  by_cases h : 1 ≤ c - 48 ∧ c - 48 ≤ 9
  · rw [if_pos h, if_pos (by simpa using e.mp h)]
  · rw [if_neg h, if_neg (fun q => h (e.mpr (by simpa using q)))]
theorem sw_bg0 {cd : Nat → Int32} {q : Nat} : sw_bg cd (3 * q) = (!decide (cd (3 * q) < 49) && !decide (57 < cd (3 * q))) := by
  unfold sw_bg; rw [if_pos (by omega)]
theorem sw_bg1 {cd : Nat → Int32} {q : Nat} : sw_bg cd (3 * q + 1) = (!decide (cd (3 * q + 1) < 48) && !decide (56 < cd (3 * q + 1))) := by
  unfold sw_bg; rw [if_neg (by omega), if_pos (by omega)]
theorem sw_bg2 {cd : Nat → Int32} {q : Nat} : sw_bg cd (3 * q + 2) = (!decide (cd (3 * q + 2) < 48) && !decide (57 < cd (3 * q + 2))) := by
  unfold sw_bg; rw [if_neg (by omega), if_neg (by omega)]
theorem sw_mbL {b n e : Nat} {cd : Nat → Int32} {σ : sw_St} (hb : b + n ≤ 320) (hn : n ≤ 80) (hcd : ∀ p : Nat, p < n → σ 61 (b + p) = cd p) (hE : sw_bE cd n e) : ∀ (m q : Nat) (τ : sw_St), 3 * q ≤ e → 30 - q < m → q ≤ 24 → sw_FrB σ τ → τ 37 7 = nI (3 * q) → τ 37 8 = nI q → sw_rn cd τ q → ∃ τ' : sw_St, fX10_readsBoard_L10 m (nI b) (nI n) τ = some (if e = n ∧ 0 < n ∧ n % 3 = 0 then 1 else 0, τ') ∧ sw_FrB σ τ' ∧ ((e = n ∧ 0 < n ∧ n % 3 = 0) → τ' 37 8 = nI (n / 3) ∧ n / 3 ≤ 24 ∧ sw_rn cd τ' (n / 3)) ∧ (¬ (e = n ∧ 0 < n ∧ n % 3 = 0) → τ' 37 7 = nI e) := by
  obtain ⟨he, hg, hs⟩ := id hE
  intro m
  induction m with
  | zero => intro q τ _ h; omega
  | succ m ih =>
    intro q τ hq hm h24 hF i7 i8 hr
    have f61 := hF.1 61 (by decide) (by decide)
    rw [fX10_readsBoard_L10]
    by_cases fin : 0 < q ∧ 3 * q = n
    · -- the text is read
      have hen : e = n := by omega
      have hS : e = n ∧ 0 < n ∧ n % 3 = 0 := ⟨hen, by omega, by omega⟩
      refine ⟨τ, ?_, hF, fun _ => ?_, fun z => absurd hS z⟩
      · rw [i8, if_neg (nI_ne0 (by omega) (by omega)), i7, if_pos (nI_le (by omega) (by omega)), if_pos hS]
      · rw [show n / 3 = q by omega]
        exact ⟨i8, h24, hr⟩
    · have go : (if τ 37 8 = 0 then fX10_readsBoard_B25 (fX10_readsBoard_L10 m) (nI b) (nI n) τ else (if nI n ≤ τ 37 7 then some (1, τ) else fX10_readsBoard_B25 (fX10_readsBoard_L10 m) (nI b) (nI n) τ)) = fX10_readsBoard_B25 (fX10_readsBoard_L10 m) (nI b) (nI n) τ := by
        by_cases z : q = 0
        · rw [i8, z, if_pos nI_0]
        · rw [i8, if_neg (nI_ne0 (by omega) (by omega)), i7, if_neg (nI_ge (show 3 * q < n by omega) (by omega))]
      rw [go, fX10_readsBoard_B25, i7]
      by_cases hqe : 3 * q = e
      · -- it stops at a line's begin
        have nS : ¬ (e = n ∧ 0 < n ∧ n % 3 = 0) := fun z => fin ⟨by omega, by omega⟩
        rw [if_neg nS]
        refine ⟨τ, ?_, hF, fun z => absurd z nS, fun _ => by rw [i7, hqe]⟩
        by_cases hen : e = n
        · have q0 : q = 0 := by omega
          rw [if_pos (nI_le (by omega) (by omega)), fX10_readsBoard_B52, i8, q0, if_neg (by decide), sw_in32 (l := 1) (h := 9) (l' := 1) (h' := 9) rfl rfl, if_neg (by decide), sw_bs, if_pos rfl]
        · rw [if_neg (nI_ge (show 3 * q < n by omega) (by omega)), nI_add, if_pos (sw_ok_nI (show b + 3 * q < 320 by omega) (by decide)), nI_clamp (by omega), fX10_readsBoard_B52, i8, f61, hcd _ (by omega)]
          by_cases c24 : q = 24
          · rw [if_pos (by rw [c24]; rfl)]
          · have ng : ¬ sw_bg cd (3 * q) = true := by
              rcases hs with z | z | z
              · exact absurd z hen
              · omega
              · rw [hqe]; exact z
            rw [sw_bg0] at ng
            rw [if_neg (show ¬ nI q = 24 from fun z => c24 ((nI_eq (a := q) (b := 24) (by omega) (by decide)).mp z)), sw_in19, if_neg ng, sw_bs, if_pos rfl]
      · obtain ⟨l72, g0⟩ := hg (3 * q) (by omega)
        rw [sw_bg0] at g0
        have q24 : ¬ nI q = 24 := fun z => by have := (nI_eq (a := q) (b := 24) (by omega) (by decide)).mp z; omega
        rw [if_neg (nI_ge (show 3 * q < n by omega) (by omega)), nI_add, if_pos (sw_ok_nI (show b + 3 * q < 320 by omega) (by decide)), nI_clamp (by omega), fX10_readsBoard_B52, i8, f61, hcd _ (by omega), if_neg q24, sw_in19, if_pos g0, sw_bs, if_neg (by decide), i7, nI_1]
        by_cases h1e : 3 * q + 1 = e
        · -- it stops at the grain
          have nS : ¬ (e = n ∧ 0 < n ∧ n % 3 = 0) := fun z => by omega
          rw [if_neg nS]
          refine ⟨sw_up τ 37 7 (nI (3 * q) + 1), ?_, ⟨fun c a1 a2 => by rw [sw_up_ne a1]; exact hF.1 c a1 a2, fun k a1 a2 => by rw [sw_up_eq, sw_un a1]; exact hF.2 k a1 a2⟩, fun z => absurd z nS, fun _ => by rw [sw_up_eq, sw_ue, nI_1, h1e]⟩
          by_cases hen : e = n
          · rw [if_pos (nI_le (by omega) (by omega)), fX10_readsBoard_B107, sw_in32 (l := 0) (h := 8) (l' := 0) (h' := 8) rfl rfl, if_neg (by decide), sw_bs, if_pos rfl, sw_le, i7]
          · have ng : ¬ sw_bg cd (3 * q + 1) = true := by
              rcases hs with z | z | z
              · exact absurd z hen
              · omega
              · rw [h1e]; exact z
            rw [sw_bg1] at ng
            rw [if_neg (nI_ge (show 3 * q + 1 < n by omega) (by omega)), nI_add b (3 * q), show nI (b + 3 * q) + 1 = nI (b + 3 * q + 1) from nI_1 _, if_pos (sw_ok_nI (show b + 3 * q + 1 < 320 by omega) (by decide)), nI_clamp (by omega), Nat.add_assoc, f61, hcd _ (by omega), fX10_readsBoard_B107, sw_in08, if_neg ng, sw_bs, if_pos rfl, sw_le, i7]
        · obtain ⟨-, g1⟩ := hg (3 * q + 1) (by omega)
          rw [sw_bg1] at g1
          rw [if_neg (nI_ge (show 3 * q + 1 < n by omega) (by omega)), nI_add b (3 * q), show nI (b + 3 * q) + 1 = nI (b + 3 * q + 1) from nI_1 _, if_pos (sw_ok_nI (show b + 3 * q + 1 < 320 by omega) (by decide)), nI_clamp (by omega), Nat.add_assoc, f61, hcd _ (by omega), fX10_readsBoard_B107, sw_in08, if_pos g1, sw_bs, if_neg (by decide), i7]
          have a2 : nI (3 * q) + 2 = nI (3 * q + 2) := nI_add (3 * q) 2
          have b2 : nI (b + 3 * q) + 2 = nI (b + (3 * q + 2)) := by rw [← Nat.add_assoc]; exact nI_add (b + 3 * q) 2
          rw [a2, nI_add, b2]
          by_cases h2e : 3 * q + 2 = e
          · -- it stops at what closes
            have nS : ¬ (e = n ∧ 0 < n ∧ n % 3 = 0) := fun z => by omega
            rw [if_neg nS]
            refine ⟨sw_up τ 37 7 (nI (3 * q) + 2), ?_, ⟨fun c a1 a2 => by rw [sw_up_ne a1]; exact hF.1 c a1 a2, fun k a1 a2 => by rw [sw_up_eq, sw_un a1]; exact hF.2 k a1 a2⟩, fun z => absurd z nS, fun _ => by rw [sw_up_eq, sw_ue, a2, h2e]⟩
            by_cases hen : e = n
            · rw [if_pos (nI_le (by omega) (by omega)), fX10_readsBoard_B165, sw_in32 (l := 0) (h := 9) (l' := 0) (h' := 9) rfl rfl, if_neg (by decide), sw_bs, if_pos rfl, sw_le, i7]
            · have ng : ¬ sw_bg cd (3 * q + 2) = true := by
                rcases hs with z | z | z
                · exact absurd z hen
                · omega
                · rw [h2e]; exact z
              rw [sw_bg2] at ng
              rw [if_neg (nI_ge (show 3 * q + 2 < n by omega) (by omega)), if_pos (sw_ok_nI (show b + (3 * q + 2) < 320 by omega) (by decide)), nI_clamp (by omega), f61, hcd _ (by omega), fX10_readsBoard_B165, sw_in09, if_neg ng, sw_bs, if_pos rfl, sw_le, i7]
          · obtain ⟨-, g2⟩ := hg (3 * q + 2) (by omega)
            rw [sw_bg2] at g2
            rw [if_neg (nI_ge (show 3 * q + 2 < n by omega) (by omega)), if_pos (sw_ok_nI (show b + (3 * q + 2) < 320 by omega) (by decide)), nI_clamp (by omega), f61, hcd _ (by omega), fX10_readsBoard_B165, sw_in09, if_pos g2, sw_bs, if_neg (by decide)]
            have n37 : ∀ {ρ : sw_St} {x : Nat} {v : Int32}, sw_up ρ 45 x v 37 = ρ 37 := fun {ρ x v} => sw_up_ne (by decide)
            rw [i8, sw_ix3, if_pos (sw_ok_nI (show 3 * q < 72 by omega) (by decide)), sw_le, n37, i8, sw_ix3a, if_pos (sw_ok_nI (show 3 * q + 1 < 72 by omega) (by decide)), sw_le, n37, n37, i8, sw_ix3b, if_pos (sw_ok_nI (show 3 * q + 2 < 72 by omega) (by decide)), sw_le, n37, n37, n37, i7, sw_le, sw_up_eq (c := 37), sw_un (show 8 ≠ 7 by decide), n37, n37, n37, i8, sw_le, nI_clamp (show 3 * q < 2 ^ 31 by omega), nI_clamp (show 3 * q + 1 < 2 ^ 31 by omega), nI_clamp (show 3 * q + 2 < 2 ^ 31 by omega)]
            refine ih (q + 1) _ (by omega) (by omega) (by omega) ⟨fun c a1 a2 => ?_, fun k a1 a2 => ?_⟩ ?_ ?_ (fun j hj => ?_)
            · rw [sw_up_ne a1, sw_up_ne a1, sw_up_ne a2, sw_up_ne a2, sw_up_ne a2]
              exact hF.1 c a1 a2
            · rw [sw_up_eq, sw_un a2, sw_up_eq, sw_un a1, n37, n37, n37]
              exact hF.2 k a1 a2
            · rw [sw_up_eq, sw_un (by decide), sw_up_eq, sw_ue]
              exact nI_add (3 * q) 3
            · rw [sw_up_eq, sw_ue, nI_1]
            · rw [sw_up_ne (show 45 ≠ 37 by decide), sw_up_ne (show 45 ≠ 37 by decide), sw_up_eq, sw_up_eq, sw_up_eq]
              by_cases z : j = q
              · subst z
                rw [sw_un (by omega), sw_un (by omega), sw_ue, sw_un (by omega), sw_ue, sw_ue]
                exact ⟨rfl, rfl, rfl⟩
              · rw [sw_un (by omega), sw_un (by omega), sw_un (by omega), sw_un (by omega), sw_un (by omega), sw_un (by omega), sw_un (by omega), sw_un (by omega), sw_un (by omega)]
                exact hr j (by omega)
