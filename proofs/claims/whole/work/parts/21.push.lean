/-! Push, kerf, all that is taken: of a saw as a function of its teeth (kind, side, bend, height, edge). -/
abbrev sw_Sw : Type := Nat → Int32 × Int32 × Int32 × Int32 × Int32
def sw_X6 (σ : sw_St) (c : Nat) : sw_Sw := fun k => (σ (c + 1) k, σ (c + 2) k, σ (c + 3) (3 * k), σ (c + 3) (3 * k + 1), σ (c + 3) (3 * k + 2))
def sw_M6 (σ : sw_St) : sw_Sw := fun k => (σ 38 k, σ 39 k, σ 40 k, σ 41 k, σ 42 k)
def sw_t1 (t : Int32 × Int32 × Int32 × Int32 × Int32) : Int32 := sw_tk t.1 t.2.2.2.1 t.2.2.2.2
def sw_l1 (t : Int32 × Int32 × Int32 × Int32 × Int32) : Int32 := t.2.1 * t.2.2.1
def sw_okS (S : sw_Sw) (N : Nat) : Prop := ∀ k : Nat, k < N → sw_tok (S k).1 (S k).2.1 (S k).2.2.1 (S k).2.2.2.1 (S k).2.2.2.2
def sw_mx (a b : Int32) : Int32 := if a < b then b else a
def sw_ps (S : sw_Sw) : Nat → Int32
  | 0 => 0
  | n + 1 => sw_ps S n + sw_t1 (S n) * sw_l1 (S n)
def sw_tn (S : sw_Sw) : Nat → Int32
  | 0 => 0
  | n + 1 => sw_tn S n + sw_t1 (S n)
def sw_kl (S : sw_Sw) : Nat → Int32
  | 0 => 0
  | n + 1 => if sw_t1 (S n) ≤ 0 then sw_kl S n else sw_mx (sw_kl S n) (-(sw_l1 (S n)))
def sw_kr (S : sw_Sw) : Nat → Int32
  | 0 => 0
  | n + 1 => if sw_t1 (S n) ≤ 0 then sw_kr S n else sw_mx (sw_kr S n) (sw_l1 (S n))
def sw_kf (S : sw_Sw) (n : Nat) : Int32 := 1 + sw_kl S n + sw_kr S n
theorem sw_ps_congr {S S' : sw_Sw} : ∀ {N : Nat}, (∀ k : Nat, k < N → S k = S' k) → sw_ps S N = sw_ps S' N ∧ sw_tn S N = sw_tn S' N ∧ sw_kl S N = sw_kl S' N ∧ sw_kr S N = sw_kr S' N := by
  intro N
  induction N with
  | zero => intro _; exact ⟨rfl, rfl, rfl, rfl⟩
  | succ n ih =>
    intro h
    obtain ⟨h1, h2, h3, h4⟩ := ih (fun k hk => h k (by omega))
    have e := h n (by omega)
    refine ⟨?_, ?_, ?_, ?_⟩
    · rw [sw_ps, sw_ps, h1, e]
    · rw [sw_tn, sw_tn, h2, e]
    · rw [sw_kl, sw_kl, h3, e]
    · rw [sw_kr, sw_kr, h4, e]
theorem sw_max (a b : Int32) (σ : sw_St) : fJ9_max_7cf53 a b σ = some (sw_mx a b, σ) := by
  unfold fJ9_max_7cf53 sw_mx
  split <;> rfl
theorem sw_takesX {c k : Nat} {σ : sw_St} (hk : k < 8) : fX6_takes c (nI k) σ = some (sw_t1 (sw_X6 σ c k), σ) := sw_takes hk
theorem sw_leanX {c k : Nat} {σ : sw_St} (hk : k < 8) : fX6_leaning c (nI k) σ = some (sw_l1 (sw_X6 σ c k), σ) := sw_leaning hk
theorem sw_pushL {c N : Nat} {σ : sw_St} (hN : N ≤ 8) (hc : σ c 0 = nI N) : ∀ (n k : Nat), k ≤ N → N - k < n → fX6_push_L4 c n (sw_ps (sw_X6 σ c) k) (nI k) σ = some (sw_ps (sw_X6 σ c) N, σ) := by
  intro n
  induction n with
  | zero => intro k _ h; omega
  | succ n ih =>
    intro k hk hn
    unfold fX6_push_L4
    by_cases h : k = N
    · subst h
      rw [hc, if_pos (nI_le (Nat.le_refl _) (by omega))]
    · rw [hc, if_neg (nI_ge (show k < N by omega) (by omega)), sw_takesX (by omega), sw_bs, sw_leanX (by omega), sw_bs, sw_le, nI_1]
      exact ih (k + 1) (by omega) (by omega)
theorem sw_takenL {c N : Nat} {σ : sw_St} (hN : N ≤ 8) (hc : σ c 0 = nI N) : ∀ (n k : Nat), k ≤ N → N - k < n → fX6_taken_L4 c n (sw_tn (sw_X6 σ c) k) (nI k) σ = some (sw_tn (sw_X6 σ c) N, σ) := by
  intro n
  induction n with
  | zero => intro k _ h; omega
  | succ n ih =>
    intro k hk hn
    unfold fX6_taken_L4
    by_cases h : k = N
    · subst h
      rw [hc, if_pos (nI_le (Nat.le_refl _) (by omega))]
    · rw [hc, if_neg (nI_ge (show k < N by omega) (by omega)), sw_takesX (by omega), sw_bs, sw_le, nI_1]
      exact ih (k + 1) (by omega) (by omega)
theorem sw_kerfL {c N : Nat} {σ : sw_St} (hN : N ≤ 8) (hc : σ c 0 = nI N) : ∀ (n k : Nat), k ≤ N → N - k < n → fX6_kerf_L6 c n (sw_kl (sw_X6 σ c) k) (sw_kr (sw_X6 σ c) k) (nI k) σ = some (sw_kf (sw_X6 σ c) N, σ) := by
  intro n
  induction n with
  | zero => intro k _ h; omega
  | succ n ih =>
    intro k hk hn
    unfold fX6_kerf_L6
    by_cases h : k = N
    · subst h
      rw [hc, if_pos (nI_le (Nat.le_refl _) (by omega))]
      rfl
    · have ih' := ih (k + 1) (by omega) (by omega)
      rw [hc, if_neg (nI_ge (show k < N by omega) (by omega)), sw_takesX (by omega), sw_bs]
      by_cases ht : sw_t1 (sw_X6 σ c k) ≤ 0
      · rw [sw_kl, sw_kr, if_pos ht, if_pos ht] at ih'
        rw [if_pos ht, fX6_kerf_B43, nI_1]
        exact ih'
      · rw [sw_kl, sw_kr, if_neg ht, if_neg ht] at ih'
        rw [if_neg ht, sw_leanX (by omega), sw_bs, sw_max, sw_bs, sw_leanX (by omega), sw_bs, sw_max, sw_bs, fX6_kerf_B43, nI_1]
        exact ih'
theorem sw_push {c N : Nat} {σ : sw_St} (hN : N ≤ 8) (hc : σ c 0 = nI N) : fX6_push c σ = some (sw_ps (sw_X6 σ c) N, σ) := by
  have := sw_fuel_big
  exact sw_pushL hN hc sw_fuel 0 (Nat.zero_le _) (by omega)
theorem sw_taken {c N : Nat} {σ : sw_St} (hN : N ≤ 8) (hc : σ c 0 = nI N) : fX6_taken c σ = some (sw_tn (sw_X6 σ c) N, σ) := by
  have := sw_fuel_big
  exact sw_takenL hN hc sw_fuel 0 (Nat.zero_le _) (by omega)
theorem sw_kerf {c N : Nat} {σ : sw_St} (hN : N ≤ 8) (hc : σ c 0 = nI N) : fX6_kerf c σ = some (sw_kf (sw_X6 σ c) N, σ) := by
  have := sw_fuel_big
  exact sw_kerfL hN hc sw_fuel 0 (Nat.zero_le _) (by omega)
/-- the reference -/
theorem sw_takesM {k : Nat} {σ : sw_St} (hk : k < 8) : fX10_takesOf (nI k) σ = some (sw_t1 (sw_M6 σ k), σ) := sw_takesOf hk
theorem sw_pushOfM {k : Nat} {σ : sw_St} (hk : k < 8) : fX10_pushOf (nI k) σ = some (sw_t1 (sw_M6 σ k) * sw_l1 (sw_M6 σ k), σ) := sw_pushOf hk
theorem sw_pushNowL {N : Nat} {σ : sw_St} (hN : N ≤ 8) (hc : σ 37 1 = nI N) : ∀ (n k : Nat), k ≤ N → N - k < n → fX10_pushNow_L4 n (sw_ps (sw_M6 σ) k) (nI k) σ = some (sw_ps (sw_M6 σ) N, σ) := by
  intro n
  induction n with
  | zero => intro k _ h; omega
  | succ n ih =>
    intro k hk hn
    unfold fX10_pushNow_L4
    by_cases h : k = N
    · subst h
      rw [hc, if_pos (nI_le (Nat.le_refl _) (by omega))]
    · rw [hc, if_neg (nI_ge (show k < N by omega) (by omega)), sw_pushOfM (by omega), sw_bs, sw_le, nI_1]
      exact ih (k + 1) (by omega) (by omega)
theorem sw_pushNow {N : Nat} {σ : sw_St} (hN : N ≤ 8) (hc : σ 37 1 = nI N) : fX10_pushNow σ = some (sw_ps (sw_M6 σ) N, σ) := by
  have := sw_fuel_big
  exact sw_pushNowL hN hc sw_fuel 0 (Nat.zero_le _) (by omega)
/-- sides and bends: which way the kerf grows -/
theorem sw_bsd : ∀ j : Nat, j ≤ 9 → -((-1 : Int32) * nI j) = nI j ∧ ((-1 : Int32) * nI j) ≤ 0 ∧ -((1 : Int32) * nI j) ≤ 0 ∧ (1 : Int32) * nI j = nI j ∧ -((0 : Int32) * nI j) ≤ 0 ∧ (0 : Int32) * nI j ≤ 0 ∧ 0 ≤ nI j := by decide +kernel
theorem sw_mx_ge {a b : Int32} (ha : 0 ≤ a) (hb : b ≤ 0) : sw_mx a b = a := by
  unfold sw_mx
  rw [if_neg]
  rw [Int32.lt_iff_toInt_lt]
  rw [Int32.le_iff_toInt_le] at ha hb
  omega
theorem sw_mx_gr (a b : Int32) (σ : sw_St) : fX10_greater a b σ = some (sw_mx a b, σ) := by
  unfold fX10_greater sw_mx
  by_cases h : a < b
  · rw [if_pos h, if_pos (Int32.le_of_lt h)]
  · rw [if_neg h]
    by_cases h2 : a ≤ b
    · have : a = b := by
        apply Int32.toInt_inj.mp
        rw [Int32.lt_iff_toInt_lt] at h
        rw [Int32.le_iff_toInt_le] at h2
        omega
      rw [if_pos h2, this]
    · rw [if_neg h2]
theorem sw_mx_pos {a b : Int32} (ha : 0 ≤ a) : 0 ≤ sw_mx a b := by
  unfold sw_mx
  split
  · rename_i h
    rw [Int32.lt_iff_toInt_lt] at h
    rw [Int32.le_iff_toInt_le] at *
    omega
  · exact ha
theorem sw_k_pos (S : sw_Sw) : ∀ n : Nat, 0 ≤ sw_kl S n ∧ 0 ≤ sw_kr S n := by
  intro n
  induction n with
  | zero => exact ⟨(by decide : (0 : Int32) ≤ 0), (by decide : (0 : Int32) ≤ 0)⟩
  | succ n ih =>
    rw [sw_kl, sw_kr]
    by_cases h : sw_t1 (S n) ≤ 0
    · rw [if_pos h, if_pos h]; exact ih
    · rw [if_neg h, if_neg h]; exact ⟨sw_mx_pos ih.1, sw_mx_pos ih.2⟩
theorem sw_kerfNowL {N : Nat} {σ : sw_St} (hN : N ≤ 8) (hc : σ 37 1 = nI N) (hv : sw_okS (sw_M6 σ) N) : ∀ (n k : Nat), k ≤ N → N - k < n → fX10_kerfNow_L6 n (sw_kl (sw_M6 σ) k) (sw_kr (sw_M6 σ) k) (nI k) σ = some (sw_kf (sw_M6 σ) N, σ) := by
  intro n
  induction n with
  | zero => intro k _ h; omega
  | succ n ih =>
    intro k hk hn
    unfold fX10_kerfNow_L6
    by_cases h : k = N
    · subst h
      rw [hc, if_pos (nI_le (Nat.le_refl _) (by omega))]
      rfl
    · have ih' := ih (k + 1) (by omega) (by omega)
      have h8 : sw_ok (nI k) 8 = true := sw_ok_nI (by omega) (by decide)
      have hcl : (nI k).toNatClampNeg = k := nI_clamp (by omega)
      obtain ⟨p1, p2⟩ := sw_k_pos (sw_M6 σ) k
      rw [hc, if_neg (nI_ge (show k < N by omega) (by omega)), sw_takesM (by omega), sw_bs]
      by_cases ht : sw_t1 (sw_M6 σ k) ≤ 0
      · rw [sw_kl, sw_kr, if_pos ht, if_pos ht] at ih'
        rw [if_pos ht, fX10_kerfNow_B27, if_pos rfl, fX10_kerfNow_B56, fX10_kerfNow_B57, if_pos rfl, fX10_kerfNow_B85, fX10_kerfNow_B86, nI_1]
        exact ih'
      · rw [sw_kl, sw_kr, if_neg ht, if_neg ht] at ih'
        obtain ⟨hs, ⟨j, hj, eb⟩, -⟩ := hv k (by omega)
        have eb : σ 40 k = nI j := eb
        obtain ⟨d1, d2, d3, d4, d5, d6, d7⟩ := sw_bsd j hj
        have el : sw_l1 (sw_M6 σ k) = σ 39 k * σ 40 k := rfl
        have hs3 : σ 39 k = 0 ∨ σ 39 k = -1 ∨ σ 39 k = 1 := by
          rcases hs with ⟨-, q⟩ | ⟨-, q | q⟩
          · exact Or.inl q
          · exact Or.inr (Or.inl q)
          · exact Or.inr (Or.inr q)
        rw [if_neg ht, fX10_kerfNow_B27, if_neg (by decide), if_pos h8, hcl]
        rcases hs3 with q | q | q
        · rw [el, q, eb, sw_mx_ge p1 d5, sw_mx_ge p2 d6] at ih'
          rw [q, if_pos (by decide), fX10_kerfNow_B56, fX10_kerfNow_B57, if_neg (by decide), if_pos h8, hcl, q, if_pos (by decide), fX10_kerfNow_B85, fX10_kerfNow_B86, nI_1]
          exact ih'
        · rw [el, q, eb, d1, sw_mx_ge p2 d2] at ih'
          rw [q, if_neg (by decide), if_pos h8, sw_mx_gr, sw_bs, fX10_kerfNow_B57, if_neg (by decide), if_pos h8, hcl, q, if_pos (by decide), fX10_kerfNow_B85, fX10_kerfNow_B86, nI_1, eb]
          exact ih'
        · rw [el, q, eb, sw_mx_ge p1 d3, d4] at ih'
          rw [q, if_pos (by decide), fX10_kerfNow_B56, fX10_kerfNow_B57, if_neg (by decide), if_pos h8, hcl, q, if_neg (by decide), if_pos h8, sw_mx_gr, sw_bs, fX10_kerfNow_B86, nI_1, eb]
          exact ih'
theorem sw_kerfNow {N : Nat} {σ : sw_St} (hN : N ≤ 8) (hc : σ 37 1 = nI N) (hv : sw_okS (sw_M6 σ) N) : fX10_kerfNow σ = some (sw_kf (sw_M6 σ) N, σ) := by
  have := sw_fuel_big
  exact sw_kerfNowL hN hc hv sw_fuel 0 (Nat.zero_le _) (by omega)
theorem sw_rel_saw {σ : sw_St} (hR : sw_Rel σ) {N : Nat} (hn : σ 5 0 = nI N) (hN : N ≤ 8) : σ 37 1 = nI N ∧ sw_okS (sw_X6 σ 5) N ∧ ∀ k : Nat, k < N → sw_M6 σ k = sw_X6 σ 5 k := by
  obtain ⟨⟨hm, N', hN', hn', hT⟩, -⟩ := hR
  have e : N' = N := (nI_eq (by omega) (by omega)).mp (hn'.symm.trans hn)
  subst e
  refine ⟨by rw [hm, hn], fun k hk => (hT k hk).2, fun k hk => ?_⟩
  obtain ⟨⟨e1, e2, e3, e4, e5⟩, -⟩ := hT k hk
  show (σ 38 k, σ 39 k, σ 40 k, σ 41 k, σ 42 k) = (σ 6 k, σ 7 k, σ 8 (3 * k), σ 8 (3 * k + 1), σ 8 (3 * k + 2))
  rw [e1, e2, e3, e4, e5]
theorem sw_okS_congr {S S' : sw_Sw} {N : Nat} (h : ∀ k : Nat, k < N → S' k = S k) (hv : sw_okS S N) : sw_okS S' N := fun k hk => by rw [h k hk]; exact hv k hk
theorem sw_ofSawL {N : Nat} {a : Int32} {σ : sw_St} (hN : N ≤ 8) (hc : σ 37 1 = nI N) (hv : sw_okS (sw_M6 σ) N) : ∀ (n k : Nat), k ≤ N → N - k < n → fX10_ofSaw_L29 n a (sw_tn (sw_M6 σ) k) (nI k) σ = some (if a = 0 then sw_ps (sw_M6 σ) N else if a = 1 then sw_kf (sw_M6 σ) N else sw_tn (sw_M6 σ) N, σ) := by
  intro n
  induction n with
  | zero => intro k _ h; omega
  | succ n ih =>
    intro k hk hn
    unfold fX10_ofSaw_L29
    by_cases h : k = N
    · subst h
      rw [hc, if_pos (nI_le (Nat.le_refl _) (by omega)), sw_pushNow hN hc, sw_bs, sw_kerfNow hN hc hv, sw_bs]
      by_cases c0 : a = 0
      · rw [if_pos c0, if_pos c0]
      · rw [if_neg c0, if_neg c0]
        by_cases c1 : a = 1
        · rw [if_pos c1, if_pos c1]
        · rw [if_neg c1, if_neg c1]
    · rw [hc, if_neg (nI_ge (show k < N by omega) (by omega)), sw_takesM (by omega), sw_bs, sw_le, nI_1]
      exact ih (k + 1) (by omega) (by omega)
theorem sim_ofSaw (a0 : Int32) : sw_sim (fX9_ofSaw a0) (fX10_ofSaw a0) := by
  intro σ hR
  obtain ⟨⟨hm, N, hN, hn, hT⟩, -⟩ := id hR
  obtain ⟨hm2, hv, he⟩ := sw_rel_saw hR hn hN
  have hb := sw_fuel_big
  have hvm : sw_okS (sw_M6 σ) N := sw_okS_congr he hv
  obtain ⟨g1, g2, g3, g4⟩ := sw_ps_congr he
  by_cases c0 : 0 ≤ a0 ∧ a0 ≤ 2
  · by_cases z : N = 0
    · subst z
      exact sw_ro hR (-3) (by rw [fX9_ofSaw, sw_within, if_pos c0, sw_bs, if_neg (by decide), hn, if_pos nI_0]) (by rw [fX10_ofSaw, sw_in32 (l := 0) (h := 2) (l' := 0) (h' := 2) rfl rfl, if_pos c0, sw_bs, if_neg (by decide), hm2, if_pos nI_0])
    · have nz : ¬ nI N = 0 := nI_ne0 (by omega) (by omega)
      have Y : fX10_ofSaw a0 σ = some (if a0 = 0 then sw_ps (sw_M6 σ) N else if a0 = 1 then sw_kf (sw_M6 σ) N else sw_tn (sw_M6 σ) N, σ) := by
        rw [fX10_ofSaw, sw_in32 (l := 0) (h := 2) (l' := 0) (h' := 2) rfl rfl, if_pos c0, sw_bs, if_neg (by decide), hm2, if_neg nz]
        exact sw_ofSawL hN hm2 hvm sw_fuel 0 (Nat.zero_le _) (by omega)
      rw [sw_kf, g1, g2, g3, g4] at Y
      refine sw_ro hR _ ?_ Y
      rw [fX9_ofSaw, sw_within, if_pos c0, sw_bs, if_neg (by decide), hn, if_neg nz, sw_push hN hn, sw_bs, sw_kerf hN hn, sw_bs, sw_taken hN hn, sw_bs]
      by_cases d0 : a0 = 0
      · rw [if_pos d0, if_pos d0]
      · rw [if_neg d0, if_neg d0]
        by_cases d1 : a0 = 1
        · rw [if_pos d1, if_pos d1]; rfl
        · rw [if_neg d1, if_neg d1]
  · exact sw_ro hR (-2) (by rw [fX9_ofSaw, sw_within, if_neg c0, sw_bs, if_pos rfl]) (by rw [fX10_ofSaw, sw_in32 (l := 0) (h := 2) (l' := 0) (h' := 2) rfl rfl, if_neg c0, sw_bs, if_pos rfl])
