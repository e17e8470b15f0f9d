/-! likely, each: the class's masks and the reference's pairs. -/
theorem sw_rest {τ τ' : sw_St} {c k : Nat} {x : Int32} (h1 : c ≠ 37) (h2 : c ≠ 49) (h3 : c ≠ 50) (h : sw_FrM (sw_up τ c k x) τ') : sw_FrM τ (sw_up τ' c k (τ c k)) := by
  refine ⟨fun d a1 a2 a3 => ?_, fun j a1 a2 => ?_⟩
  · by_cases e : d = c
    · subst e
      rw [sw_up_eq, h.1 d a1 a2 a3, sw_up_eq]
      funext j
      by_cases z : j = k
      · subst z; rw [sw_ue]
      · rw [sw_un z, sw_un z]
    · rw [sw_up_ne e, h.1 d a1 a2 a3, sw_up_ne e]
  · rw [sw_up_ne (Ne.symm h1), h.2 j a1 a2, sw_up_ne (Ne.symm h1)]
theorem sw_app_same {σ : sw_St} {v : Nat} : ∀ (d a : Nat), (∀ q : Nat, a ≤ q → q < a + d → ¬ v.testBit q = true) → sw_app σ v (a + d) = sw_app σ v a := by
  intro d
  induction d with
  | zero => intro a _; rfl
  | succ d ih =>
    intro a h
    rw [← Nat.add_assoc, sw_app, if_neg (h (a + d) (by omega) (by omega))]
    exact ih a (fun q h1 h2 => h q h1 (by omega))
def sw_fl (σ : sw_St) (q : Nat) (S : sw_Sw) : sw_Sw := sw_chg S (σ 27 q).toNatClampNeg (σ 28 q).toNatClampNeg (σ 29 q)
theorem sw_app_to {σ : sw_St} {v a b : Nat} (h : a ≤ b) (hq : ∀ q : Nat, a ≤ q → q < b → ¬ v.testBit q = true) : sw_app σ v b = sw_app σ v a := by
  have := sw_app_same (σ := σ) (v := v) (b - a) a (fun q h1 h2 => hq q h1 (by omega))
  rw [show a + (b - a) = b by omega] at this
  exact this
theorem sw_app_at {σ : sw_St} {v a : Nat} (h : v.testBit a = true) : sw_app σ v (a + 1) = sw_fl σ a (sw_app σ v a) := by
  rw [sw_app, if_pos h]; rfl
theorem sw_tb1b : ∀ j : Nat, j < 6 → ∀ q : Nat, q < 6 → (2 ^ j).testBit q = decide (q = j) := by decide +kernel
theorem sw_tb2b : ∀ j : Nat, j < 6 → ∀ i : Nat, i < j → ∀ q : Nat, q < 6 → (2 ^ i + 2 ^ j).testBit q = (decide (q = i) || decide (q = j)) := by decide +kernel
theorem sw_app0 {σ : sw_St} {F : Nat} : sw_app σ 0 F = sw_X6 σ 5 := by
  rw [sw_app_to (Nat.zero_le F) (fun q _ _ => by rw [Nat.zero_testBit]; decide)]; rfl
theorem sw_app1 {σ : sw_St} {F j : Nat} (hF : F ≤ 6) (hj : j < F) : sw_app σ (2 ^ j) F = sw_fl σ j (sw_X6 σ 5) := by
  rw [sw_app_to (show j + 1 ≤ F by omega) (fun q h1 h2 => by rw [sw_tb1b j (by omega) q (by omega)]; simp; omega), sw_app_at (by rw [sw_tb1b j (by omega) j (by omega)]; simp), sw_app_to (Nat.zero_le j) (fun q h1 h2 => by rw [sw_tb1b j (by omega) q (by omega)]; simp; omega)]
  rfl
theorem sw_app2 {σ : sw_St} {F i j : Nat} (hF : F ≤ 6) (hj : j < F) (hi : i < j) : sw_app σ (2 ^ i + 2 ^ j) F = sw_fl σ j (sw_fl σ i (sw_X6 σ 5)) := by
  have T := sw_tb2b j (by omega) i hi
  rw [sw_app_to (show j + 1 ≤ F by omega) (fun q h1 h2 => by rw [T q (by omega)]; simp; omega), sw_app_at (by rw [T j (by omega)]; simp), sw_app_to (show i + 1 ≤ j by omega) (fun q h1 h2 => by rw [T q (by omega)]; simp; omega), sw_app_at (by rw [T i (by omega)]; simp), sw_app_to (Nat.zero_le i) (fun q h1 h2 => by rw [T q (by omega)]; simp; omega)]
  rfl
/-- the reference lays flaw j on its saw -/
theorem sw_mfl {σ : sw_St} {N L la F R : Nat} (hC : sw_Cn σ N L la F R) {τ : sw_St} {S : sw_Sw} (hF : sw_FrZ σ τ) (hS : ∀ k : Nat, k < N → sw_M6 τ k = S k) (hv : sw_okS S N) {j : Nat} (hj : j < F) : ∃ c k : Nat, ∃ x : Int32, (c = 40 ∨ c = 41 ∨ c = 42) ∧ (fX10_change (τ 51 j) (τ 52 j) (τ 53 j) τ = some (τ c k, sw_up τ c k x)) ∧ (∀ (ρ : sw_St) (y : Int32), ρ 51 = τ 51 → ρ 52 = τ 52 → fX10_change (ρ 51 j) (ρ 52 j) y ρ = some (ρ c k, sw_up ρ c k y)) ∧ sw_FrZ σ (sw_up τ c k x) ∧ (∀ k' : Nat, k' < N → sw_M6 (sw_up τ c k x) k' = sw_fl σ j S k') ∧ sw_okS (sw_fl σ j S) N := by
  obtain ⟨f1, f2, f3, f4, f5, f6, f7, f8⟩ := sw_Cn_flaw hC hj
  have hN := hC.2.1.2.1
  have e51 := hF.1 51 (by decide) (by decide) (by decide) (by decide) (by decide) (by decide) (by decide) (by decide) (by decide)
  have e52 := hF.1 52 (by decide) (by decide) (by decide) (by decide) (by decide) (by decide) (by decide) (by decide) (by decide)
  have e53 := hF.1 53 (by decide) (by decide) (by decide) (by decide) (by decide) (by decide) (by decide) (by decide) (by decide)
  refine ⟨40 + (σ 28 j).toNatClampNeg, (σ 27 j).toNatClampNeg, σ 29 j, by omega, ?_, fun ρ y h1 h2 => ?_, ⟨fun d hd a1 a2 a3 a4 a5 a6 a7 a8 => ?_, fun k hk => ?_⟩, fun k' hk' => ?_, sw_chg_ok hv f8⟩
  · rw [e51, e52, e53, f1, f2, f3, f4, f6, sw_mchange (show _ < 8 by omega) f7]
    rw [← f4, ← f6]
  · rw [h1, h2, e51, e52, f1, f2, f4, f6, sw_mchange (show _ < 8 by omega) f7]
    rw [← f4, ← f6]
  · rw [sw_up_ne (by omega)]; exact hF.1 d hd a1 a2 a3 a4 a5 a6 a7 a8
  · rw [sw_up_ne (by omega)]; exact hF.2 k hk
  · rw [sw_M6_up f7]
    exact sw_chg_congr hS k' hk'
theorem sw_df0 {σ : sw_St} {N L la F R : Nat} (hC : sw_Cn σ N L la F R) {τ : sw_St} (hF : sw_FrZ σ τ) (hS : ∀ k : Nat, k < N → sw_M6 τ k = sw_X6 σ 5 k) : ∃ τ' : sw_St, fX10_doFit (-9) (-9) τ = some (if sw_ft σ N L la F R 0 = true then 1 else 0, τ') ∧ sw_FrM τ τ' := by
  obtain ⟨τ', g1, g2⟩ := sw_mdf hC hF hS (sw_rel_saw hC.1 hC.2.1.2.2 hC.2.1.2.1).2.1
  refine ⟨τ', ?_, g2⟩
  rw [fX10_doFit, if_neg (by decide), fX10_doFit_B30, if_neg (by decide), fX10_doFit_B61, g1, sw_bs, if_pos (by decide), fX10_doFit_B92, if_pos (by decide), if_pos (sw_blif _)]
  unfold sw_ft
  rw [sw_app0]
theorem sw_df1 {σ : sw_St} {N L la F R : Nat} (hC : sw_Cn σ N L la F R) {τ : sw_St} (hF : sw_FrZ σ τ) (hS : ∀ k : Nat, k < N → sw_M6 τ k = sw_X6 σ 5 k) {j : Nat} (hj : j < F) : ∃ τ' : sw_St, fX10_doFit (nI j) (-9) τ = some (if sw_ft σ N L la F R (2 ^ j) = true then 1 else 0, τ') ∧ sw_FrM τ τ' := by
  have hF6 := hC.2.2.2.2.1.1
  obtain ⟨c, k, x, hc, c1, c2, c3, c4, c5⟩ := sw_mfl hC hF hS (sw_rel_saw hC.1 hC.2.1.2.2 hC.2.1.2.1).2.1 hj
  obtain ⟨τ', g1, g2⟩ := sw_mdf hC c3 c4 c5
  refine ⟨sw_up τ' c k (τ c k), ?_, sw_rest (by omega) (by omega) (by omega) g2⟩
  have ok := sw_ok_nI (show j < 6 by omega) (by decide)
  rw [fX10_doFit, if_pos (nI_pos' (by omega)), if_pos ok, if_pos ok, if_pos ok, nI_clamp (by omega), c1, sw_bs, fX10_doFit_B30, if_neg (by decide), fX10_doFit_B61, g1, sw_bs, if_pos (by decide), fX10_doFit_B92, if_neg (nI_pos (by omega)), if_pos ok, if_pos ok, nI_clamp (by omega), c2 τ' (τ c k) (by rw [g2.1 51 (by decide) (by decide) (by decide), sw_up_ne (by omega)]) (by rw [g2.1 52 (by decide) (by decide) (by decide), sw_up_ne (by omega)]), sw_bs, if_pos (sw_blif _)]
  unfold sw_ft
  rw [sw_app1 hF6 hj]
theorem sw_df2 {σ : sw_St} {N L la F R : Nat} (hC : sw_Cn σ N L la F R) {τ : sw_St} (hF : sw_FrZ σ τ) (hS : ∀ k : Nat, k < N → sw_M6 τ k = sw_X6 σ 5 k) {i j : Nat} (hj : j < F) (hi : i < j) : ∃ τ' : sw_St, fX10_doFit (nI i) (nI j) τ = some (if sw_ft σ N L la F R (2 ^ i + 2 ^ j) = true then 1 else 0, τ') ∧ sw_FrM τ τ' := by
  have hF6 := hC.2.2.2.2.1.1
  obtain ⟨c, k, x, hc, c1, c2, c3, c4, c5⟩ := sw_mfl hC hF hS (sw_rel_saw hC.1 hC.2.1.2.2 hC.2.1.2.1).2.1 (show i < F by omega)
  obtain ⟨d, l, y, hd, d1, d2, d3, d4, d5⟩ := sw_mfl hC c3 c4 c5 hj
  obtain ⟨τ', g1, g2⟩ := sw_mdf hC d3 d4 d5
  have g3 := sw_rest (show d ≠ 37 by omega) (show d ≠ 49 by omega) (show d ≠ 50 by omega) g2
  have g4 := sw_rest (show c ≠ 37 by omega) (show c ≠ 49 by omega) (show c ≠ 50 by omega) g3
  refine ⟨_, ?_, g4⟩
  have ok := sw_ok_nI (show j < 6 by omega) (by decide)
  have oki := sw_ok_nI (show i < 6 by omega) (by decide)
  have ci : (nI i).toNatClampNeg = i := nI_clamp (by omega)
  have cj : (nI j).toNatClampNeg = j := nI_clamp (by omega)
  rw [fX10_doFit, if_pos (nI_pos' (by omega)), if_pos oki, if_pos oki, if_pos oki, ci, c1, sw_bs, fX10_doFit_B30, if_pos (nI_pos' (by omega)), if_pos ok, if_pos ok, if_pos ok, cj, d1, sw_bs, fX10_doFit_B61, g1, sw_bs, if_neg (nI_pos (by omega)), if_pos ok, if_pos ok, cj, d2 τ' _ (by rw [g2.1 51 (by decide) (by decide) (by decide), sw_up_ne (by omega)]) (by rw [g2.1 52 (by decide) (by decide) (by decide), sw_up_ne (by omega)]), sw_bs, fX10_doFit_B92, if_neg (nI_pos (by omega)), if_pos oki, if_pos oki, ci, c2 _ _ (by rw [g3.1 51 (by decide) (by decide) (by decide), sw_up_ne (by omega)]) (by rw [g3.1 52 (by decide) (by decide) (by decide), sw_up_ne (by omega)]), sw_bs, if_pos (sw_blif _)]
  unfold sw_ft
  rw [sw_app2 hF6 hj hi]
/-- how many flaws a mask has -/
def sw_pcn (v : Nat) : Nat := v % 2 + v / 2 % 2 + v / 4 % 2 + v / 8 % 2 + v / 16 % 2 + v / 32 % 2
def sw_bcv (x : Int32) : Int32 := match fJ6_bitCount_0f7a4 x (fun _ _ => 0) with
  | some p => p.1
  | none => 0
theorem sw_bcv_e : ∀ v : Nat, v < 64 → sw_bcv (nI v) = nI (sw_pcn v) := by decide +kernel
theorem sw_bc {v : Nat} (hv : v < 64) (σ : sw_St) : fJ6_bitCount_0f7a4 (nI v) σ = some (nI (sw_pcn v), σ) := by
  rw [← sw_bcv_e v hv]; rfl
theorem sw_and : ∀ v : Nat, v < 64 → ∀ m : Nat, m < 64 → ((nI v &&& nI m) = nI m ↔ v &&& m = m) := by decide +kernel
theorem sw_pc6 (v : Nat) : sw_pcn v ≤ 6 := by unfold sw_pcn; omega
def sw_sel (m v : Nat) : Bool := decide (sw_pcn v ≤ 2) && decide (v &&& m = m)
theorem sw_cfL {σ : sw_St} {N L la F R : Nat} (hC : sw_Cn σ N L la F R) {m P : Nat} (hm : m < 64) (hP : P ≤ 64) : ∀ (n v : Nat) (τ : sw_St), v ≤ P → P - v < n → sw_FrX σ τ → ∃ τ' : sw_St, fX9_countFitting_L15 n (nI m) (nI P) (nI (((List.range v).filter (sw_sel m)).countP (sw_ft σ N L la F R))) (nI v) τ = some (nI (((List.range P).filter (sw_sel m)).countP (sw_ft σ N L la F R)), τ') ∧ sw_FrX σ τ' := by
  intro n
  induction n with
  | zero => intro v τ _ h; omega
  | succ n ih =>
    intro v τ hv hn hF
    rw [fX9_countFitting_L15]
    by_cases c : v = P
    · subst c
      rw [if_pos (nI_le (Nat.le_refl _) (by omega))]
      exact ⟨τ, rfl, hF⟩
    · have lt : v < P := by omega
      have p6 := sw_pc6 v
      have nx : ((List.range (v + 1)).filter (sw_sel m)).countP (sw_ft σ N L la F R) = ((List.range v).filter (sw_sel m)).countP (sw_ft σ N L la F R) + (if sw_sel m v = true then (if sw_ft σ N L la F R v = true then 1 else 0) else 0) := by
        rw [List.range_succ, List.filter_append, List.countP_append]
        congr 1
        by_cases s : sw_sel m v = true
        · rw [if_pos s, List.filter_cons_of_pos s, List.filter_nil, List.countP_singleton]
        · rw [if_neg s, List.filter_cons_of_neg s, List.filter_nil, List.countP_nil]
      have go : ∀ (x : Nat) (ρ : sw_St), x = ((List.range (v + 1)).filter (sw_sel m)).countP (sw_ft σ N L la F R) → sw_FrX σ ρ → ∃ τ' : sw_St, fX9_countFitting_B62 (fX9_countFitting_L15 n) (nI m) (nI P) (nI x) (nI v) ρ = some (nI (((List.range P).filter (sw_sel m)).countP (sw_ft σ N L la F R)), τ') ∧ sw_FrX σ τ' := fun x ρ hx hρ => by
        rw [fX9_countFitting_B62, nI_1, hx]
        exact ih (v + 1) ρ (by omega) (by omega) hρ
      rw [if_neg (nI_ge lt (by omega)), sw_bc (by omega), sw_bs]
      by_cases s : sw_sel m v = true
      · have s' := s
        simp only [sw_sel, Bool.and_eq_true, decide_eq_true_eq] at s'
        obtain ⟨τ1, g1, g2⟩ := sw_xfit hC (show v < 64 by omega) hF
        rw [if_neg (show ¬ (2 : Int32) < nI (sw_pcn v) from nI_nlt (a := 2) (by omega) (by decide)), if_pos ((sw_and v (by omega) m hm).mpr s'.2), fX9_countFitting_B43, if_neg (by decide), g1, sw_bs]
        rw [if_pos s] at nx
        by_cases f : sw_ft σ N L la F R v = true
        · rw [if_pos f] at nx
          rw [if_pos f, if_neg (by decide), nI_1]
          exact go _ τ1 nx.symm g2
        · rw [if_neg f] at nx
          rw [if_neg f, if_pos rfl]
          exact go _ τ1 nx.symm g2
      · rw [if_neg s] at nx
        have e : fX9_countFitting_B42 (fX9_countFitting_L15 n) (nI m) (nI P) (nI (((List.range v).filter (sw_sel m)).countP (sw_ft σ N L la F R))) (nI v) τ = fX9_countFitting_B62 (fX9_countFitting_L15 n) (nI m) (nI P) (nI (((List.range v).filter (sw_sel m)).countP (sw_ft σ N L la F R))) (nI v) τ := by
          rw [fX9_countFitting_B42, fX9_countFitting_B43, if_pos rfl]
        rw [e]
        by_cases c1 : sw_pcn v ≤ 2
        · have c2 : ¬ v &&& m = m := fun q => s (by simp [sw_sel, c1, q])
          rw [if_neg (show ¬ (2 : Int32) < nI (sw_pcn v) from nI_nlt (a := 2) (by omega) (by decide)), if_neg (fun q => c2 ((sw_and v (by omega) m hm).mp q))]
          exact go _ τ nx.symm hF
        · rw [if_pos (show (2 : Int32) < nI (sw_pcn v) from nI_lt (a := 2) (by omega) (by omega))]
          exact go _ τ nx.symm hF
