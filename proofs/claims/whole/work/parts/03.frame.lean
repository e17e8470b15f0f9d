/-! The judgement sw_J: the machine at a frame of one method, with the whole system's cells as one function sw_St (cell number, place) -> Int32, does what a pure expression e says. Rules: one a kind of instruction. -/
abbrev sw_St : Type := Nat → Nat → Int32
abbrev sw_H : Type := Nat ⊕ (Nat × List (Option Nat))
def sw_up (σ : sw_St) (c k : Nat) (v : Int32) : sw_St := fun c' => if c' = c then upd (σ c) k v else σ c'
def sw_ar (σ : sw_St) (c : Nat) (f : Nat → Int32) : sw_St := fun c' => if c' = c then f else σ c'
/-- a named value; a call; an answer that is 0 or 1; enough turns for any loop -/
def sw_let {β γ : Type} (v : β) (K : β → γ) : γ := K v
def sw_bind {β γ : Type} (o : Option (β × sw_St)) (K : β → sw_St → Option γ) : Option γ := match o with
  | none => none
  | some (r, τ) => K r τ
def sw_bl (x : Int32) : Bool := decide (x = 0) || decide (x = 1)
def sw_fuel : Nat := 200000
theorem sw_bl_nar {x : Int32} (h : sw_bl x = true) : narrow .boolean (.int x) = .int x := by
  simp only [sw_bl, Bool.or_eq_true, decide_eq_true_eq] at h
  rcases h with rfl | rfl <;> rfl
/-- an index into a row of n -/
def sw_ok (i : Int32) (n : Nat) : Bool := decide (0 ≤ i.toInt) && decide (i.toInt < n)
theorem sw_ok_in {i : Int32} {n : Nat} (h : sw_ok i n = true) : vp_in i n := by
  rw [vp_in_iff]
  simpa [sw_ok] using h
def sw_fl9 : List (Option Nat) := [some 1, some 5, some 9, some 13, some 17, some 21, some 22, some 23, some 26, some 30, some 33, some 34, none, none]
def sw_fl10 : List (Option Nat) := [none, none, some 38, some 39, some 40, some 41, some 42, none, none, some 43, some 44, some 45, none, some 46, some 47, some 48, none, none, none, none, none, some 49, some 50, none, none, some 51, some 52, some 53, none, some 54, some 55, none, none, some 56, none, none, none, none, some 57, some 58, none, some 59, some 60, some 61, some 62, none]
/-- the shape of the system: an int row of n, or an object of a class with its fields (a cell that it holds, or an int) -/
def sw_sh : List sw_H := [.inr (9, sw_fl9), .inr (7, [some 2, some 3, some 4]), .inl 4, .inl 4, .inl 320, .inr (6, [none, some 6, some 7, some 8]), .inl 8, .inl 8, .inl 24, .inr (6, [none, some 10, some 11, some 12]), .inl 8, .inl 8, .inl 24, .inr (6, [none, some 14, some 15, some 16]), .inl 8, .inl 8, .inl 24, .inr (0, [none, some 18, some 19, some 20]), .inl 24, .inl 24, .inl 24, .inr (3, [none, none, none, none]), .inr (3, [none, none, none, none]), .inr (1, [none, none, none, some 24, some 25]), .inl 24, .inl 24, .inr (2, [none, some 27, some 28, some 29]), .inl 6, .inl 6, .inl 6, .inr (5, [none, some 31, some 32]), .inl 8, .inl 8, .inr (4, [none, none, none, none]), .inr (8, [none, some 35, some 36]), .inl 7, .inl 64, .inr (10, sw_fl10), .inl 8, .inl 8, .inl 8, .inl 8, .inl 8, .inl 8, .inl 8, .inl 72, .inl 24, .inl 24, .inl 24, .inl 24, .inl 24, .inl 6, .inl 6, .inl 6, .inl 8, .inl 8, .inl 6, .inl 6, .inl 7, .inl 4, .inl 4, .inl 320, .inl 80]
def sw_fs (ad : Nat → Nat) (f : Nat → Int32) (fl : List (Option Nat)) : List Value := fl.mapIdx (fun k o => match o with | some r => Value.ref (ad r) | none => Value.int (f k))
def sw_cell (ad : Nat → Nat) (cA : ClassId) (σ : sw_St) (c : Nat) (h : sw_H) : Nat × va_E := match h with
  | .inl n => (ad c, .inl (cA, n, .inl (σ c)))
  | .inr (ci, fl) => (ad c, .inr (ci, sw_fs ad (σ c) fl))
def sw_ws (ad : Nat → Nat) (cA : ClassId) (σ : sw_St) : va_W := sw_sh.mapIdx (fun c h => sw_cell ad cA σ c h)
theorem sw_ws_at (ad : Nat → Nat) (cA : ClassId) (σ : sw_St) (c : Nat) : (sw_ws ad cA σ)[c]? = (sw_sh[c]?).map (sw_cell ad cA σ c) := by
  simp [sw_ws, List.getElem?_mapIdx]
theorem sw_sh_len : sw_sh.length = 63 := rfl
theorem sw_cell_1 (ad : Nat → Nat) (cA : ClassId) (σ : sw_St) (c : Nat) (h : sw_H) : (sw_cell ad cA σ c h).1 = ad c := by
  cases h <;> rfl
theorem sw_ws_1 {ad : Nat → Nat} {cA : ClassId} {σ : sw_St} {c : Nat} {q : Nat × va_E} (h : (sw_ws ad cA σ)[c]? = some q) : c < 63 ∧ q.1 = ad c := by
  rw [sw_ws_at] at h
  cases hs : sw_sh[c]? with
  | none => rw [hs] at h; cases h
  | some z =>
    rw [hs] at h
    have hq : sw_cell ad cA σ c z = q := Option.some.inj h
    have hl := (List.getElem?_eq_some_iff.mp hs).1
    rw [sw_sh_len] at hl
    exact ⟨hl, by rw [← hq]; exact sw_cell_1 ad cA σ c z⟩
def sw_ap (ad : Nat → Nat) : Prop := ∀ i j : Nat, i < 63 → j < 63 → ad i = ad j → i = j
theorem sw_D {ad : Nat → Nat} {cA : ClassId} {σ : sw_St} {A : Nat → Prop} (hap : sw_ap ad) (hA : ∀ i : Nat, i < 63 → A (ad i)) : va_D A (sw_ws ad cA σ) := by
  refine ⟨fun i j p q hi hj hpq => ?_, fun k q hk => ?_⟩
  · obtain ⟨h1, h2⟩ := sw_ws_1 hi
    obtain ⟨h3, h4⟩ := sw_ws_1 hj
    exact hap i j h1 h3 (by rw [← h2, ← h4, hpq])
  · obtain ⟨h1, h2⟩ := sw_ws_1 hk
    rw [h2]
    exact hA k h1
theorem sw_at_arr {ad : Nat → Nat} {cA : ClassId} {σ : sw_St} {c n : Nat} (hs : sw_sh[c]? = some (.inl n)) : (sw_ws ad cA σ)[c]? = some (ad c, .inl (cA, n, .inl (σ c))) := by
  rw [sw_ws_at, hs]; rfl
theorem sw_at_obj {ad : Nat → Nat} {cA : ClassId} {σ : sw_St} {c ci : Nat} {fl : List (Option Nat)} (hs : sw_sh[c]? = some (.inr (ci, fl))) : (sw_ws ad cA σ)[c]? = some (ad c, .inr (ci, sw_fs ad (σ c) fl)) := by
  rw [sw_ws_at, hs]; rfl
theorem sw_fs_int {ad : Nat → Nat} {f : Nat → Int32} {fl : List (Option Nat)} {k : Nat} (h : fl[k]? = some none) : (sw_fs ad f fl)[k]? = some (.int (f k)) := by
  simp [sw_fs, List.getElem?_mapIdx, h]
theorem sw_fs_ref {ad : Nat → Nat} {f : Nat → Int32} {fl : List (Option Nat)} {k r : Nat} (h : fl[k]? = some (some r)) : (sw_fs ad f fl)[k]? = some (.ref (ad r)) := by
  simp [sw_fs, List.getElem?_mapIdx, h]
theorem sw_fs_set {ad : Nat → Nat} {f : Nat → Int32} {fl : List (Option Nat)} {k : Nat} {v : Int32} (h : fl[k]? = some none) : (sw_fs ad f fl).set k (.int v) = sw_fs ad (upd f k v) fl := by
  apply List.ext_getElem?
  intro j
  have hk := (List.getElem?_eq_some_iff.mp h).1
  by_cases hj : k = j
  · subst hj
    rw [sw_fs_int (ad := ad) (f := upd f k v) h, List.getElem?_set_self (by simpa [sw_fs] using hk)]
    simp [upd]
  · rw [List.getElem?_set_ne hj]
    simp only [sw_fs, List.getElem?_mapIdx]
    cases hq : fl[j]? with
    | none => rfl
    | some z =>
      cases z with
      | none => simp [upd, show ¬ j = k from fun q => hj q.symm]
      | some r => rfl
theorem sw_cell_ne {ad : Nat → Nat} {cA : ClassId} {σ τ : sw_St} {c : Nat} (h : τ c = σ c) (z : sw_H) : sw_cell ad cA τ c z = sw_cell ad cA σ c z := by
  cases z <;> simp [sw_cell, h]
theorem sw_ws_set {ad : Nat → Nat} {cA : ClassId} {σ τ : sw_St} {c : Nat} {z : sw_H} {q : Nat × va_E} (hs : sw_sh[c]? = some z) (hq : sw_cell ad cA τ c z = q) (ho : ∀ j, j ≠ c → τ j = σ j) : (sw_ws ad cA σ).set c q = sw_ws ad cA τ := by
  apply List.ext_getElem?
  intro j
  by_cases hj : c = j
  · subst hj
    have hl := (List.getElem?_eq_some_iff.mp hs).1
    rw [List.getElem?_set_self (by simpa [sw_ws] using hl), sw_ws_at, hs]
    simp [hq]
  · rw [List.getElem?_set_ne hj, sw_ws_at, sw_ws_at]
    cases sw_sh[j]? with
    | none => rfl
    | some z => simp [sw_cell_ne (ho j (fun q => hj q.symm))]
theorem sw_ws_put {ad : Nat → Nat} {cA : ClassId} {σ : sw_St} {c ci k : Nat} {fl : List (Option Nat)} {v : Int32} (hs : sw_sh[c]? = some (.inr (ci, fl))) (h : fl[k]? = some none) : (sw_ws ad cA σ).set c (ad c, .inr (ci, (sw_fs ad (σ c) fl).set k (.int v))) = sw_ws ad cA (sw_up σ c k v) :=
  sw_ws_set hs (by rw [sw_fs_set h]; simp [sw_cell, sw_up]) (fun j hj => by simp [sw_up, hj])
theorem sw_ws_ast {ad : Nat → Nat} {cA : ClassId} {σ : sw_St} {c n k : Nat} {v : Int32} (hs : sw_sh[c]? = some (.inl n)) : (sw_ws ad cA σ).set c (ad c, .inl (cA, n, .inl (upd (σ c) k v))) = sw_ws ad cA (sw_up σ c k v) :=
  sw_ws_set hs (by simp [sw_cell, sw_up]) (fun j hj => by simp [sw_up, hj])
theorem sw_ws_ar {ad : Nat → Nat} {cA : ClassId} {σ : sw_St} {c n : Nat} {f : Nat → Int32} (hs : sw_sh[c]? = some (.inl n)) : (sw_ws ad cA σ).set c (ad c, .inl (cA, n, .inl f)) = sw_ws ad cA (sw_ar σ c f) :=
  sw_ws_set hs (by simp [sw_cell, sw_ar]) (fun j hj => by simp [sw_ar, hj])
/-- the words of the tables that may be carried to a callee -/
def sw_tbl : List Cond := lw_tbl.filter goodWord
theorem sw_mem {w : Cond} (j : Nat) (h : lw_tbl[j]? = some w) (hg : goodWord w = true) : w ∈ sw_tbl := List.mem_filter.mpr ⟨List.mem_of_getElem? h, hg⟩
theorem sw_memw {w : Cond} (h : w ∈ lw_tbl) (hg : goodWord w = true) : w ∈ sw_tbl := List.mem_filter.mpr ⟨h, hg⟩
def sw_wsU (y : MethodName) (cc : ByteArray) (nL : Nat) (ret : Option FieldType) : List Cond := .code y cc nL ret :: sw_tbl
theorem sw_goodU {y : MethodName} {cc : ByteArray} {nL : Nat} {ret : Option FieldType} (h : Cond.code y cc nL ret ∈ sw_tbl) : GoodIn sw_tbl (sw_wsU y cc nL ret) := by
  intro w hw
  have hm : w ∈ sw_tbl := by
    rcases List.mem_cons.mp hw with rfl | h2
    · exact h
    · exact h2
  exact ⟨hm, good_of_word (List.mem_filter.mp hm).2⟩
/-- all that stays the same through a method: program, launch, environment, room, start, method; arguments, frames below, code; cells, slots, end; the method's own cells, class numbers, the int row's class, how many locals -/
abbrev sw_X : Type := (Program × Launch × Env × Room × State × MethodId) × (Array Value × List Frame × Method × Code) × (Nat × Nat × (State → Prop)) × ((Nat → Prop) × va_G × ClassId × Nat)
def sw_B (X : sw_X) (ad : Nat → Nat) (pc : Nat) (L : List (Nat × Value)) (st : List Value) (σ : sw_St) : Prop := match X with
  | ((p, l, e, R, s, m), (args, below, meth, c), (cells, slots, Q), (A, D, cA, nL)) => ∀ (H : Heap) (locs : List Loc) (ls : Array Slot), va_P D vwCl (sw_ws ad cA σ) H → va_S A s.heap H locs → lv_has ls nL L → W p l e R s m args below meth c H locs cells slots Q (F0 m pc ls st)
def sw_C (X : sw_X) (ad : Nat → Nat) (cc : ByteArray) (own : String) (d : Nat) : Prop := match X with
  | ((p, l, e, R, s, m), (args, below, meth, c), (cells, slots, Q), (A, D, cA, nL)) => p.tables.exec = Jvm.exec ∧ c.code = cc ∧ c.maxLocals = nL ∧ s.vm.findClass own = some m.cls ∧ (∀ w ∈ sw_tbl, w.before args s = true) ∧ va_K D vwCl [(cA, .int)] s ∧ sw_ap ad ∧ (∀ i : Nat, i < 63 → A (ad i)) ∧ (∀ q : Nat, s.heap.size ≤ q → A q) ∧ d ≤ R.frames ∧ 40 * d ≤ R.locals ∧ cells ≤ R.cells ∧ slots ≤ R.slots
def sw_nL (X : sw_X) : Nat := X.2.2.2.2.2.2
def sw_J {α : Type} (X : sw_X) (ad : Nat → Nat) (t : α × sw_St) (pc : Nat) (L : List (Nat × Value)) (st : List Value) (σ : sw_St) (e : Option (α × sw_St)) : Prop := e = some t → sw_B X ad pc L st σ
section
variable {α : Type} {X : sw_X} {ad : Nat → Nat} {cc : ByteArray} {own : String} {d : Nat} {t : α × sw_St} {pc : Nat} {L : List (Nat × Value)} {st : List Value} {σ : sw_St} {e e1 e2 : Option (α × sw_St)}
theorem sw_none : sw_J X ad t pc L st σ (none : Option (α × sw_St)) := fun h => by cases h
theorem sw_eq (h : e = e1) (k : sw_J X ad t pc L st σ e1) : sw_J X ad t pc L st σ e := h ▸ k
theorem sw_pc {pc' : Nat} (h : pc' = pc) (k : sw_J X ad t pc' L st σ e) : sw_J X ad t pc L st σ e := h ▸ k
theorem sw_ite {q : Prop} {i : Decidable q} (h1 : q → sw_J X ad t pc L st σ e1) (h2 : ¬ q → sw_J X ad t pc L st σ e2) : sw_J X ad t pc L st σ (@ite _ q i e1 e2) := by
  by_cases h : q
  · rw [if_pos h]; exact h1 h
  · rw [if_neg h]; exact h2 h
theorem sw_leti {v : Int32} {K : Int32 → Option (α × sw_St)} (k : ∀ x : Int32, sw_J X ad t pc L (.int x :: st) σ (K x)) : sw_J X ad t pc L (.int v :: st) σ (sw_let v K) := k v
/-- fewer listed locals -/
theorem sw_lpick {L' : List (Nat × Value)} (ks : List Nat) (hL : lv_pick L ks = L') (k : sw_J X ad t pc L' st σ e) : sw_J X ad t pc L st σ e := by
  obtain ⟨⟨p, l, ev, R, s, m⟩, ⟨args, below, meth, c⟩, ⟨cells, slots, Q⟩, ⟨A, D, cA, nL⟩⟩ := X
  intro he H locs ls hP hS hl
  exact k he H locs ls hP hS (lv_sub hl ks hL)

theorem sw_iconst {n : Int} {v : Int32} (C : sw_C X ad cc own d) (hd : decode cc pc = .ok (.iconst n, 1)) (hv : Int32.ofInt n = v) (k : sw_J X ad t (pc + 1) L (.int v :: st) σ e) : sw_J X ad t pc L (st) σ e := by
  obtain ⟨⟨p, l, ev, R, s, m⟩, ⟨args, below, meth, c⟩, ⟨cells, slots, Q⟩, ⟨A, D, cA, nL⟩⟩ := X
  obtain ⟨hx, hb, hml, hown, hts, hK, hap, hAd, hA, hF, hR, hc1, hc2⟩ := C
  intro he H locs ls hP hS hl
  exact lv_iconst hx hb hd hv (k he H locs ls hP hS hl)
theorem sw_bipush {n : Int} {v : Int32} (C : sw_C X ad cc own d) (hd : decode cc pc = .ok (.bipush n, 2)) (hv : (Int8.ofInt n).toInt32 = v) (k : sw_J X ad t (pc + 2) L (.int v :: st) σ e) : sw_J X ad t pc L (st) σ e := by
  obtain ⟨⟨p, l, ev, R, s, m⟩, ⟨args, below, meth, c⟩, ⟨cells, slots, Q⟩, ⟨A, D, cA, nL⟩⟩ := X
  obtain ⟨hx, hb, hml, hown, hts, hK, hap, hAd, hA, hF, hR, hc1, hc2⟩ := C
  intro he H locs ls hP hS hl
  exact lv_bipush hx hb hd hv (k he H locs ls hP hS hl)
theorem sw_sipush {n : Int} {v : Int32} (C : sw_C X ad cc own d) (hd : decode cc pc = .ok (.sipush n, 3)) (hv : (Int16.ofInt n).toInt32 = v) (k : sw_J X ad t (pc + 3) L (.int v :: st) σ e) : sw_J X ad t pc L (st) σ e := by
  obtain ⟨⟨p, l, ev, R, s, m⟩, ⟨args, below, meth, c⟩, ⟨cells, slots, Q⟩, ⟨A, D, cA, nL⟩⟩ := X
  obtain ⟨hx, hb, hml, hown, hts, hK, hap, hAd, hA, hF, hR, hc1, hc2⟩ := C
  intro he H locs ls hP hS hl
  exact lv_sipush hx hb hd hv (k he H locs ls hP hS hl)
theorem sw_lconst {n : Fin 2} {v : Int64} (C : sw_C X ad cc own d) (hd : decode cc pc = .ok (.lconst n, 1)) (hv : Int64.ofNat (n : Nat) = v) (k : sw_J X ad t (pc + 1) L (.long v :: st) σ e) : sw_J X ad t pc L (st) σ e := by
  obtain ⟨⟨p, l, ev, R, s, m⟩, ⟨args, below, meth, c⟩, ⟨cells, slots, Q⟩, ⟨A, D, cA, nL⟩⟩ := X
  obtain ⟨hx, hb, hml, hown, hts, hK, hap, hAd, hA, hF, hR, hc1, hc2⟩ := C
  intro he H locs ls hP hS hl
  exact lv_lconst hx hb hd hv (k he H locs ls hP hS hl)
theorem sw_ldc {n : Nat} {v : Int32} (C : sw_C X ad cc own d) (hd : decode cc pc = .ok (.ldc n, 2)) (hw : Cond.constant own n v ∈ sw_tbl) (k : sw_J X ad t (pc + 2) L (.int v :: st) σ e) : sw_J X ad t pc L (st) σ e := by
  obtain ⟨⟨p, l, ev, R, s, m⟩, ⟨args, below, meth, c⟩, ⟨cells, slots, Q⟩, ⟨A, D, cA, nL⟩⟩ := X
  obtain ⟨hx, hb, hml, hown, hts, hK, hap, hAd, hA, hF, hR, hc1, hc2⟩ := C
  intro he H locs ls hP hS hl
  exact lv_ldc hx hb hown (hts _ hw) hd (k he H locs ls hP hS hl)
theorem sw_ldcw {n : Nat} {v : Int32} (C : sw_C X ad cc own d) (hd : decode cc pc = .ok (.ldc_w n, 3)) (hw : Cond.constant own n v ∈ sw_tbl) (k : sw_J X ad t (pc + 3) L (.int v :: st) σ e) : sw_J X ad t pc L (st) σ e := by
  obtain ⟨⟨p, l, ev, R, s, m⟩, ⟨args, below, meth, c⟩, ⟨cells, slots, Q⟩, ⟨A, D, cA, nL⟩⟩ := X
  obtain ⟨hx, hb, hml, hown, hts, hK, hap, hAd, hA, hF, hR, hc1, hc2⟩ := C
  intro he H locs ls hP hS hl
  exact lv_ldcw hx hb hown (hts _ hw) hd (k he H locs ls hP hS hl)
theorem sw_ldc2 {n : Nat} {v : Int64} (C : sw_C X ad cc own d) (hd : decode cc pc = .ok (.ldc2_w n, 3)) (hw : Cond.constantLong own n v ∈ sw_tbl) (k : sw_J X ad t (pc + 3) L (.long v :: st) σ e) : sw_J X ad t pc L (st) σ e := by
  obtain ⟨⟨p, l, ev, R, s, m⟩, ⟨args, below, meth, c⟩, ⟨cells, slots, Q⟩, ⟨A, D, cA, nL⟩⟩ := X
  obtain ⟨hx, hb, hml, hown, hts, hK, hap, hAd, hA, hF, hR, hc1, hc2⟩ := C
  intro he H locs ls hP hS hl
  exact lv_ldc2 hx hb hown (hts _ hw) hd (k he H locs ls hP hS hl)
theorem sw_iloadn {x : Int32} (i : Fin 4) (j : Nat) (C : sw_C X ad cc own d) (hd : decode cc pc = .ok (.iload_n i, 1)) (hj : L[j]? = some ((i : Nat), Value.int x)) (k : sw_J X ad t (pc + 1) L (.int x :: st) σ e) : sw_J X ad t pc L (st) σ e := by
  obtain ⟨⟨p, l, ev, R, s, m⟩, ⟨args, below, meth, c⟩, ⟨cells, slots, Q⟩, ⟨A, D, cA, nL⟩⟩ := X
  obtain ⟨hx, hb, hml, hown, hts, hK, hap, hAd, hA, hF, hR, hc1, hc2⟩ := C
  intro he H locs ls hP hS hl
  exact lv_iload_n hx hb hd rfl (lv_at hl j hj) (k he H locs ls hP hS hl)
theorem sw_iload {x : Int32} {i : Nat} (j : Nat) (C : sw_C X ad cc own d) (hd : decode cc pc = .ok (.iload i, 2)) (hj : L[j]? = some (i, Value.int x)) (k : sw_J X ad t (pc + 2) L (.int x :: st) σ e) : sw_J X ad t pc L (st) σ e := by
  obtain ⟨⟨p, l, ev, R, s, m⟩, ⟨args, below, meth, c⟩, ⟨cells, slots, Q⟩, ⟨A, D, cA, nL⟩⟩ := X
  obtain ⟨hx, hb, hml, hown, hts, hK, hap, hAd, hA, hF, hR, hc1, hc2⟩ := C
  intro he H locs ls hP hS hl
  exact lv_iload hx hb hd (lv_at hl j hj) (k he H locs ls hP hS hl)
theorem sw_lloadn {x : Int64} (i : Fin 4) (j : Nat) (C : sw_C X ad cc own d) (hd : decode cc pc = .ok (.lload_n i, 1)) (hj : L[j]? = some ((i : Nat), Value.long x)) (k : sw_J X ad t (pc + 1) L (.long x :: st) σ e) : sw_J X ad t pc L (st) σ e := by
  obtain ⟨⟨p, l, ev, R, s, m⟩, ⟨args, below, meth, c⟩, ⟨cells, slots, Q⟩, ⟨A, D, cA, nL⟩⟩ := X
  obtain ⟨hx, hb, hml, hown, hts, hK, hap, hAd, hA, hF, hR, hc1, hc2⟩ := C
  intro he H locs ls hP hS hl
  exact lv_lload_n hx hb hd rfl (lv_at hl j hj) (k he H locs ls hP hS hl)
theorem sw_lload {x : Int64} {i : Nat} (j : Nat) (C : sw_C X ad cc own d) (hd : decode cc pc = .ok (.lload i, 2)) (hj : L[j]? = some (i, Value.long x)) (k : sw_J X ad t (pc + 2) L (.long x :: st) σ e) : sw_J X ad t pc L (st) σ e := by
  obtain ⟨⟨p, l, ev, R, s, m⟩, ⟨args, below, meth, c⟩, ⟨cells, slots, Q⟩, ⟨A, D, cA, nL⟩⟩ := X
  obtain ⟨hx, hb, hml, hown, hts, hK, hap, hAd, hA, hF, hR, hc1, hc2⟩ := C
  intro he H locs ls hP hS hl
  exact lv_lload hx hb hd (lv_at hl j hj) (k he H locs ls hP hS hl)
theorem sw_aloadn {x : Nat} (i : Fin 4) (j : Nat) (C : sw_C X ad cc own d) (hd : decode cc pc = .ok (.aload_n i, 1)) (hj : L[j]? = some ((i : Nat), Value.ref x)) (k : sw_J X ad t (pc + 1) L (.ref x :: st) σ e) : sw_J X ad t pc L (st) σ e := by
  obtain ⟨⟨p, l, ev, R, s, m⟩, ⟨args, below, meth, c⟩, ⟨cells, slots, Q⟩, ⟨A, D, cA, nL⟩⟩ := X
  obtain ⟨hx, hb, hml, hown, hts, hK, hap, hAd, hA, hF, hR, hc1, hc2⟩ := C
  intro he H locs ls hP hS hl
  exact lv_aload_n hx hb hd rfl (lv_at hl j hj) (k he H locs ls hP hS hl)
theorem sw_aload {x : Nat} {i : Nat} (j : Nat) (C : sw_C X ad cc own d) (hd : decode cc pc = .ok (.aload i, 2)) (hj : L[j]? = some (i, Value.ref x)) (k : sw_J X ad t (pc + 2) L (.ref x :: st) σ e) : sw_J X ad t pc L (st) σ e := by
  obtain ⟨⟨p, l, ev, R, s, m⟩, ⟨args, below, meth, c⟩, ⟨cells, slots, Q⟩, ⟨A, D, cA, nL⟩⟩ := X
  obtain ⟨hx, hb, hml, hown, hts, hK, hap, hAd, hA, hF, hR, hc1, hc2⟩ := C
  intro he H locs ls hP hS hl
  exact lv_aload hx hb hd (lv_at hl j hj) (k he H locs ls hP hS hl)
theorem sw_istoren {x : Int32} (i : Fin 4) (L' : List (Nat × Value)) (C : sw_C X ad cc own d) (hd : decode cc pc = .ok (.istore_n i, 1)) (hn : (i : Nat) < sw_nL X) (hL : ((i : Nat), Value.int x) :: L.filter (fun q => !(q.1 == (i : Nat)) && !(q.1 + 1 == (i : Nat) && q.2.category == 2)) = L') (k : sw_J X ad t (pc + 1) L' st σ e) : sw_J X ad t pc L (.int x :: st) σ e := by
  obtain ⟨⟨p, l, ev, R, s, m⟩, ⟨args, below, meth, c⟩, ⟨cells, slots, Q⟩, ⟨A, D, cA, nL⟩⟩ := X
  obtain ⟨hx, hb, hml, hown, hts, hK, hap, hAd, hA, hF, hR, hc1, hc2⟩ := C
  intro he H locs ls hP hS hl
  exact lv_istore_n hx hb hd rfl hl hn hL (fun ls' hl' => k he H locs ls' hP hS hl')
theorem sw_astoren {x : Nat} (i : Fin 4) (L' : List (Nat × Value)) (C : sw_C X ad cc own d) (hd : decode cc pc = .ok (.astore_n i, 1)) (hn : (i : Nat) < sw_nL X) (hL : ((i : Nat), Value.ref x) :: L.filter (fun q => !(q.1 == (i : Nat)) && !(q.1 + 1 == (i : Nat) && q.2.category == 2)) = L') (k : sw_J X ad t (pc + 1) L' st σ e) : sw_J X ad t pc L (.ref x :: st) σ e := by
  obtain ⟨⟨p, l, ev, R, s, m⟩, ⟨args, below, meth, c⟩, ⟨cells, slots, Q⟩, ⟨A, D, cA, nL⟩⟩ := X
  obtain ⟨hx, hb, hml, hown, hts, hK, hap, hAd, hA, hF, hR, hc1, hc2⟩ := C
  intro he H locs ls hP hS hl
  exact lv_astore_n hx hb hd rfl hl hn hL (fun ls' hl' => k he H locs ls' hP hS hl')
theorem sw_istore {x : Int32} {i : Nat} (L' : List (Nat × Value)) (C : sw_C X ad cc own d) (hd : decode cc pc = .ok (.istore i, 2)) (hn : i < sw_nL X) (hL : (i, Value.int x) :: L.filter (fun q => !(q.1 == i) && !(q.1 + 1 == i && q.2.category == 2)) = L') (k : sw_J X ad t (pc + 2) L' st σ e) : sw_J X ad t pc L (.int x :: st) σ e := by
  obtain ⟨⟨p, l, ev, R, s, m⟩, ⟨args, below, meth, c⟩, ⟨cells, slots, Q⟩, ⟨A, D, cA, nL⟩⟩ := X
  obtain ⟨hx, hb, hml, hown, hts, hK, hap, hAd, hA, hF, hR, hc1, hc2⟩ := C
  intro he H locs ls hP hS hl
  exact lv_istore hx hb hd hl hn hL (fun ls' hl' => k he H locs ls' hP hS hl')
theorem sw_iinc {x : Int32} {i : Nat} {n : Int} (v : Int32) (j : Nat) (L' : List (Nat × Value)) (C : sw_C X ad cc own d) (hd : decode cc pc = .ok (.iinc i n, 3)) (hn : i < sw_nL X) (hj : L[j]? = some (i, Value.int x)) (hv : x + Int32.ofInt n = v) (hL : (i, Value.int v) :: L.filter (fun q => !(q.1 == i) && !(q.1 + 1 == i && q.2.category == 2)) = L') (k : sw_J X ad t (pc + 3) L' st σ e) : sw_J X ad t pc L st σ e := by
  obtain ⟨⟨p, l, ev, R, s, m⟩, ⟨args, below, meth, c⟩, ⟨cells, slots, Q⟩, ⟨A, D, cA, nL⟩⟩ := X
  obtain ⟨hx, hb, hml, hown, hts, hK, hap, hAd, hA, hF, hR, hc1, hc2⟩ := C
  intro he H locs ls hP hS hl
  exact lv_iinc hx hb hd hl hj hv hn hL (fun ls' hl' => k he H locs ls' hP hS hl')
theorem sw_iadd {x y : Int32} (C : sw_C X ad cc own d) (hd : decode cc pc = .ok (.iadd, 1))  (k : sw_J X ad t (pc + 1) L (.int (x + y) :: st) σ e) : sw_J X ad t pc L (.int y :: .int x :: st) σ e := by
  obtain ⟨⟨p, l, ev, R, s, m⟩, ⟨args, below, meth, c⟩, ⟨cells, slots, Q⟩, ⟨A, D, cA, nL⟩⟩ := X
  obtain ⟨hx, hb, hml, hown, hts, hK, hap, hAd, hA, hF, hR, hc1, hc2⟩ := C
  intro he H locs ls hP hS hl
  exact lv_iadd hx hb hd (k he H locs ls hP hS hl)
theorem sw_isub {x y : Int32} (C : sw_C X ad cc own d) (hd : decode cc pc = .ok (.isub, 1))  (k : sw_J X ad t (pc + 1) L (.int (x - y) :: st) σ e) : sw_J X ad t pc L (.int y :: .int x :: st) σ e := by
  obtain ⟨⟨p, l, ev, R, s, m⟩, ⟨args, below, meth, c⟩, ⟨cells, slots, Q⟩, ⟨A, D, cA, nL⟩⟩ := X
  obtain ⟨hx, hb, hml, hown, hts, hK, hap, hAd, hA, hF, hR, hc1, hc2⟩ := C
  intro he H locs ls hP hS hl
  exact lv_isub hx hb hd (k he H locs ls hP hS hl)
theorem sw_imul {x y : Int32} (C : sw_C X ad cc own d) (hd : decode cc pc = .ok (.imul, 1))  (k : sw_J X ad t (pc + 1) L (.int (x * y) :: st) σ e) : sw_J X ad t pc L (.int y :: .int x :: st) σ e := by
  obtain ⟨⟨p, l, ev, R, s, m⟩, ⟨args, below, meth, c⟩, ⟨cells, slots, Q⟩, ⟨A, D, cA, nL⟩⟩ := X
  obtain ⟨hx, hb, hml, hown, hts, hK, hap, hAd, hA, hF, hR, hc1, hc2⟩ := C
  intro he H locs ls hP hS hl
  exact lv_imul hx hb hd (k he H locs ls hP hS hl)
theorem sw_iand {x y : Int32} (C : sw_C X ad cc own d) (hd : decode cc pc = .ok (.iand, 1))  (k : sw_J X ad t (pc + 1) L (.int (x &&& y) :: st) σ e) : sw_J X ad t pc L (.int y :: .int x :: st) σ e := by
  obtain ⟨⟨p, l, ev, R, s, m⟩, ⟨args, below, meth, c⟩, ⟨cells, slots, Q⟩, ⟨A, D, cA, nL⟩⟩ := X
  obtain ⟨hx, hb, hml, hown, hts, hK, hap, hAd, hA, hF, hR, hc1, hc2⟩ := C
  intro he H locs ls hP hS hl
  exact lv_iand hx hb hd (k he H locs ls hP hS hl)
theorem sw_ior {x y : Int32} (C : sw_C X ad cc own d) (hd : decode cc pc = .ok (.ior, 1))  (k : sw_J X ad t (pc + 1) L (.int (x ||| y) :: st) σ e) : sw_J X ad t pc L (.int y :: .int x :: st) σ e := by
  obtain ⟨⟨p, l, ev, R, s, m⟩, ⟨args, below, meth, c⟩, ⟨cells, slots, Q⟩, ⟨A, D, cA, nL⟩⟩ := X
  obtain ⟨hx, hb, hml, hown, hts, hK, hap, hAd, hA, hF, hR, hc1, hc2⟩ := C
  intro he H locs ls hP hS hl
  exact lv_ior hx hb hd (k he H locs ls hP hS hl)
theorem sw_ishl {x y : Int32} (C : sw_C X ad cc own d) (hd : decode cc pc = .ok (.ishl, 1))  (k : sw_J X ad t (pc + 1) L (.int (x <<< (y &&& 31)) :: st) σ e) : sw_J X ad t pc L (.int y :: .int x :: st) σ e := by
  obtain ⟨⟨p, l, ev, R, s, m⟩, ⟨args, below, meth, c⟩, ⟨cells, slots, Q⟩, ⟨A, D, cA, nL⟩⟩ := X
  obtain ⟨hx, hb, hml, hown, hts, hK, hap, hAd, hA, hF, hR, hc1, hc2⟩ := C
  intro he H locs ls hP hS hl
  exact lv_ishl hx hb hd (k he H locs ls hP hS hl)
theorem sw_ishr {x y : Int32} (C : sw_C X ad cc own d) (hd : decode cc pc = .ok (.ishr, 1))  (k : sw_J X ad t (pc + 1) L (.int (x >>> (y &&& 31)) :: st) σ e) : sw_J X ad t pc L (.int y :: .int x :: st) σ e := by
  obtain ⟨⟨p, l, ev, R, s, m⟩, ⟨args, below, meth, c⟩, ⟨cells, slots, Q⟩, ⟨A, D, cA, nL⟩⟩ := X
  obtain ⟨hx, hb, hml, hown, hts, hK, hap, hAd, hA, hF, hR, hc1, hc2⟩ := C
  intro he H locs ls hP hS hl
  exact lv_ishr hx hb hd (k he H locs ls hP hS hl)
theorem sw_iushr {x y : Int32} (C : sw_C X ad cc own d) (hd : decode cc pc = .ok (.iushr, 1))  (k : sw_J X ad t (pc + 1) L (.int ((x.toUInt32 >>> (y.toUInt32 &&& Int32.toUInt32 31)).toInt32) :: st) σ e) : sw_J X ad t pc L (.int y :: .int x :: st) σ e := by
  obtain ⟨⟨p, l, ev, R, s, m⟩, ⟨args, below, meth, c⟩, ⟨cells, slots, Q⟩, ⟨A, D, cA, nL⟩⟩ := X
  obtain ⟨hx, hb, hml, hown, hts, hK, hap, hAd, hA, hF, hR, hc1, hc2⟩ := C
  intro he H locs ls hP hS hl
  exact lv_iushr hx hb hd rfl (k he H locs ls hP hS hl)
theorem sw_ineg {x : Int32} (C : sw_C X ad cc own d) (hd : decode cc pc = .ok (.ineg, 1))  (k : sw_J X ad t (pc + 1) L (.int (-x) :: st) σ e) : sw_J X ad t pc L (.int x :: st) σ e := by
  obtain ⟨⟨p, l, ev, R, s, m⟩, ⟨args, below, meth, c⟩, ⟨cells, slots, Q⟩, ⟨A, D, cA, nL⟩⟩ := X
  obtain ⟨hx, hb, hml, hown, hts, hK, hap, hAd, hA, hF, hR, hc1, hc2⟩ := C
  intro he H locs ls hP hS hl
  exact lv_ineg hx hb hd (k he H locs ls hP hS hl)
theorem sw_idivc {x y : Int32} (C : sw_C X ad cc own d) (hd : decode cc pc = .ok (.idiv, 1)) (hy : ¬ y = 0) (k : sw_J X ad t (pc + 1) L (.int (x / y) :: st) σ e) : sw_J X ad t pc L (.int y :: .int x :: st) σ e := by
  obtain ⟨⟨p, l, ev, R, s, m⟩, ⟨args, below, meth, c⟩, ⟨cells, slots, Q⟩, ⟨A, D, cA, nL⟩⟩ := X
  obtain ⟨hx, hb, hml, hown, hts, hK, hap, hAd, hA, hF, hR, hc1, hc2⟩ := C
  intro he H locs ls hP hS hl
  exact lv_idiv hx hb hd hy (k he H locs ls hP hS hl)
theorem sw_idiv {x y : Int32} {i : Decidable (y = 0)} (C : sw_C X ad cc own d) (hd : decode cc pc = .ok (.idiv, 1)) (k : sw_J X ad t (pc + 1) L (.int (x / y) :: st) σ e) : sw_J X ad t pc L (.int y :: .int x :: st) σ (@ite _ (y = 0) i none e) := by
  refine sw_ite (fun _ => sw_none) (fun hy => sw_idivc C hd hy k)
theorem sw_iremc {x y : Int32} (C : sw_C X ad cc own d) (hd : decode cc pc = .ok (.irem, 1)) (hy : ¬ y = 0) (k : sw_J X ad t (pc + 1) L (.int (x - x / y * y) :: st) σ e) : sw_J X ad t pc L (.int y :: .int x :: st) σ e := by
  obtain ⟨⟨p, l, ev, R, s, m⟩, ⟨args, below, meth, c⟩, ⟨cells, slots, Q⟩, ⟨A, D, cA, nL⟩⟩ := X
  obtain ⟨hx, hb, hml, hown, hts, hK, hap, hAd, hA, hF, hR, hc1, hc2⟩ := C
  intro he H locs ls hP hS hl
  exact lv_irem hx hb hd hy (k he H locs ls hP hS hl)
theorem sw_irem {x y : Int32} {i : Decidable (y = 0)} (C : sw_C X ad cc own d) (hd : decode cc pc = .ok (.irem, 1)) (k : sw_J X ad t (pc + 1) L (.int (x - x / y * y) :: st) σ e) : sw_J X ad t pc L (.int y :: .int x :: st) σ (@ite _ (y = 0) i none e) := by
  refine sw_ite (fun _ => sw_none) (fun hy => sw_iremc C hd hy k)
theorem sw_ladd {x y : Int64} (C : sw_C X ad cc own d) (hd : decode cc pc = .ok (.ladd, 1))  (k : sw_J X ad t (pc + 1) L (.long (x + y) :: st) σ e) : sw_J X ad t pc L (.long y :: .long x :: st) σ e := by
  obtain ⟨⟨p, l, ev, R, s, m⟩, ⟨args, below, meth, c⟩, ⟨cells, slots, Q⟩, ⟨A, D, cA, nL⟩⟩ := X
  obtain ⟨hx, hb, hml, hown, hts, hK, hap, hAd, hA, hF, hR, hc1, hc2⟩ := C
  intro he H locs ls hP hS hl
  exact lv_ladd hx hb hd (k he H locs ls hP hS hl)
theorem sw_lsub {x y : Int64} (C : sw_C X ad cc own d) (hd : decode cc pc = .ok (.lsub, 1))  (k : sw_J X ad t (pc + 1) L (.long (x - y) :: st) σ e) : sw_J X ad t pc L (.long y :: .long x :: st) σ e := by
  obtain ⟨⟨p, l, ev, R, s, m⟩, ⟨args, below, meth, c⟩, ⟨cells, slots, Q⟩, ⟨A, D, cA, nL⟩⟩ := X
  obtain ⟨hx, hb, hml, hown, hts, hK, hap, hAd, hA, hF, hR, hc1, hc2⟩ := C
  intro he H locs ls hP hS hl
  exact lv_lsub hx hb hd (k he H locs ls hP hS hl)
theorem sw_lcmp {x y : Int64} (C : sw_C X ad cc own d) (hd : decode cc pc = .ok (.lcmp, 1))  (k : sw_J X ad t (pc + 1) L (.int (lg_cmp x y) :: st) σ e) : sw_J X ad t pc L (.long y :: .long x :: st) σ e := by
  obtain ⟨⟨p, l, ev, R, s, m⟩, ⟨args, below, meth, c⟩, ⟨cells, slots, Q⟩, ⟨A, D, cA, nL⟩⟩ := X
  obtain ⟨hx, hb, hml, hown, hts, hK, hap, hAd, hA, hF, hR, hc1, hc2⟩ := C
  intro he H locs ls hP hS hl
  exact W.lcmp hx hb hd (k he H locs ls hP hS hl)
theorem sw_i2l {x : Int32} (C : sw_C X ad cc own d) (hd : decode cc pc = .ok (.i2l, 1))  (k : sw_J X ad t (pc + 1) L (.long x.toInt64 :: st) σ e) : sw_J X ad t pc L (.int x :: st) σ e := by
  obtain ⟨⟨p, l, ev, R, s, m⟩, ⟨args, below, meth, c⟩, ⟨cells, slots, Q⟩, ⟨A, D, cA, nL⟩⟩ := X
  obtain ⟨hx, hb, hml, hown, hts, hK, hap, hAd, hA, hF, hR, hc1, hc2⟩ := C
  intro he H locs ls hP hS hl
  exact lv_i2l hx hb hd rfl (k he H locs ls hP hS hl)
theorem sw_i2b {x : Int32} (C : sw_C X ad cc own d) (hd : decode cc pc = .ok (.i2b, 1))  (k : sw_J X ad t (pc + 1) L (.int x.toInt8.toInt32 :: st) σ e) : sw_J X ad t pc L (.int x :: st) σ e := by
  obtain ⟨⟨p, l, ev, R, s, m⟩, ⟨args, below, meth, c⟩, ⟨cells, slots, Q⟩, ⟨A, D, cA, nL⟩⟩ := X
  obtain ⟨hx, hb, hml, hown, hts, hK, hap, hAd, hA, hF, hR, hc1, hc2⟩ := C
  intro he H locs ls hP hS hl
  exact lv_i2b hx hb hd rfl (k he H locs ls hP hS hl)
theorem sw_i2s {x : Int32} (C : sw_C X ad cc own d) (hd : decode cc pc = .ok (.i2s, 1))  (k : sw_J X ad t (pc + 1) L (.int x.toInt16.toInt32 :: st) σ e) : sw_J X ad t pc L (.int x :: st) σ e := by
  obtain ⟨⟨p, l, ev, R, s, m⟩, ⟨args, below, meth, c⟩, ⟨cells, slots, Q⟩, ⟨A, D, cA, nL⟩⟩ := X
  obtain ⟨hx, hb, hml, hown, hts, hK, hap, hAd, hA, hF, hR, hc1, hc2⟩ := C
  intro he H locs ls hP hS hl
  exact lv_i2s hx hb hd rfl (k he H locs ls hP hS hl)
theorem sw_dup {v : Value} (C : sw_C X ad cc own d) (hd : decode cc pc = .ok (.dup, 1)) (hv : v.category = 1) (k : sw_J X ad t (pc + 1) L (v :: v :: st) σ e) : sw_J X ad t pc L (v :: st) σ e := by
  obtain ⟨⟨p, l, ev, R, s, m⟩, ⟨args, below, meth, c⟩, ⟨cells, slots, Q⟩, ⟨A, D, cA, nL⟩⟩ := X
  obtain ⟨hx, hb, hml, hown, hts, hK, hap, hAd, hA, hF, hR, hc1, hc2⟩ := C
  intro he H locs ls hP hS hl
  exact lv_dup hx hb hd hv (k he H locs ls hP hS hl)
theorem sw_dup2 {v u : Value} (C : sw_C X ad cc own d) (hd : decode cc pc = .ok (.dup2, 1)) (hv : v.category = 1) (hu : u.category = 1) (k : sw_J X ad t (pc + 1) L (v :: u :: v :: u :: st) σ e) : sw_J X ad t pc L (v :: u :: st) σ e := by
  obtain ⟨⟨p, l, ev, R, s, m⟩, ⟨args, below, meth, c⟩, ⟨cells, slots, Q⟩, ⟨A, D, cA, nL⟩⟩ := X
  obtain ⟨hx, hb, hml, hown, hts, hK, hap, hAd, hA, hF, hR, hc1, hc2⟩ := C
  intro he H locs ls hP hS hl
  exact lv_dup2_11 hx hb hd hv hu (k he H locs ls hP hS hl)
theorem sw_pop {v : Value} (C : sw_C X ad cc own d) (hd : decode cc pc = .ok (.pop, 1)) (hv : v.category = 1) (k : sw_J X ad t (pc + 1) L (st) σ e) : sw_J X ad t pc L (v :: st) σ e := by
  obtain ⟨⟨p, l, ev, R, s, m⟩, ⟨args, below, meth, c⟩, ⟨cells, slots, Q⟩, ⟨A, D, cA, nL⟩⟩ := X
  obtain ⟨hx, hb, hml, hown, hts, hK, hap, hAd, hA, hF, hR, hc1, hc2⟩ := C
  intro he H locs ls hP hS hl
  exact lv_pop hx hb hd hv (k he H locs ls hP hS hl)
theorem sw_goto {off : Int} (tgt : Nat) (C : sw_C X ad cc own d) (hd : decode cc pc = .ok (.goto off, 3)) (ht : (pc : Int) + off = (tgt : Int)) (k : sw_J X ad t tgt L st σ e) : sw_J X ad t pc L st σ e := by
  obtain ⟨⟨p, l, ev, R, s, m⟩, ⟨args, below, meth, c⟩, ⟨cells, slots, Q⟩, ⟨A, D, cA, nL⟩⟩ := X
  obtain ⟨hx, hb, hml, hown, hts, hK, hap, hAd, hA, hF, hR, hc1, hc2⟩ := C
  intro he H locs ls hP hS hl
  exact lv_goto hx hb hd ht (k he H locs ls hP hS hl)
theorem sw_if_eq {x : Int32} {off : Int} {i : Decidable (x = 0)} (tgt : Nat) (C : sw_C X ad cc own d) (hd : decode cc pc = .ok (.ifCond .eq off, 3)) (ht : (pc : Int) + off = (tgt : Int)) (k1 : sw_J X ad t tgt L st σ e1) (k2 : sw_J X ad t (pc + 3) L st σ e2) : sw_J X ad t pc L (.int x :: st) σ (@ite _ (x = 0) i e1 e2) := by
  obtain ⟨⟨p, l, ev, R, s, m⟩, ⟨args, below, meth, c⟩, ⟨cells, slots, Q⟩, ⟨A, D, cA, nL⟩⟩ := X
  obtain ⟨hx, hb, hml, hown, hts, hK, hap, hAd, hA, hF, hR, hc1, hc2⟩ := C
  intro he H locs ls hP hS hl
  refine lv_if_eq hx hb hd ht (fun h => ?_) (fun h => ?_)
  · rw [if_pos h] at he
    exact k1 he H locs ls hP hS hl
  · rw [if_neg h] at he
    exact k2 he H locs ls hP hS hl
theorem sw_if_lt {x : Int32} {off : Int} {i : Decidable (x < 0)} (tgt : Nat) (C : sw_C X ad cc own d) (hd : decode cc pc = .ok (.ifCond .lt off, 3)) (ht : (pc : Int) + off = (tgt : Int)) (k1 : sw_J X ad t tgt L st σ e1) (k2 : sw_J X ad t (pc + 3) L st σ e2) : sw_J X ad t pc L (.int x :: st) σ (@ite _ (x < 0) i e1 e2) := by
  obtain ⟨⟨p, l, ev, R, s, m⟩, ⟨args, below, meth, c⟩, ⟨cells, slots, Q⟩, ⟨A, D, cA, nL⟩⟩ := X
  obtain ⟨hx, hb, hml, hown, hts, hK, hap, hAd, hA, hF, hR, hc1, hc2⟩ := C
  intro he H locs ls hP hS hl
  refine lv_if_lt hx hb hd ht (fun h => ?_) (fun h => ?_)
  · rw [if_pos h] at he
    exact k1 he H locs ls hP hS hl
  · rw [if_neg h] at he
    exact k2 he H locs ls hP hS hl
theorem sw_if_ge {x : Int32} {off : Int} {i : Decidable (0 ≤ x)} (tgt : Nat) (C : sw_C X ad cc own d) (hd : decode cc pc = .ok (.ifCond .ge off, 3)) (ht : (pc : Int) + off = (tgt : Int)) (k1 : sw_J X ad t tgt L st σ e1) (k2 : sw_J X ad t (pc + 3) L st σ e2) : sw_J X ad t pc L (.int x :: st) σ (@ite _ (0 ≤ x) i e1 e2) := by
  obtain ⟨⟨p, l, ev, R, s, m⟩, ⟨args, below, meth, c⟩, ⟨cells, slots, Q⟩, ⟨A, D, cA, nL⟩⟩ := X
  obtain ⟨hx, hb, hml, hown, hts, hK, hap, hAd, hA, hF, hR, hc1, hc2⟩ := C
  intro he H locs ls hP hS hl
  refine lv_if_ge hx hb hd ht (fun h => ?_) (fun h => ?_)
  · rw [if_pos h] at he
    exact k1 he H locs ls hP hS hl
  · rw [if_neg h] at he
    exact k2 he H locs ls hP hS hl
theorem sw_if_gt {x : Int32} {off : Int} {i : Decidable (0 < x)} (tgt : Nat) (C : sw_C X ad cc own d) (hd : decode cc pc = .ok (.ifCond .gt off, 3)) (ht : (pc : Int) + off = (tgt : Int)) (k1 : sw_J X ad t tgt L st σ e1) (k2 : sw_J X ad t (pc + 3) L st σ e2) : sw_J X ad t pc L (.int x :: st) σ (@ite _ (0 < x) i e1 e2) := by
  obtain ⟨⟨p, l, ev, R, s, m⟩, ⟨args, below, meth, c⟩, ⟨cells, slots, Q⟩, ⟨A, D, cA, nL⟩⟩ := X
  obtain ⟨hx, hb, hml, hown, hts, hK, hap, hAd, hA, hF, hR, hc1, hc2⟩ := C
  intro he H locs ls hP hS hl
  refine lv_if_gt hx hb hd ht (fun h => ?_) (fun h => ?_)
  · rw [if_pos h] at he
    exact k1 he H locs ls hP hS hl
  · rw [if_neg h] at he
    exact k2 he H locs ls hP hS hl
theorem sw_if_le {x : Int32} {off : Int} {i : Decidable (x ≤ 0)} (tgt : Nat) (C : sw_C X ad cc own d) (hd : decode cc pc = .ok (.ifCond .le off, 3)) (ht : (pc : Int) + off = (tgt : Int)) (k1 : sw_J X ad t tgt L st σ e1) (k2 : sw_J X ad t (pc + 3) L st σ e2) : sw_J X ad t pc L (.int x :: st) σ (@ite _ (x ≤ 0) i e1 e2) := by
  obtain ⟨⟨p, l, ev, R, s, m⟩, ⟨args, below, meth, c⟩, ⟨cells, slots, Q⟩, ⟨A, D, cA, nL⟩⟩ := X
  obtain ⟨hx, hb, hml, hown, hts, hK, hap, hAd, hA, hF, hR, hc1, hc2⟩ := C
  intro he H locs ls hP hS hl
  refine lv_if_le hx hb hd ht (fun h => ?_) (fun h => ?_)
  · rw [if_pos h] at he
    exact k1 he H locs ls hP hS hl
  · rw [if_neg h] at he
    exact k2 he H locs ls hP hS hl
theorem sw_if_ne {x : Int32} {off : Int} {i : Decidable (x = 0)} (tgt : Nat) (C : sw_C X ad cc own d) (hd : decode cc pc = .ok (.ifCond .ne off, 3)) (ht : (pc : Int) + off = (tgt : Int)) (k1 : sw_J X ad t tgt L st σ e2) (k2 : sw_J X ad t (pc + 3) L st σ e1) : sw_J X ad t pc L (.int x :: st) σ (@ite _ (x = 0) i e1 e2) := by
  obtain ⟨⟨p, l, ev, R, s, m⟩, ⟨args, below, meth, c⟩, ⟨cells, slots, Q⟩, ⟨A, D, cA, nL⟩⟩ := X
  obtain ⟨hx, hb, hml, hown, hts, hK, hap, hAd, hA, hF, hR, hc1, hc2⟩ := C
  intro he H locs ls hP hS hl
  refine lv_if_ne hx hb hd ht (fun h => ?_) (fun h => ?_)
  · rw [if_neg h] at he
    exact k1 he H locs ls hP hS hl
  · rw [if_pos h] at he
    exact k2 he H locs ls hP hS hl
theorem sw_icmp_eq {x y : Int32} {off : Int} {i : Decidable (x = y)} (tgt : Nat) (C : sw_C X ad cc own d) (hd : decode cc pc = .ok (.if_icmp .eq off, 3)) (ht : (pc : Int) + off = (tgt : Int)) (k1 : sw_J X ad t tgt L st σ e1) (k2 : sw_J X ad t (pc + 3) L st σ e2) : sw_J X ad t pc L (.int y :: .int x :: st) σ (@ite _ (x = y) i e1 e2) := by
  obtain ⟨⟨p, l, ev, R, s, m⟩, ⟨args, below, meth, c⟩, ⟨cells, slots, Q⟩, ⟨A, D, cA, nL⟩⟩ := X
  obtain ⟨hx, hb, hml, hown, hts, hK, hap, hAd, hA, hF, hR, hc1, hc2⟩ := C
  intro he H locs ls hP hS hl
  refine lv_icmp_eq hx hb hd ht (fun h => ?_) (fun h => ?_)
  · rw [if_pos h] at he
    exact k1 he H locs ls hP hS hl
  · rw [if_neg h] at he
    exact k2 he H locs ls hP hS hl
theorem sw_icmp_lt {x y : Int32} {off : Int} {i : Decidable (x < y)} (tgt : Nat) (C : sw_C X ad cc own d) (hd : decode cc pc = .ok (.if_icmp .lt off, 3)) (ht : (pc : Int) + off = (tgt : Int)) (k1 : sw_J X ad t tgt L st σ e1) (k2 : sw_J X ad t (pc + 3) L st σ e2) : sw_J X ad t pc L (.int y :: .int x :: st) σ (@ite _ (x < y) i e1 e2) := by
  obtain ⟨⟨p, l, ev, R, s, m⟩, ⟨args, below, meth, c⟩, ⟨cells, slots, Q⟩, ⟨A, D, cA, nL⟩⟩ := X
  obtain ⟨hx, hb, hml, hown, hts, hK, hap, hAd, hA, hF, hR, hc1, hc2⟩ := C
  intro he H locs ls hP hS hl
  refine lv_icmp_lt hx hb hd ht (fun h => ?_) (fun h => ?_)
  · rw [if_pos h] at he
    exact k1 he H locs ls hP hS hl
  · rw [if_neg h] at he
    exact k2 he H locs ls hP hS hl
theorem sw_icmp_ge {x y : Int32} {off : Int} {i : Decidable (y ≤ x)} (tgt : Nat) (C : sw_C X ad cc own d) (hd : decode cc pc = .ok (.if_icmp .ge off, 3)) (ht : (pc : Int) + off = (tgt : Int)) (k1 : sw_J X ad t tgt L st σ e1) (k2 : sw_J X ad t (pc + 3) L st σ e2) : sw_J X ad t pc L (.int y :: .int x :: st) σ (@ite _ (y ≤ x) i e1 e2) := by
  obtain ⟨⟨p, l, ev, R, s, m⟩, ⟨args, below, meth, c⟩, ⟨cells, slots, Q⟩, ⟨A, D, cA, nL⟩⟩ := X
  obtain ⟨hx, hb, hml, hown, hts, hK, hap, hAd, hA, hF, hR, hc1, hc2⟩ := C
  intro he H locs ls hP hS hl
  refine lv_icmp_ge hx hb hd ht (fun h => ?_) (fun h => ?_)
  · rw [if_pos h] at he
    exact k1 he H locs ls hP hS hl
  · rw [if_neg h] at he
    exact k2 he H locs ls hP hS hl
theorem sw_icmp_gt {x y : Int32} {off : Int} {i : Decidable (y < x)} (tgt : Nat) (C : sw_C X ad cc own d) (hd : decode cc pc = .ok (.if_icmp .gt off, 3)) (ht : (pc : Int) + off = (tgt : Int)) (k1 : sw_J X ad t tgt L st σ e1) (k2 : sw_J X ad t (pc + 3) L st σ e2) : sw_J X ad t pc L (.int y :: .int x :: st) σ (@ite _ (y < x) i e1 e2) := by
  obtain ⟨⟨p, l, ev, R, s, m⟩, ⟨args, below, meth, c⟩, ⟨cells, slots, Q⟩, ⟨A, D, cA, nL⟩⟩ := X
  obtain ⟨hx, hb, hml, hown, hts, hK, hap, hAd, hA, hF, hR, hc1, hc2⟩ := C
  intro he H locs ls hP hS hl
  refine lv_icmp_gt hx hb hd ht (fun h => ?_) (fun h => ?_)
  · rw [if_pos h] at he
    exact k1 he H locs ls hP hS hl
  · rw [if_neg h] at he
    exact k2 he H locs ls hP hS hl
theorem sw_icmp_le {x y : Int32} {off : Int} {i : Decidable (x ≤ y)} (tgt : Nat) (C : sw_C X ad cc own d) (hd : decode cc pc = .ok (.if_icmp .le off, 3)) (ht : (pc : Int) + off = (tgt : Int)) (k1 : sw_J X ad t tgt L st σ e1) (k2 : sw_J X ad t (pc + 3) L st σ e2) : sw_J X ad t pc L (.int y :: .int x :: st) σ (@ite _ (x ≤ y) i e1 e2) := by
  obtain ⟨⟨p, l, ev, R, s, m⟩, ⟨args, below, meth, c⟩, ⟨cells, slots, Q⟩, ⟨A, D, cA, nL⟩⟩ := X
  obtain ⟨hx, hb, hml, hown, hts, hK, hap, hAd, hA, hF, hR, hc1, hc2⟩ := C
  intro he H locs ls hP hS hl
  refine lv_icmp_le hx hb hd ht (fun h => ?_) (fun h => ?_)
  · rw [if_pos h] at he
    exact k1 he H locs ls hP hS hl
  · rw [if_neg h] at he
    exact k2 he H locs ls hP hS hl
theorem sw_icmp_ne {x y : Int32} {off : Int} {i : Decidable (x = y)} (tgt : Nat) (C : sw_C X ad cc own d) (hd : decode cc pc = .ok (.if_icmp .ne off, 3)) (ht : (pc : Int) + off = (tgt : Int)) (k1 : sw_J X ad t tgt L st σ e2) (k2 : sw_J X ad t (pc + 3) L st σ e1) : sw_J X ad t pc L (.int y :: .int x :: st) σ (@ite _ (x = y) i e1 e2) := by
  obtain ⟨⟨p, l, ev, R, s, m⟩, ⟨args, below, meth, c⟩, ⟨cells, slots, Q⟩, ⟨A, D, cA, nL⟩⟩ := X
  obtain ⟨hx, hb, hml, hown, hts, hK, hap, hAd, hA, hF, hR, hc1, hc2⟩ := C
  intro he H locs ls hP hS hl
  refine lv_icmp_ne hx hb hd ht (fun h => ?_) (fun h => ?_)
  · rw [if_neg h] at he
    exact k1 he H locs ls hP hS hl
  · rw [if_pos h] at he
    exact k2 he H locs ls hP hS hl
theorem sw_tabIn {dflt lo hi : Int} {offs : Array Int} {len : Nat} {x : Int32} {off : Int} (tgt : Nat) (C : sw_C X ad cc own d) (hd : decode cc pc = .ok (.tableswitch dflt lo hi offs, len)) (h1 : ¬ x.toInt < lo) (h2 : ¬ hi < x.toInt) (ho : offs[(x.toInt - lo).toNat]? = some off) (ht : (pc : Int) + off = (tgt : Int)) (k : sw_J X ad t tgt L st σ e) : sw_J X ad t pc L (.int x :: st) σ e := by
  obtain ⟨⟨p, l, ev, R, s, m⟩, ⟨args, below, meth, c⟩, ⟨cells, slots, Q⟩, ⟨A, D, cA, nL⟩⟩ := X
  obtain ⟨hx, hb, hml, hown, hts, hK, hap, hAd, hA, hF, hR, hc1, hc2⟩ := C
  intro he H locs ls hP hS hl
  exact lv_tableIn hx hb hd h1 h2 ho ht (k he H locs ls hP hS hl)
theorem sw_tabOut {dflt lo hi : Int} {offs : Array Int} {len : Nat} {x : Int32} (tgt : Nat) (C : sw_C X ad cc own d) (hd : decode cc pc = .ok (.tableswitch dflt lo hi offs, len)) (h : x.toInt < lo ∨ hi < x.toInt) (ht : (pc : Int) + dflt = (tgt : Int)) (k : sw_J X ad t tgt L st σ e) : sw_J X ad t pc L (.int x :: st) σ e := by
  obtain ⟨⟨p, l, ev, R, s, m⟩, ⟨args, below, meth, c⟩, ⟨cells, slots, Q⟩, ⟨A, D, cA, nL⟩⟩ := X
  obtain ⟨hx, hb, hml, hown, hts, hK, hap, hAd, hA, hF, hR, hc1, hc2⟩ := C
  intro he H locs ls hP hS hl
  exact lv_tableOut hx hb hd h ht (k he H locs ls hP hS hl)
theorem sw_look {dflt : Int} {ps : Array (Int × Int)} {len : Nat} {x : Int32} {off : Int} (tgt : Nat) (C : sw_C X ad cc own d) (hd : decode cc pc = .ok (.lookupswitch dflt ps, len)) (hp : (ps.toList.zip (ps.toList.drop 1)).all (fun (a, next) => a.1 < next.1) = true) (ho : Op.lookupswitch.offset ps.toList dflt x.toInt = off) (ht : (pc : Int) + off = (tgt : Int)) (k : sw_J X ad t tgt L st σ e) : sw_J X ad t pc L (.int x :: st) σ e := by
  obtain ⟨⟨p, l, ev, R, s, m⟩, ⟨args, below, meth, c⟩, ⟨cells, slots, Q⟩, ⟨A, D, cA, nL⟩⟩ := X
  obtain ⟨hx, hb, hml, hown, hts, hK, hap, hAd, hA, hF, hR, hc1, hc2⟩ := C
  intro he H locs ls hP hS hl
  exact lv_lookup hx hb hd hp ho ht (k he H locs ls hP hS hl)
/-- a field: its link in the class 'own', its place in its class -/
def sw_F (own : String) (idx ci fk : Nat) : Prop := ∃ (C : String) (T : u_T) (N : Nat), vwCl[ci]? = some (C, T, N) ∧ fk < N ∧ (∀ w ∈ u_ws C T N, w ∈ sw_tbl) ∧ Cond.fieldLink own idx (T fk).1 (T fk).2.1 (T fk).2.2.1 ∈ sw_tbl
def sw_FP (own : String) (idx ci fk : Nat) : Prop := ∃ (C : String) (T : u_T) (N : Nat) (ty : Nat → FieldType), vwCl[ci]? = some (C, T, N) ∧ fk < N ∧ (∀ w ∈ u_ws C T N, w ∈ sw_tbl) ∧ Cond.fieldLink own idx (T fk).1 (T fk).2.1 (T fk).2.2.1 ∈ sw_tbl ∧ (∀ k, k < N → parseFieldDescriptor (T k).2.2.1 = some (ty k)) ∧ (∀ a, a < N → ∀ b, b < N → a ≠ b → (T a).2.1 ≠ (T b).2.1) ∧ (T fk).2.2.2 = false ∧ parseFieldDescriptor (T fk).2.2.1 = some .int
theorem sw_getI {idx ci fk cl : Nat} {fl : List (Option Nat)} (C : sw_C X ad cc own d) (F : sw_F own idx ci fk) (hs : sw_sh[cl]? = some (.inr (ci, fl))) (hf : fl[fk]? = some none) (hd : decode cc pc = .ok (.getfield idx, 3)) (k : sw_J X ad t (pc + 3) L (.int (σ cl fk) :: st) σ e) : sw_J X ad t pc L (.ref (ad cl) :: st) σ e := by
  obtain ⟨⟨p, l, ev, R, s, m⟩, ⟨args, below, meth, c⟩, ⟨cells, slots, Q⟩, ⟨A, D, cA, nL⟩⟩ := X
  obtain ⟨hx, hb, hml, hown, hts, hK, hap, hAd, hA, hF, hR, hc1, hc2⟩ := C
  obtain ⟨Cn, T, N, hcl, hk, hin, hlk⟩ := F
  intro he H locs ls hP hS hl
  exact va_get hx hb hts hin hown hK hP cl (sw_at_obj hs) hcl fk hk (hts _ hlk) (fun _ h => h) (sw_fs_int hf) hd (k he H locs ls hP hS hl)
theorem sw_getR {idx ci fk cl r : Nat} {fl : List (Option Nat)} (C : sw_C X ad cc own d) (F : sw_F own idx ci fk) (hs : sw_sh[cl]? = some (.inr (ci, fl))) (hf : fl[fk]? = some (some r)) (hd : decode cc pc = .ok (.getfield idx, 3)) (k : sw_J X ad t (pc + 3) L (.ref (ad r) :: st) σ e) : sw_J X ad t pc L (.ref (ad cl) :: st) σ e := by
  obtain ⟨⟨p, l, ev, R, s, m⟩, ⟨args, below, meth, c⟩, ⟨cells, slots, Q⟩, ⟨A, D, cA, nL⟩⟩ := X
  obtain ⟨hx, hb, hml, hown, hts, hK, hap, hAd, hA, hF, hR, hc1, hc2⟩ := C
  obtain ⟨Cn, T, N, hcl, hk, hin, hlk⟩ := F
  intro he H locs ls hP hS hl
  exact va_get hx hb hts hin hown hK hP cl (sw_at_obj hs) hcl fk hk (hts _ hlk) (fun _ h => h) (sw_fs_ref hf) hd (k he H locs ls hP hS hl)
theorem sw_put {idx ci fk cl : Nat} {fl : List (Option Nat)} {v : Int32} (C : sw_C X ad cc own d) (F : sw_FP own idx ci fk) (hs : sw_sh[cl]? = some (.inr (ci, fl))) (hf : fl[fk]? = some none) (hd : decode cc pc = .ok (.putfield idx, 3)) (k : sw_J X ad t (pc + 3) L st (sw_up σ cl fk v) e) : sw_J X ad t pc L (.int v :: .ref (ad cl) :: st) σ e := by
  obtain ⟨⟨p, l, ev, R, s, m⟩, ⟨args, below, meth, c⟩, ⟨cells, slots, Q⟩, ⟨A, D, cA, nL⟩⟩ := X
  obtain ⟨hx, hb, hml, hown, hts, hK, hap, hAd, hA, hF, hR, hc1, hc2⟩ := C
  obtain ⟨Cn, T, N, ty, hcl, hk, hin, hlk, hty, hnm, hfin, hint⟩ := F
  intro he H locs ls hP hS hl
  refine va_put hx hb hts hin ty hty hnm hown hK hP (sw_D hap hAd) hS cl (sw_at_obj hs) hcl fk hk (hts _ hlk) (fun _ h => h) hfin hint rfl rfl (by have := (List.getElem?_eq_some_iff.mp hf).1; simpa [sw_fs] using this) hd (fun H1 locs1 hP1 hD1 hS1 => ?_)
  rw [sw_ws_put hs hf] at hP1
  exact k he H1 locs1 ls hP1 hS1 hl
theorem sw_putL {idx ci fk cl : Nat} {fl : List (Option Nat)} {v : Int32} {K : sw_St → Option (α × sw_St)} (C : sw_C X ad cc own d) (F : sw_FP own idx ci fk) (hs : sw_sh[cl]? = some (.inr (ci, fl))) (hf : fl[fk]? = some none) (hd : decode cc pc = .ok (.putfield idx, 3)) (k : ∀ τ : sw_St, sw_J X ad t (pc + 3) L st τ (K τ)) : sw_J X ad t pc L (.int v :: .ref (ad cl) :: st) σ (sw_let (sw_up σ cl fk v) K) := sw_put C F hs hf hd (k _)
theorem sw_iald {cl n : Nat} {i : Int32} (C : sw_C X ad cc own d) (hs : sw_sh[cl]? = some (.inl n)) (hd : decode cc pc = .ok (.iaload, 1)) (k : sw_J X ad t (pc + 1) L (.int (σ cl i.toNatClampNeg) :: st) σ e) : sw_J X ad t pc L (.int i :: .ref (ad cl) :: st) σ (if sw_ok i n = true then e else none) := by
  refine sw_ite (fun hi => ?_) (fun _ => sw_none)
  obtain ⟨⟨p, l, ev, R, s, m⟩, ⟨args, below, meth, c⟩, ⟨cells, slots, Q⟩, ⟨A, D, cA, nL⟩⟩ := X
  obtain ⟨hx, hb, hml, hown, hts, hK, hap, hAd, hA, hF, hR, hc1, hc2⟩ := C
  intro he H locs ls hP hS hl
  exact va_iald hx hb hK hP cl 0 (sw_at_arr hs) rfl (sw_ok_in hi) hd (k he H locs ls hP hS hl)
theorem sw_iast {cl n : Nat} {i v : Int32} (C : sw_C X ad cc own d) (hs : sw_sh[cl]? = some (.inl n)) (hd : decode cc pc = .ok (.iastore, 1)) (k : sw_J X ad t (pc + 1) L st (sw_up σ cl i.toNatClampNeg v) e) : sw_J X ad t pc L (.int v :: .int i :: .ref (ad cl) :: st) σ (if sw_ok i n = true then e else none) := by
  refine sw_ite (fun hi => ?_) (fun _ => sw_none)
  obtain ⟨⟨p, l, ev, R, s, m⟩, ⟨args, below, meth, c⟩, ⟨cells, slots, Q⟩, ⟨A, D, cA, nL⟩⟩ := X
  obtain ⟨hx, hb, hml, hown, hts, hK, hap, hAd, hA, hF, hR, hc1, hc2⟩ := C
  intro he H locs ls hP hS hl
  refine va_iast hx hb hK hP (sw_D hap hAd) hS cl 0 (sw_at_arr hs) rfl (sw_ok_in hi) hd (fun H1 locs1 hP1 hD1 hS1 => ?_)
  rw [sw_ws_ast hs] at hP1
  exact k he H1 locs1 ls hP1 hS1 hl
theorem sw_iastL {cl n : Nat} {i v : Int32} {K : sw_St → Option (α × sw_St)} (C : sw_C X ad cc own d) (hs : sw_sh[cl]? = some (.inl n)) (hd : decode cc pc = .ok (.iastore, 1)) (k : ∀ τ : sw_St, sw_J X ad t (pc + 1) L st τ (K τ)) : sw_J X ad t pc L (.int v :: .int i :: .ref (ad cl) :: st) σ (if sw_ok i n = true then sw_let (sw_up σ cl i.toNatClampNeg v) K else none) := sw_iast C hs hd (k _)
/-- a copy that lies within both rows -/
def sw_cok (sp dp n : Int32) (n0 n1 : Nat) : Bool := decide (0 ≤ sp.toInt) && decide (0 ≤ dp.toInt) && decide (0 ≤ n.toInt) && decide (sp.toNatClampNeg + n.toNatClampNeg ≤ n0) && decide (dp.toNatClampNeg + n.toNatClampNeg ≤ n1)
theorem sw_nn {z : Int32} (h : 0 ≤ z.toInt) : ¬ z < 0 := by
  rw [Int32.lt_iff_toInt_lt, Int32.toInt_zero]; omega
theorem sw_copy {idx c0 c1 n0 n1 : Nat} {sp dp n : Int32} (C : sw_C X ad cc own d) (h1f : 1 ≤ d) (hst : (st.map fun v => v.category).sum ≤ 8) (hlk : Cond.methodLink own idx arraycopyName ∈ sw_tbl) (hnat : Cond.native arraycopyName ∈ sw_tbl) (hstat : Cond.static arraycopyName ∈ sw_tbl) (hini : Cond.initialized "java/lang/System" ∈ sw_tbl) (hs0 : sw_sh[c0]? = some (.inl n0)) (hs1 : sw_sh[c1]? = some (.inl n1)) (hd : decode cc pc = .ok (.invokestatic idx, 3)) (k : sw_J X ad t (pc + 3) L st (sw_ar σ c1 (va_cpy (σ c0) (σ c1) sp.toNatClampNeg dp.toNatClampNeg n.toNatClampNeg)) e) : sw_J X ad t pc L (.int n :: .int dp :: .ref (ad c1) :: .int sp :: .ref (ad c0) :: st) σ (if sw_cok sp dp n n0 n1 = true then e else none) := by
  refine sw_ite (fun hi => ?_) (fun _ => sw_none)
  obtain ⟨⟨p, l, ev, R, s, m⟩, ⟨args, below, meth, c⟩, ⟨cells, slots, Q⟩, ⟨A, D, cA, nL⟩⟩ := X
  obtain ⟨hx, hb, hml, hown, hts, hK, hap, hAd, hA, hF, hR, hc1, hc2⟩ := C
  intro he H locs ls hP hS hl
  simp only [sw_cok, Bool.and_eq_true, decide_eq_true_eq] at hi
  obtain ⟨⟨⟨⟨i1, i2⟩, i3⟩, i4⟩, i5⟩ := hi
  refine va_copyi hx hb (by rw [hml]; exact hl.1.symm) hown (hts _ hlk) (hts _ hnat) (hts _ hstat) (hts _ hini) hK hP (sw_D hap hAd) hS c0 c1 0 0 (sw_at_arr hs0) (sw_at_arr hs1) rfl rfl rfl (sw_nn i1) (sw_nn i2) (sw_nn i3) i4 i5 (fun _ _ => rfl) (by omega) ?_ hd (fun H1 locs1 hP1 hD1 hS1 => ?_)
  · have : nativeFrameWords "java/lang/System" "arraycopy" 5 + 11 ≤ 30 := by decide
    omega
  · rw [sw_ws_ar hs1] at hP1
    exact k he H1 locs1 ls hP1 hS1 hl
theorem sw_copyL {idx c0 c1 n0 n1 : Nat} {sp dp n : Int32} {K : sw_St → Option (α × sw_St)} (C : sw_C X ad cc own d) (h1f : 1 ≤ d) (hst : (st.map fun v => v.category).sum ≤ 8) (hlk : Cond.methodLink own idx arraycopyName ∈ sw_tbl) (hnat : Cond.native arraycopyName ∈ sw_tbl) (hstat : Cond.static arraycopyName ∈ sw_tbl) (hini : Cond.initialized "java/lang/System" ∈ sw_tbl) (hs0 : sw_sh[c0]? = some (.inl n0)) (hs1 : sw_sh[c1]? = some (.inl n1)) (hd : decode cc pc = .ok (.invokestatic idx, 3)) (k : ∀ τ : sw_St, sw_J X ad t (pc + 3) L st τ (K τ)) : sw_J X ad t pc L (.int n :: .int dp :: .ref (ad c1) :: .int sp :: .ref (ad c0) :: st) σ (if sw_cok sp dp n n0 n1 = true then sw_let (sw_ar σ c1 (va_cpy (σ c0) (σ c1) sp.toNatClampNeg dp.toNatClampNeg n.toNatClampNeg)) K else none) := sw_copy C h1f hst hlk hnat hstat hini hs0 hs1 hd (k _)
end

/-- the cells that a method may write: the system's, and new ones -/
def sw_A (ad : Nat → Nat) (sz : Nat) : Nat → Prop := fun q => (∃ i : Nat, i < 63 ∧ q = ad i) ∨ sz ≤ q
def sw_rm (d : Nat) : Room := { frames := d, cells := 0, slots := 0, locals := 40 * d }
def sw_Pc (D : va_G) (cA : ClassId) (ad : Nat → Nat) (σ : sw_St) (sz : Nat) (av : List Value) : Array Value → State → Prop := va_Pc av (fun U => U.heap.size = sz ∧ va_P D vwCl (sw_ws ad cA σ) U.heap ∧ va_K D vwCl [(cA, .int)] U)
def sw_Qi (D : va_G) (cA : ClassId) (ad : Nat → Nat) (sz : Nat) (t : Int32 × sw_St) : Array Value → State → Outcome → State → Prop := va_Qi (S := Unit) (fun r _ => r = t.1) (fun _ u => va_P D vwCl (sw_ws ad cA t.2) u.heap) (sw_A ad sz)
def sw_Ql (D : va_G) (cA : ClassId) (ad : Nat → Nat) (sz : Nat) (t : Int64 × sw_St) : Array Value → State → Outcome → State → Prop := va_Ql (S := Unit) (fun r _ => r = t.1) (fun _ u => va_P D vwCl (sw_ws ad cA t.2) u.heap) (sw_A ad sz)
def sw_Qv (D : va_G) (cA : ClassId) (ad : Nat → Nat) (sz : Nat) (t : Unit × sw_St) : Array Value → State → Outcome → State → Prop := va_Qv (S := Unit) (fun _ => True) (fun _ u => va_P D vwCl (sw_ws ad cA t.2) u.heap) (sw_A ad sz)
/-- the contract of a method that answers an int (a long, nothing): it does what f says -/
def sw_Ki (y : MethodName) (cc : ByteArray) (nL : Nat) (ret : Option FieldType) (d : Nat) (av : (Nat → Nat) → List Value) (f : sw_St → Option (Int32 × sw_St)) : Prop := ∀ (l : Launch) (D : va_G) (cA : ClassId) (ad : Nat → Nat) (σ : sw_St) (sz : Nat) (t : Int32 × sw_St), sw_ap ad → f σ = some t → Met l y (sw_wsU y cc nL ret) (sw_rm d) (sw_Pc D cA ad σ sz (av ad)) (sw_Qi D cA ad sz t) 0 0 (sw_A ad sz)
def sw_Kl (y : MethodName) (cc : ByteArray) (nL : Nat) (ret : Option FieldType) (d : Nat) (av : (Nat → Nat) → List Value) (f : sw_St → Option (Int64 × sw_St)) : Prop := ∀ (l : Launch) (D : va_G) (cA : ClassId) (ad : Nat → Nat) (σ : sw_St) (sz : Nat) (t : Int64 × sw_St), sw_ap ad → f σ = some t → Met l y (sw_wsU y cc nL ret) (sw_rm d) (sw_Pc D cA ad σ sz (av ad)) (sw_Ql D cA ad sz t) 0 0 (sw_A ad sz)
def sw_Kv (y : MethodName) (cc : ByteArray) (nL : Nat) (ret : Option FieldType) (d : Nat) (av : (Nat → Nat) → List Value) (f : sw_St → Option (Unit × sw_St)) : Prop := ∀ (l : Launch) (D : va_G) (cA : ClassId) (ad : Nat → Nat) (σ : sw_St) (sz : Nat) (t : Unit × sw_St), sw_ap ad → f σ = some t → Met l y (sw_wsU y cc nL ret) (sw_rm d) (sw_Pc D cA ad σ sz (av ad)) (sw_Qv D cA ad sz t) 0 0 (sw_A ad sz)
/-- what a method's own context is -/
def sw_Mi (X : sw_X) (ad : Nat → Nat) (ret : Option FieldType) (t : Int32 × sw_St) : Prop := match X with
  | ((p, l, e, R, s, m), (args, below, meth, c), (cells, slots, Q), (A, D, cA, nL)) => cells = 0 ∧ slots = 0 ∧ A = sw_A ad s.heap.size ∧ meth.sig.returnType = ret ∧ meth.locks = false ∧ Q = MQ below (sw_Qi D cA ad s.heap.size t) args s 0 0 (sw_A ad s.heap.size)
def sw_Ml (X : sw_X) (ad : Nat → Nat) (ret : Option FieldType) (t : Int64 × sw_St) : Prop := match X with
  | ((p, l, e, R, s, m), (args, below, meth, c), (cells, slots, Q), (A, D, cA, nL)) => cells = 0 ∧ slots = 0 ∧ A = sw_A ad s.heap.size ∧ meth.sig.returnType = ret ∧ meth.locks = false ∧ Q = MQ below (sw_Ql D cA ad s.heap.size t) args s 0 0 (sw_A ad s.heap.size)
def sw_Mv (X : sw_X) (ad : Nat → Nat) (ret : Option FieldType) (t : Unit × sw_St) : Prop := match X with
  | ((p, l, e, R, s, m), (args, below, meth, c), (cells, slots, Q), (A, D, cA, nL)) => cells = 0 ∧ slots = 0 ∧ A = sw_A ad s.heap.size ∧ meth.sig.returnType = ret ∧ meth.locks = false ∧ Q = MQ below (sw_Qv D cA ad s.heap.size t) args s 0 0 (sw_A ad s.heap.size)

theorem sw_enteri {y : MethodName} {cc : ByteArray} {nL : Nat} {ret : Option FieldType} {d : Nat} {av : (Nat → Nat) → List Value} {f : sw_St → Option (Int32 × sw_St)} (hy : plainName y.cls = true) (hav : ∀ ad, (lg_sl (av ad)).length ≤ nL)
    (body : ∀ (X : sw_X) (ad : Nat → Nat) (t : Int32 × sw_St) (σ : sw_St), sw_C X ad cc y.cls d → sw_nL X = nL → sw_Mi X ad ret t → sw_J X ad t 0 (lv_args 0 (av ad)) [] σ (f σ)) : sw_Ki y cc nL ret d av f := by
  intro l D cA ad σ sz t hap hf
  refine Met.ofW (cc := cc) (maxL := nL) (ret := ret) hy rfl ?_
  intro p e s m args below meth c s₁ B hml hv
  obtain ⟨rfl, hsz, hP, hK⟩ := hv
  have hts := atoms_spec (ws := sw_wsU y cc nL ret) B.pre
  have hown : s.vm.findClass y.cls = some m.cls := findClass_of_methodNamed B.named
  have hl := lv_entry (av ad) (n := nL) (hav ad)
  subst hsz
  rw [lg_entry_eq]
  have key := body ((p, l, e, sw_rm d, s, m), ((av ad).toArray, below, meth, c), (0, 0, MQ below (sw_Qi D cA ad s.heap.size t) (av ad).toArray s 0 0 (sw_A ad s.heap.size)), (sw_A ad s.heap.size, D, cA, nL)) ad t σ
    ⟨B.exec, B.bytes, hml, hown, fun w hw => hts w (List.mem_cons_of_mem _ hw), hK, hap, fun i hi => Or.inl ⟨i, hi, rfl⟩, fun q hq => Or.inr hq, Nat.le_refl _, Nat.le_refl _, Nat.le_refl _, Nat.le_refl _⟩ rfl
    ⟨rfl, rfl, rfl, B.returns, B.notSynchronized, rfl⟩ hf
  exact key s.heap [] _ hP va_S.rf hl
theorem sw_enterl {y : MethodName} {cc : ByteArray} {nL : Nat} {ret : Option FieldType} {d : Nat} {av : (Nat → Nat) → List Value} {f : sw_St → Option (Int64 × sw_St)} (hy : plainName y.cls = true) (hav : ∀ ad, (lg_sl (av ad)).length ≤ nL)
    (body : ∀ (X : sw_X) (ad : Nat → Nat) (t : Int64 × sw_St) (σ : sw_St), sw_C X ad cc y.cls d → sw_nL X = nL → sw_Ml X ad ret t → sw_J X ad t 0 (lv_args 0 (av ad)) [] σ (f σ)) : sw_Kl y cc nL ret d av f := by
  intro l D cA ad σ sz t hap hf
  refine Met.ofW (cc := cc) (maxL := nL) (ret := ret) hy rfl ?_
  intro p e s m args below meth c s₁ B hml hv
  obtain ⟨rfl, hsz, hP, hK⟩ := hv
  have hts := atoms_spec (ws := sw_wsU y cc nL ret) B.pre
  have hown : s.vm.findClass y.cls = some m.cls := findClass_of_methodNamed B.named
  have hl := lv_entry (av ad) (n := nL) (hav ad)
  subst hsz
  rw [lg_entry_eq]
  have key := body ((p, l, e, sw_rm d, s, m), ((av ad).toArray, below, meth, c), (0, 0, MQ below (sw_Ql D cA ad s.heap.size t) (av ad).toArray s 0 0 (sw_A ad s.heap.size)), (sw_A ad s.heap.size, D, cA, nL)) ad t σ
    ⟨B.exec, B.bytes, hml, hown, fun w hw => hts w (List.mem_cons_of_mem _ hw), hK, hap, fun i hi => Or.inl ⟨i, hi, rfl⟩, fun q hq => Or.inr hq, Nat.le_refl _, Nat.le_refl _, Nat.le_refl _, Nat.le_refl _⟩ rfl
    ⟨rfl, rfl, rfl, B.returns, B.notSynchronized, rfl⟩ hf
  exact key s.heap [] _ hP va_S.rf hl
theorem sw_enterv {y : MethodName} {cc : ByteArray} {nL : Nat} {ret : Option FieldType} {d : Nat} {av : (Nat → Nat) → List Value} {f : sw_St → Option (Unit × sw_St)} (hy : plainName y.cls = true) (hav : ∀ ad, (lg_sl (av ad)).length ≤ nL)
    (body : ∀ (X : sw_X) (ad : Nat → Nat) (t : Unit × sw_St) (σ : sw_St), sw_C X ad cc y.cls d → sw_nL X = nL → sw_Mv X ad ret t → sw_J X ad t 0 (lv_args 0 (av ad)) [] σ (f σ)) : sw_Kv y cc nL ret d av f := by
  intro l D cA ad σ sz t hap hf
  refine Met.ofW (cc := cc) (maxL := nL) (ret := ret) hy rfl ?_
  intro p e s m args below meth c s₁ B hml hv
  obtain ⟨rfl, hsz, hP, hK⟩ := hv
  have hts := atoms_spec (ws := sw_wsU y cc nL ret) B.pre
  have hown : s.vm.findClass y.cls = some m.cls := findClass_of_methodNamed B.named
  have hl := lv_entry (av ad) (n := nL) (hav ad)
  subst hsz
  rw [lg_entry_eq]
  have key := body ((p, l, e, sw_rm d, s, m), ((av ad).toArray, below, meth, c), (0, 0, MQ below (sw_Qv D cA ad s.heap.size t) (av ad).toArray s 0 0 (sw_A ad s.heap.size)), (sw_A ad s.heap.size, D, cA, nL)) ad t σ
    ⟨B.exec, B.bytes, hml, hown, fun w hw => hts w (List.mem_cons_of_mem _ hw), hK, hap, fun i hi => Or.inl ⟨i, hi, rfl⟩, fun q hq => Or.inr hq, Nat.le_refl _, Nat.le_refl _, Nat.le_refl _, Nat.le_refl _⟩ rfl
    ⟨rfl, rfl, rfl, B.returns, B.notSynchronized, rfl⟩ hf
  exact key s.heap [] _ hP va_S.rf hl
theorem sw_enterFi {y : MethodName} {cc : ByteArray} {nL : Nat} {ret : Option FieldType} {d : Nat} {av : (Nat → Nat) → List Value} {f : sw_St → Option (Int32 × sw_St)} (hy : plainFor y = true) (hav : ∀ ad, (lg_sl (av ad)).length ≤ nL)
    (body : ∀ (X : sw_X) (ad : Nat → Nat) (t : Int32 × sw_St) (σ : sw_St), sw_C X ad cc y.cls d → sw_nL X = nL → sw_Mi X ad ret t → sw_J X ad t 0 (lv_args 0 (av ad)) [] σ (f σ)) : sw_Ki y cc nL ret d av f := by
  intro l D cA ad σ sz t hap hf
  refine va_MetF (cc := cc) (maxL := nL) (ret := ret) hy rfl ?_
  intro p e s m args below meth c s₁ B hml hv
  obtain ⟨rfl, hsz, hP, hK⟩ := hv
  have hts := atoms_spec (ws := sw_wsU y cc nL ret) B.pre
  have hown : s.vm.findClass y.cls = some m.cls := findClass_of_methodNamed B.named
  have hl := lv_entry (av ad) (n := nL) (hav ad)
  subst hsz
  rw [lg_entry_eq]
  have key := body ((p, l, e, sw_rm d, s, m), ((av ad).toArray, below, meth, c), (0, 0, MQ below (sw_Qi D cA ad s.heap.size t) (av ad).toArray s 0 0 (sw_A ad s.heap.size)), (sw_A ad s.heap.size, D, cA, nL)) ad t σ
    ⟨B.exec, B.bytes, hml, hown, fun w hw => hts w (List.mem_cons_of_mem _ hw), hK, hap, fun i hi => Or.inl ⟨i, hi, rfl⟩, fun q hq => Or.inr hq, Nat.le_refl _, Nat.le_refl _, Nat.le_refl _, Nat.le_refl _⟩ rfl
    ⟨rfl, rfl, rfl, B.returns, B.notSynchronized, rfl⟩ hf
  exact key s.heap [] _ hP va_S.rf hl
section
variable {X : sw_X} {ad : Nat → Nat} {cc : ByteArray} {own : String} {d : Nat} {pc : Nat} {L : List (Nat × Value)} {st : List Value} {σ : sw_St}

theorem sw_reti {t : Int32 × sw_St} {x : Int32} (C : sw_C X ad cc own d) (M : sw_Mi X ad (some .int) t) (hd : decode cc pc = .ok (.ireturn, 1)) : sw_J X ad t pc L ([.int x]) σ (some (x, σ)) := by
  obtain ⟨⟨p, l, ev, R, s, m⟩, ⟨args, below, meth, c⟩, ⟨cells, slots, Q⟩, ⟨A, D, cA, nL⟩⟩ := X
  obtain ⟨hx, hb, hml, hown, hts, hK, hap, hAd, hA, hF, hR, hc1, hc2⟩ := C
  obtain ⟨rfl, rfl, rfl, hr, hlocks, rfl⟩ := M
  intro he H locs ls hP hS hl
  have hh := Option.some.inj he
  subst hh
  exact W.iret hx hb hr (fun u hu hW => ⟨⟨x, (), rfl, rfl, by subst hu; exact hP⟩, hS.F hu⟩) hS.2.2 hd
theorem sw_retiz {t : Int32 × sw_St} {x : Int32} (hz : narrow .boolean (.int x) = .int x) (C : sw_C X ad cc own d) (M : sw_Mi X ad (some .boolean) t) (hd : decode cc pc = .ok (.ireturn, 1)) : sw_J X ad t pc L ([.int x]) σ (some (x, σ)) := by
  obtain ⟨⟨p, l, ev, R, s, m⟩, ⟨args, below, meth, c⟩, ⟨cells, slots, Q⟩, ⟨A, D, cA, nL⟩⟩ := X
  obtain ⟨hx, hb, hml, hown, hts, hK, hap, hAd, hA, hF, hR, hc1, hc2⟩ := C
  obtain ⟨rfl, rfl, rfl, hr, hlocks, rfl⟩ := M
  intro he H locs ls hP hS hl
  have hh := Option.some.inj he
  subst hh
  exact W.zret hx hb hr hz (fun u hu hW => ⟨⟨x, (), rfl, rfl, by subst hu; exact hP⟩, hS.F hu⟩) hS.2.2 hd
theorem sw_retizg {t : Int32 × sw_St} {x : Int32} (C : sw_C X ad cc own d) (M : sw_Mi X ad (some .boolean) t) (hd : decode cc pc = .ok (.ireturn, 1)) : sw_J X ad t pc L ([.int x]) σ (if sw_bl x = true then some (x, σ) else none) :=
  sw_ite (fun h => sw_retiz (sw_bl_nar h) C M hd) (fun _ => sw_none)
theorem sw_retl {t : Int64 × sw_St} {x : Int64} (C : sw_C X ad cc own d) (M : sw_Ml X ad (some .long) t) (hd : decode cc pc = .ok (.lreturn, 1)) : sw_J X ad t pc L ([.long x]) σ (some (x, σ)) := by
  obtain ⟨⟨p, l, ev, R, s, m⟩, ⟨args, below, meth, c⟩, ⟨cells, slots, Q⟩, ⟨A, D, cA, nL⟩⟩ := X
  obtain ⟨hx, hb, hml, hown, hts, hK, hap, hAd, hA, hF, hR, hc1, hc2⟩ := C
  obtain ⟨rfl, rfl, rfl, hr, hlocks, rfl⟩ := M
  intro he H locs ls hP hS hl
  have hh := Option.some.inj he
  subst hh
  exact W.lret hx hb hr (fun u hu hW => ⟨⟨x, (), rfl, rfl, by subst hu; exact hP⟩, hS.F hu⟩) hS.2.2 hd
theorem sw_retv {t : Unit × sw_St}  (C : sw_C X ad cc own d) (M : sw_Mv X ad none t) (hd : decode cc pc = .ok (.return_, 1)) : sw_J X ad t pc L ([]) σ (some ((), σ)) := by
  obtain ⟨⟨p, l, ev, R, s, m⟩, ⟨args, below, meth, c⟩, ⟨cells, slots, Q⟩, ⟨A, D, cA, nL⟩⟩ := X
  obtain ⟨hx, hb, hml, hown, hts, hK, hap, hAd, hA, hF, hR, hc1, hc2⟩ := C
  obtain ⟨rfl, rfl, rfl, hr, hlocks, rfl⟩ := M
  intro he H locs ls hP hS hl
  have hh := Option.some.inj he
  subst hh
  exact W.vret hx hb hr (fun u hu hW => ⟨⟨(), rfl, trivial, by subst hu; exact hP⟩, hS.F hu⟩) hS.2.2 hd
end
/-- what the tables say of a method: a static one, one of an object -/
def sw_S0 (y : MethodName) (cc : ByteArray) (nL : Nat) (ret : Option FieldType) (n : Nat) : Prop := Cond.code y cc nL ret ∈ sw_tbl ∧ Cond.initialized y.cls ∈ sw_tbl ∧ (y.cls ≠ "java/lang/invoke/MethodHandle" ∧ y.cls ≠ "java/lang/invoke/VarHandle" ∧ (parseMethodDescriptor y.desc).map (fun d => d.parameters.length) = some n) ∧ nL ≤ 21
def sw_SS (y : MethodName) (cc : ByteArray) (nL : Nat) (ret : Option FieldType) (n : Nat) : Prop := sw_S0 y cc nL ret n ∧ Cond.static y ∈ sw_tbl
def sw_SV (y : MethodName) (cc : ByteArray) (nL : Nat) (ret : Option FieldType) (n : Nat) : Prop := sw_S0 y cc nL ret n ∧ Cond.instanceMethod y ∈ sw_tbl ∧ Cond.selects y.cls y y ∈ sw_tbl
theorem sw_blind {D : va_G} {cA : ClassId} {ad : Nat → Nat} {σ : sw_St} {sz : Nat} {av : List Value} : FrameBlind (sw_Pc D cA ad σ sz av) := by
  intro a U g mk q
  obtain ⟨q0, q1, qP, qK⟩ := q
  exact ⟨q0, q1, qP, va_K.moved (u := U) (U := U.calling g mk a) (Vm.Alike.refl U.vm) qK⟩
section
variable {α : Type} {X : sw_X} {ad : Nat → Nat} {cc : ByteArray} {own : String} {d : Nat} {t : α × sw_St} {pc : Nat} {L : List (Nat × Value)} {st : List Value} {σ : sw_St}
variable {y : MethodName} {cc' : ByteArray} {nL' n d' idx : Nat} {ret' : Option FieldType} {av : (Nat → Nat) → List Value}

theorem sw_callSi {f : sw_St → Option (Int32 × sw_St)} {K : Int32 → sw_St → Option (α × sw_St)} (C : sw_C X ad cc own d) (hM : sw_Ki y cc' nL' ret' d' av f) (S : sw_SS y cc' nL' ret' n) (hlk : Cond.methodLink own idx y ∈ sw_tbl) (hd : decode cc pc = .ok (.invokestatic idx, 3)) (hdd : d' + 1 ≤ d) (As rest : List Value) (hav : av ad = As) (hst : st = As.reverse ++ rest) (hn : As.length = n) (hrest : (rest.map fun v => v.category).sum ≤ 8) (k : ∀ (r : Int32) (τ : sw_St), sw_J X ad t (pc + 3) L (.int r :: rest) τ (K r τ)) : sw_J X ad t pc L st σ (sw_bind (f σ) K) := by
  obtain ⟨⟨p, l, ev, R, s, m⟩, ⟨args, below, meth, c⟩, ⟨cells, slots, Q⟩, ⟨A, D, cA, nL⟩⟩ := X
  obtain ⟨hx, hb, hml, hown, hts, hK, hap, hAd, hA, hF, hR, hc1, hc2⟩ := C
  obtain ⟨⟨hcode, hini, hnm, hnl⟩, hSS⟩ := S
  intro he H locs ls hP hS hl
  cases he1 : f σ with
  | none => rw [he1] at he; cases he
  | some t1 =>
    rw [he1] at he
    have hroom : (sw_rm d').frames + 1 ≤ R.frames ∧ 8 + (nL' + 11) + (sw_rm d').locals ≤ R.locals := by
      constructor
      · show d' + 1 ≤ R.frames
        omega
      · show 8 + (nL' + 11) + 40 * d' ≤ R.locals
        omega
    have hcs : cells + 0 ≤ R.cells ∧ slots + 0 ≤ R.slots := ⟨hc1, hc2⟩
    have hfr : ∀ q : Nat, sw_A ad H.size q → A q := by
      intro q hq
      rcases hq with ⟨i, hi, rfl⟩ | hq
      · exact hAd i hi
      · exact hA q (Nat.le_trans hS.1 hq)
    refine va_calli (va_runS (As := As) (rest := rest) ⟨hx, hb, hml, hown, hts⟩ (hM l D cA ad σ H.size t1 hap he1) ⟨callB_of n hts (sw_goodU hcode) rfl rfl rfl (hts _ hini) (hts _ hlk) hnm hroom, hts _ hSS⟩ ⟨sw_blind, fun U hU hW => ⟨by rw [hav], by rw [hU], by rw [hU]; exact hP, va_K.moved hW.alike hK⟩⟩ rfl hn hl.1 hst (lv_room hrest) hd hcs) hS (fun q _ h => hfr q h) hfr (fun r0 _ u H1 locs1 hu hvm hp hB hz1 hk1 hS1 => ?_)
    obtain ⟨r1, τ1⟩ := t1
    have hp : r0 = r1 := hp
    subst hp
    exact k r0 τ1 he H1 locs1 ls (by rw [← hu]; exact hB) hS1 hl
theorem sw_callVi {f : sw_St → Option (Int32 × sw_St)} {K : Int32 → sw_St → Option (α × sw_St)} (C : sw_C X ad cc own d) (hM : sw_Ki y cc' nL' ret' d' av f) (S : sw_SV y cc' nL' ret' n) (hlk : Cond.methodLink own idx y ∈ sw_tbl) (hd : decode cc pc = .ok (.invokevirtual idx, 3)) (hdd : d' + 1 ≤ d) (As rest : List Value) {cl ci : Nat} {fl : List (Option Nat)} {T : u_T} {N : Nat} (hs : sw_sh[cl]? = some (.inr (ci, fl))) (hci : vwCl[ci]? = some (y.cls, T, N)) (hav : av ad = .ref (ad cl) :: As) (hst : st = As.reverse ++ .ref (ad cl) :: rest) (hn : As.length = n) (hrest : (rest.map fun v => v.category).sum ≤ 8) (k : ∀ (r : Int32) (τ : sw_St), sw_J X ad t (pc + 3) L (.int r :: rest) τ (K r τ)) : sw_J X ad t pc L st σ (sw_bind (f σ) K) := by
  obtain ⟨⟨p, l, ev, R, s, m⟩, ⟨args, below, meth, c⟩, ⟨cells, slots, Q⟩, ⟨A, D, cA, nL⟩⟩ := X
  obtain ⟨hx, hb, hml, hown, hts, hK, hap, hAd, hA, hF, hR, hc1, hc2⟩ := C
  obtain ⟨⟨hcode, hini, hnm, hnl⟩, hin, hsel⟩ := S
  intro he H locs ls hP hS hl
  cases he1 : f σ with
  | none => rw [he1] at he; cases he
  | some t1 =>
    rw [he1] at he
    have hroom : (sw_rm d').frames + 1 ≤ R.frames ∧ 8 + (nL' + 11) + (sw_rm d').locals ≤ R.locals := by
      constructor
      · show d' + 1 ≤ R.frames
        omega
      · show 8 + (nL' + 11) + 40 * d' ≤ R.locals
        omega
    have hcs : cells + 0 ≤ R.cells ∧ slots + 0 ≤ R.slots := ⟨hc1, hc2⟩
    have hfr : ∀ q : Nat, sw_A ad H.size q → A q := by
      intro q hq
      rcases hq with ⟨i, hi, rfl⟩ | hq
      · exact hAd i hi
      · exact hA q (Nat.le_trans hS.1 hq)
    refine va_calli (va_runV (As := As) (rest := rest) (C := y.cls) ⟨hx, hb, hml, hown, hts⟩ (hM l D cA ad σ H.size t1 hap he1) ⟨callB_of n hts (sw_goodU hcode) rfl rfl rfl (hts _ hini) (hts _ hlk) hnm hroom, hts _ hin, hts _ hsel⟩ ⟨sw_blind, va_recv hK hP hci (sw_at_obj hs), fun U hU hW => ⟨by rw [hav], by rw [hU], by rw [hU]; exact hP, va_K.moved hW.alike hK⟩⟩ rfl hn hl.1 hst (lv_room hrest) hd hcs) hS (fun q _ h => hfr q h) hfr (fun r0 _ u H1 locs1 hu hvm hp hB hz1 hk1 hS1 => ?_)
    obtain ⟨r1, τ1⟩ := t1
    have hp : r0 = r1 := hp
    subst hp
    exact k r0 τ1 he H1 locs1 ls (by rw [← hu]; exact hB) hS1 hl
theorem sw_callSl {f : sw_St → Option (Int64 × sw_St)} {K : Int64 → sw_St → Option (α × sw_St)} (C : sw_C X ad cc own d) (hM : sw_Kl y cc' nL' ret' d' av f) (S : sw_SS y cc' nL' ret' n) (hlk : Cond.methodLink own idx y ∈ sw_tbl) (hd : decode cc pc = .ok (.invokestatic idx, 3)) (hdd : d' + 1 ≤ d) (As rest : List Value) (hav : av ad = As) (hst : st = As.reverse ++ rest) (hn : As.length = n) (hrest : (rest.map fun v => v.category).sum ≤ 8) (k : ∀ (r : Int64) (τ : sw_St), sw_J X ad t (pc + 3) L (.long r :: rest) τ (K r τ)) : sw_J X ad t pc L st σ (sw_bind (f σ) K) := by
  obtain ⟨⟨p, l, ev, R, s, m⟩, ⟨args, below, meth, c⟩, ⟨cells, slots, Q⟩, ⟨A, D, cA, nL⟩⟩ := X
  obtain ⟨hx, hb, hml, hown, hts, hK, hap, hAd, hA, hF, hR, hc1, hc2⟩ := C
  obtain ⟨⟨hcode, hini, hnm, hnl⟩, hSS⟩ := S
  intro he H locs ls hP hS hl
  cases he1 : f σ with
  | none => rw [he1] at he; cases he
  | some t1 =>
    rw [he1] at he
    have hroom : (sw_rm d').frames + 1 ≤ R.frames ∧ 8 + (nL' + 11) + (sw_rm d').locals ≤ R.locals := by
      constructor
      · show d' + 1 ≤ R.frames
        omega
      · show 8 + (nL' + 11) + 40 * d' ≤ R.locals
        omega
    have hcs : cells + 0 ≤ R.cells ∧ slots + 0 ≤ R.slots := ⟨hc1, hc2⟩
    have hfr : ∀ q : Nat, sw_A ad H.size q → A q := by
      intro q hq
      rcases hq with ⟨i, hi, rfl⟩ | hq
      · exact hAd i hi
      · exact hA q (Nat.le_trans hS.1 hq)
    refine va_calll (va_runS (As := As) (rest := rest) ⟨hx, hb, hml, hown, hts⟩ (hM l D cA ad σ H.size t1 hap he1) ⟨callB_of n hts (sw_goodU hcode) rfl rfl rfl (hts _ hini) (hts _ hlk) hnm hroom, hts _ hSS⟩ ⟨sw_blind, fun U hU hW => ⟨by rw [hav], by rw [hU], by rw [hU]; exact hP, va_K.moved hW.alike hK⟩⟩ rfl hn hl.1 hst (lv_room hrest) hd hcs) hS (fun q _ h => hfr q h) hfr (fun r0 _ u H1 locs1 hu hvm hp hB hz1 hk1 hS1 => ?_)
    obtain ⟨r1, τ1⟩ := t1
    have hp : r0 = r1 := hp
    subst hp
    exact k r0 τ1 he H1 locs1 ls (by rw [← hu]; exact hB) hS1 hl
theorem sw_callVl {f : sw_St → Option (Int64 × sw_St)} {K : Int64 → sw_St → Option (α × sw_St)} (C : sw_C X ad cc own d) (hM : sw_Kl y cc' nL' ret' d' av f) (S : sw_SV y cc' nL' ret' n) (hlk : Cond.methodLink own idx y ∈ sw_tbl) (hd : decode cc pc = .ok (.invokevirtual idx, 3)) (hdd : d' + 1 ≤ d) (As rest : List Value) {cl ci : Nat} {fl : List (Option Nat)} {T : u_T} {N : Nat} (hs : sw_sh[cl]? = some (.inr (ci, fl))) (hci : vwCl[ci]? = some (y.cls, T, N)) (hav : av ad = .ref (ad cl) :: As) (hst : st = As.reverse ++ .ref (ad cl) :: rest) (hn : As.length = n) (hrest : (rest.map fun v => v.category).sum ≤ 8) (k : ∀ (r : Int64) (τ : sw_St), sw_J X ad t (pc + 3) L (.long r :: rest) τ (K r τ)) : sw_J X ad t pc L st σ (sw_bind (f σ) K) := by
  obtain ⟨⟨p, l, ev, R, s, m⟩, ⟨args, below, meth, c⟩, ⟨cells, slots, Q⟩, ⟨A, D, cA, nL⟩⟩ := X
  obtain ⟨hx, hb, hml, hown, hts, hK, hap, hAd, hA, hF, hR, hc1, hc2⟩ := C
  obtain ⟨⟨hcode, hini, hnm, hnl⟩, hin, hsel⟩ := S
  intro he H locs ls hP hS hl
  cases he1 : f σ with
  | none => rw [he1] at he; cases he
  | some t1 =>
    rw [he1] at he
    have hroom : (sw_rm d').frames + 1 ≤ R.frames ∧ 8 + (nL' + 11) + (sw_rm d').locals ≤ R.locals := by
      constructor
      · show d' + 1 ≤ R.frames
        omega
      · show 8 + (nL' + 11) + 40 * d' ≤ R.locals
        omega
    have hcs : cells + 0 ≤ R.cells ∧ slots + 0 ≤ R.slots := ⟨hc1, hc2⟩
    have hfr : ∀ q : Nat, sw_A ad H.size q → A q := by
      intro q hq
      rcases hq with ⟨i, hi, rfl⟩ | hq
      · exact hAd i hi
      · exact hA q (Nat.le_trans hS.1 hq)
    refine va_calll (va_runV (As := As) (rest := rest) (C := y.cls) ⟨hx, hb, hml, hown, hts⟩ (hM l D cA ad σ H.size t1 hap he1) ⟨callB_of n hts (sw_goodU hcode) rfl rfl rfl (hts _ hini) (hts _ hlk) hnm hroom, hts _ hin, hts _ hsel⟩ ⟨sw_blind, va_recv hK hP hci (sw_at_obj hs), fun U hU hW => ⟨by rw [hav], by rw [hU], by rw [hU]; exact hP, va_K.moved hW.alike hK⟩⟩ rfl hn hl.1 hst (lv_room hrest) hd hcs) hS (fun q _ h => hfr q h) hfr (fun r0 _ u H1 locs1 hu hvm hp hB hz1 hk1 hS1 => ?_)
    obtain ⟨r1, τ1⟩ := t1
    have hp : r0 = r1 := hp
    subst hp
    exact k r0 τ1 he H1 locs1 ls (by rw [← hu]; exact hB) hS1 hl
theorem sw_callSv {f : sw_St → Option (Unit × sw_St)} {K : Unit → sw_St → Option (α × sw_St)} (C : sw_C X ad cc own d) (hM : sw_Kv y cc' nL' ret' d' av f) (S : sw_SS y cc' nL' ret' n) (hlk : Cond.methodLink own idx y ∈ sw_tbl) (hd : decode cc pc = .ok (.invokestatic idx, 3)) (hdd : d' + 1 ≤ d) (As rest : List Value) (hav : av ad = As) (hst : st = As.reverse ++ rest) (hn : As.length = n) (hrest : (rest.map fun v => v.category).sum ≤ 8) (k : ∀ (r : Unit) (τ : sw_St), sw_J X ad t (pc + 3) L (rest) τ (K r τ)) : sw_J X ad t pc L st σ (sw_bind (f σ) K) := by
  obtain ⟨⟨p, l, ev, R, s, m⟩, ⟨args, below, meth, c⟩, ⟨cells, slots, Q⟩, ⟨A, D, cA, nL⟩⟩ := X
  obtain ⟨hx, hb, hml, hown, hts, hK, hap, hAd, hA, hF, hR, hc1, hc2⟩ := C
  obtain ⟨⟨hcode, hini, hnm, hnl⟩, hSS⟩ := S
  intro he H locs ls hP hS hl
  cases he1 : f σ with
  | none => rw [he1] at he; cases he
  | some t1 =>
    rw [he1] at he
    have hroom : (sw_rm d').frames + 1 ≤ R.frames ∧ 8 + (nL' + 11) + (sw_rm d').locals ≤ R.locals := by
      constructor
      · show d' + 1 ≤ R.frames
        omega
      · show 8 + (nL' + 11) + 40 * d' ≤ R.locals
        omega
    have hcs : cells + 0 ≤ R.cells ∧ slots + 0 ≤ R.slots := ⟨hc1, hc2⟩
    have hfr : ∀ q : Nat, sw_A ad H.size q → A q := by
      intro q hq
      rcases hq with ⟨i, hi, rfl⟩ | hq
      · exact hAd i hi
      · exact hA q (Nat.le_trans hS.1 hq)
    refine va_callv (va_runS (As := As) (rest := rest) ⟨hx, hb, hml, hown, hts⟩ (hM l D cA ad σ H.size t1 hap he1) ⟨callB_of n hts (sw_goodU hcode) rfl rfl rfl (hts _ hini) (hts _ hlk) hnm hroom, hts _ hSS⟩ ⟨sw_blind, fun U hU hW => ⟨by rw [hav], by rw [hU], by rw [hU]; exact hP, va_K.moved hW.alike hK⟩⟩ rfl hn hl.1 hst (lv_room hrest) hd hcs) hS (fun q _ h => hfr q h) hfr (fun _ u H1 locs1 hu hvm hp hB hz1 hk1 hS1 => ?_)
    obtain ⟨r1, τ1⟩ := t1
    skip
    skip
    exact k r1 τ1 he H1 locs1 ls (by rw [← hu]; exact hB) hS1 hl
theorem sw_callVv {f : sw_St → Option (Unit × sw_St)} {K : Unit → sw_St → Option (α × sw_St)} (C : sw_C X ad cc own d) (hM : sw_Kv y cc' nL' ret' d' av f) (S : sw_SV y cc' nL' ret' n) (hlk : Cond.methodLink own idx y ∈ sw_tbl) (hd : decode cc pc = .ok (.invokevirtual idx, 3)) (hdd : d' + 1 ≤ d) (As rest : List Value) {cl ci : Nat} {fl : List (Option Nat)} {T : u_T} {N : Nat} (hs : sw_sh[cl]? = some (.inr (ci, fl))) (hci : vwCl[ci]? = some (y.cls, T, N)) (hav : av ad = .ref (ad cl) :: As) (hst : st = As.reverse ++ .ref (ad cl) :: rest) (hn : As.length = n) (hrest : (rest.map fun v => v.category).sum ≤ 8) (k : ∀ (r : Unit) (τ : sw_St), sw_J X ad t (pc + 3) L (rest) τ (K r τ)) : sw_J X ad t pc L st σ (sw_bind (f σ) K) := by
  obtain ⟨⟨p, l, ev, R, s, m⟩, ⟨args, below, meth, c⟩, ⟨cells, slots, Q⟩, ⟨A, D, cA, nL⟩⟩ := X
  obtain ⟨hx, hb, hml, hown, hts, hK, hap, hAd, hA, hF, hR, hc1, hc2⟩ := C
  obtain ⟨⟨hcode, hini, hnm, hnl⟩, hin, hsel⟩ := S
  intro he H locs ls hP hS hl
  cases he1 : f σ with
  | none => rw [he1] at he; cases he
  | some t1 =>
    rw [he1] at he
    have hroom : (sw_rm d').frames + 1 ≤ R.frames ∧ 8 + (nL' + 11) + (sw_rm d').locals ≤ R.locals := by
      constructor
      · show d' + 1 ≤ R.frames
        omega
      · show 8 + (nL' + 11) + 40 * d' ≤ R.locals
        omega
    have hcs : cells + 0 ≤ R.cells ∧ slots + 0 ≤ R.slots := ⟨hc1, hc2⟩
    have hfr : ∀ q : Nat, sw_A ad H.size q → A q := by
      intro q hq
      rcases hq with ⟨i, hi, rfl⟩ | hq
      · exact hAd i hi
      · exact hA q (Nat.le_trans hS.1 hq)
    refine va_callv (va_runV (As := As) (rest := rest) (C := y.cls) ⟨hx, hb, hml, hown, hts⟩ (hM l D cA ad σ H.size t1 hap he1) ⟨callB_of n hts (sw_goodU hcode) rfl rfl rfl (hts _ hini) (hts _ hlk) hnm hroom, hts _ hin, hts _ hsel⟩ ⟨sw_blind, va_recv hK hP hci (sw_at_obj hs), fun U hU hW => ⟨by rw [hav], by rw [hU], by rw [hU]; exact hP, va_K.moved hW.alike hK⟩⟩ rfl hn hl.1 hst (lv_room hrest) hd hcs) hS (fun q _ h => hfr q h) hfr (fun _ u H1 locs1 hu hvm hp hB hz1 hk1 hS1 => ?_)
    obtain ⟨r1, τ1⟩ := t1
    skip
    skip
    exact k r1 τ1 he H1 locs1 ls (by rw [← hu]; exact hB) hS1 hl
end
