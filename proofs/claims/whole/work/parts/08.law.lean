/-! THE CLAIM OUT OF ONE WALK OF THE LAW'S BODY. Your part is whole_start (and what it stands on); all else here is the same for every law, but numbers. -/
def R_law : String := "SawLineLaw"
def lw_P (b : Addr) (xs : List Int32) (args : Array Value) (s : State) : Prop := args = #[.ref b] ∧ s.IntsAt b xs ∧ xs.length ≤ 3072 ∧ (Jvm.Cond.and given_1 narrow_1).before args s = true
def lw_Q (_ : Array Value) (s : State) (o : Outcome) (t : State) : Prop := o = .returned (some (.int 1)) ∧ Framed s o t [] 63 1488
def lw_Z (below : List Frame) (a : Array Value) (s : State) : State → Prop := fun t => ∃ o, t.status = .running ∧ Ended t below o ∧ lw_Q a s o t
/-- the law's own end, with 1 on the stack, nothing written that was there before, its room as the claim has it -/
theorem lw_ret {p : Program} {l : Launch} {e : Env} {s : State} {m : MethodId} {below : List Frame} {meth : Method} {c : Code} {b : Nat} (hx : p.tables.exec = Jvm.exec) (hb : c.code = code) (hr : meth.sig.returnType = ret) (hlocks : meth.locks = false) {pc : Nat} {H : Heap} {ls : Array Slot} (hdg : decode code pc = .ok (.ireturn, 1)) : W p l e room_1 s m #[Value.ref b] below meth c H [] 63 1488 (lw_Z below #[Value.ref b] s) (F0 m pc ls [.int 1]) := by
  intro T hT X
  obtain ⟨fs, hret, hrun, hended, hW, hframe⟩ := X.leave (v := some (.int 1)) (hlocks := hlocks) (fun h => by rw [hr] at h; cases h)
  have hmeth' : T.vm.method? m = some meth := X.method'
  refine ⟨T.setFrames fs, ?_, .returned (some (.int 1)), hrun, hended, rfl, ⟨_, rfl⟩, hW, hframe⟩
  jvm_step X.here [X.here.top, hx, hb, hdg, hmeth', hr, ret, narrow_b1]
  (try refine ⟨rfl, ?_⟩); (try refine ⟨rfl, ?_⟩)
  first | (intro acts; rw [hret _ acts rfl rfl rfl]) | rw [hret _ _ rfl rfl rfl]
  exact Steps.refl _
/-- what holds at the law's entry: the machine, the code, the tables' words (any of lw_tbl by 'hts w (by decide +kernel)'), the script of L ints xs at the cell b, what the Statement gives of the start (any of its parts by flat_of_before) -/
def lw_At (p : Program) (s : State) (m : MethodId) (meth : Method) (c : Code) (b L : Nat) (xs : Nat → Int32) : Prop :=
  p.tables.exec = Jvm.exec ∧ c.code = code ∧ meth.sig.returnType = ret ∧ c.maxLocals = 4 ∧ s.vm.findClass R_law = some m.cls ∧ (∀ w ∈ lw_tbl, w.before #[Value.ref b] s = true) ∧ va_X b L xs s s.heap ∧ b < s.heap.size ∧ meth.locks = false ∧ (Jvm.Cond.and given_1 narrow_1).before #[Value.ref b] s = true
def sw_ML (X : sw_X) (b Ls : Nat) (xs : Nat → Int32) : Prop := match X with
  | ((p, l, e, R, s, m), (args, below, meth, c), (cells, slots, Q), (A, D, cA, nL)) => va_X b Ls xs s s.heap ∧ b < s.heap.size ∧ A = (fun q => s.heap.size ≤ q) ∧ cells = 63 ∧ slots = 1488 ∧ R = room_1 ∧ args = #[Value.ref b] ∧ Q = lw_Z below #[Value.ref b] s ∧ meth.locks = false ∧ meth.sig.returnType = ret
section
variable {X : sw_X} {ad : Nat → Nat} {own : String} {d : Nat} {t : Int32 × sw_St} {pc : Nat} {L : List (Nat × Value)} {st : List Value} {σ : sw_St} {e : Option (Int32 × sw_St)} {b Ls : Nat} {xs : Nat → Int32}
theorem sw_sld {i : Int32} (C : sw_C X ad cL_law own d) (M : sw_ML X b Ls xs) (hd : decode cL_law pc = .ok (.iaload, 1)) (k : sw_J X ad t (pc + 1) L (.int (xs i.toNatClampNeg) :: st) σ e) : sw_J X ad t pc L (.int i :: .ref b :: st) σ (if sw_ok i Ls = true then e else none) := by
  refine sw_ite (fun hi => ?_) (fun _ => sw_none)
  obtain ⟨⟨p, l, ev, R, s, m⟩, ⟨args, below, meth, c⟩, ⟨cells, slots, Q⟩, ⟨A, D, cA, nL⟩⟩ := X
  obtain ⟨hx, hb, hml, hown, hts, hK, hap, hAd, hA, hF, hR, hc1, hc2⟩ := C
  obtain ⟨hX, hbl, rfl, rfl, rfl, rfl, rfl, rfl, hlk, hret⟩ := M
  intro he H locs ls hP hS hl
  exact va_sld hx hb hX hbl (Nat.not_le.mpr hbl) hS (sw_ok_in hi) hd (k he H locs ls hP hS hl)
theorem sw_slen (C : sw_C X ad cL_law own d) (M : sw_ML X b Ls xs) (hd : decode cL_law pc = .ok (.arraylength, 1)) (k : sw_J X ad t (pc + 1) L (.int (Int32.ofNat Ls) :: st) σ e) : sw_J X ad t pc L (.ref b :: st) σ e := by
  obtain ⟨⟨p, l, ev, R, s, m⟩, ⟨args, below, meth, c⟩, ⟨cells, slots, Q⟩, ⟨A, D, cA, nL⟩⟩ := X
  obtain ⟨hx, hb, hml, hown, hts, hK, hap, hAd, hA, hF, hR, hc1, hc2⟩ := C
  obtain ⟨hX, hbl, rfl, rfl, rfl, rfl, rfl, rfl, hlk, hret⟩ := M
  intro he H locs ls hP hS hl
  exact va_slen hx hb hX hbl (Nat.not_le.mpr hbl) hS hd (k he H locs ls hP hS hl)
theorem sw_retL (C : sw_C X ad cL_law own d) (M : sw_ML X b Ls xs) (hd : decode cL_law pc = .ok (.ireturn, 1)) : sw_J X ad t pc L [.int 1] σ (some (1, σ)) := by
  obtain ⟨⟨p, l, ev, R, s, m⟩, ⟨args, below, meth, c⟩, ⟨cells, slots, Q⟩, ⟨A, D, cA, nL⟩⟩ := X
  obtain ⟨hx, hb, hml, hown, hts, hK, hap, hAd, hA, hF, hR, hc1, hc2⟩ := C
  obtain ⟨hX, hbl, rfl, rfl, rfl, rfl, rfl, rfl, hlk, hret⟩ := M
  intro he H locs ls hP hS hl
  exact va_forget (fun q hq => hS.2.2 q hq) (lw_ret hx hb hret hlk hd)
end
theorem mlL_13 : Cond.methodLink RL 13 yX9_saw ∈ sw_tbl := sw_mem 317 (by decide +kernel) rfl
theorem mlL_17 : Cond.methodLink RL 17 yX10_saw ∈ sw_tbl := sw_mem 1018 (by decide +kernel) rfl
theorem mlL_18 : Cond.methodLink RL 18 yX9_ofTooth ∈ sw_tbl := sw_mem 390 (by decide +kernel) rfl
theorem mlL_22 : Cond.methodLink RL 22 yX10_ofTooth ∈ sw_tbl := sw_mem 1057 (by decide +kernel) rfl
theorem mlL_23 : Cond.methodLink RL 23 yX9_set ∈ sw_tbl := sw_mem 417 (by decide +kernel) rfl
theorem mlL_27 : Cond.methodLink RL 27 yX10_set ∈ sw_tbl := sw_mem 1073 (by decide +kernel) rfl
theorem mlL_28 : Cond.methodLink RL 28 yX9_ofSaw ∈ sw_tbl := sw_mem 426 (by decide +kernel) rfl
theorem mlL_32 : Cond.methodLink RL 32 yX10_ofSaw ∈ sw_tbl := sw_mem 1081 (by decide +kernel) rfl
theorem mlL_33 : Cond.methodLink RL 33 yX9_board ∈ sw_tbl := sw_mem 445 (by decide +kernel) rfl
theorem mlL_36 : Cond.methodLink RL 36 yX10_board ∈ sw_tbl := sw_mem 1096 (by decide +kernel) rfl
theorem mlL_37 : Cond.methodLink RL 37 yX9_ofLine ∈ sw_tbl := sw_mem 463 (by decide +kernel) rfl
theorem mlL_40 : Cond.methodLink RL 40 yX10_ofLine ∈ sw_tbl := sw_mem 1105 (by decide +kernel) rfl
theorem mlL_41 : Cond.methodLink RL 41 yX9_hand ∈ sw_tbl := sw_mem 484 (by decide +kernel) rfl
theorem mlL_44 : Cond.methodLink RL 44 yX10_hand ∈ sw_tbl := sw_mem 1113 (by decide +kernel) rfl
theorem mlL_45 : Cond.methodLink RL 45 yX9_ofHand ∈ sw_tbl := sw_mem 488 (by decide +kernel) rfl
theorem mlL_48 : Cond.methodLink RL 48 yX10_ofHand ∈ sw_tbl := sw_mem 1119 (by decide +kernel) rfl
theorem mlL_49 : Cond.methodLink RL 49 yX9_fence ∈ sw_tbl := sw_mem 492 (by decide +kernel) rfl
theorem mlL_52 : Cond.methodLink RL 52 yX10_fence ∈ sw_tbl := sw_mem 1123 (by decide +kernel) rfl
theorem mlL_53 : Cond.methodLink RL 53 yX9_where ∈ sw_tbl := sw_mem 496 (by decide +kernel) rfl
theorem mlL_57 : Cond.methodLink RL 57 yX10_where ∈ sw_tbl := sw_mem 1128 (by decide +kernel) rfl
theorem mlL_58 : Cond.methodLink RL 58 yX9_heading ∈ sw_tbl := sw_mem 544 (by decide +kernel) rfl
theorem mlL_61 : Cond.methodLink RL 61 yX10_heading ∈ sw_tbl := sw_mem 1147 (by decide +kernel) rfl
theorem mlL_62 : Cond.methodLink RL 62 yX9_off ∈ sw_tbl := sw_mem 549 (by decide +kernel) rfl
theorem mlL_66 : Cond.methodLink RL 66 yX10_off ∈ sw_tbl := sw_mem 1151 (by decide +kernel) rfl
theorem mlL_67 : Cond.methodLink RL 67 yX9_pinched ∈ sw_tbl := sw_mem 553 (by decide +kernel) rfl
theorem mlL_70 : Cond.methodLink RL 70 yX10_pinched ∈ sw_tbl := sw_mem 1159 (by decide +kernel) rfl
theorem mlL_71 : Cond.methodLink RL 71 yX9_marks ∈ sw_tbl := sw_mem 557 (by decide +kernel) rfl
theorem mlL_74 : Cond.methodLink RL 74 yX10_marks ∈ sw_tbl := sw_mem 1163 (by decide +kernel) rfl
theorem mlL_75 : Cond.methodLink RL 75 yX9_which ∈ sw_tbl := sw_mem 569 (by decide +kernel) rfl
theorem mlL_78 : Cond.methodLink RL 78 yX10_which ∈ sw_tbl := sw_mem 1171 (by decide +kernel) rfl
theorem mlL_79 : Cond.methodLink RL 79 yX9_straightest ∈ sw_tbl := sw_mem 577 (by decide +kernel) rfl
theorem mlL_82 : Cond.methodLink RL 82 yX10_straightest ∈ sw_tbl := sw_mem 1175 (by decide +kernel) rfl
theorem mlL_83 : Cond.methodLink RL 83 yX9_flaw ∈ sw_tbl := sw_mem 601 (by decide +kernel) rfl
theorem mlL_86 : Cond.methodLink RL 86 yX10_flaw ∈ sw_tbl := sw_mem 1179 (by decide +kernel) rfl
theorem mlL_87 : Cond.methodLink RL 87 yX9_ofFlaw ∈ sw_tbl := sw_mem 609 (by decide +kernel) rfl
theorem mlL_90 : Cond.methodLink RL 90 yX10_ofFlaw ∈ sw_tbl := sw_mem 1183 (by decide +kernel) rfl
theorem mlL_91 : Cond.methodLink RL 91 yX9_reading ∈ sw_tbl := sw_mem 630 (by decide +kernel) rfl
theorem mlL_94 : Cond.methodLink RL 94 yX10_reading ∈ sw_tbl := sw_mem 1191 (by decide +kernel) rfl
theorem mlL_95 : Cond.methodLink RL 95 yX9_back ∈ sw_tbl := sw_mem 638 (by decide +kernel) rfl
theorem mlL_98 : Cond.methodLink RL 98 yX10_back ∈ sw_tbl := sw_mem 1195 (by decide +kernel) rfl
theorem mlL_99 : Cond.methodLink RL 99 yX9_likely ∈ sw_tbl := sw_mem 642 (by decide +kernel) rfl
theorem mlL_102 : Cond.methodLink RL 102 yX10_likely ∈ sw_tbl := sw_mem 1199 (by decide +kernel) rfl
theorem mlL_103 : Cond.methodLink RL 103 yX9_each ∈ sw_tbl := sw_mem 677 (by decide +kernel) rfl
theorem mlL_106 : Cond.methodLink RL 106 yX10_each ∈ sw_tbl := sw_mem 1215 (by decide +kernel) rfl
theorem mlL_107 : Cond.methodLink RL 107 yX9_act ∈ sw_tbl := sw_mem 681 (by decide +kernel) rfl
theorem mlL_110 : Cond.methodLink RL 110 yX10_act ∈ sw_tbl := sw_mem 1219 (by decide +kernel) rfl
theorem mlL_111 : Cond.methodLink RL 111 yX9_mend ∈ sw_tbl := sw_mem 702 (by decide +kernel) rfl
theorem mlL_114 : Cond.methodLink RL 114 yX10_mend ∈ sw_tbl := sw_mem 1231 (by decide +kernel) rfl
theorem mlL_115 : Cond.methodLink RL 115 yX9_log ∈ sw_tbl := sw_mem 745 (by decide +kernel) rfl
theorem mlL_119 : Cond.methodLink RL 119 yX10_log ∈ sw_tbl := sw_mem 1260 (by decide +kernel) rfl
theorem mlL_120 : Cond.methodLink RL 120 yX9_sheet ∈ sw_tbl := sw_mem 787 (by decide +kernel) rfl
theorem mlL_123 : Cond.methodLink RL 123 yX10_sheet ∈ sw_tbl := sw_mem 1273 (by decide +kernel) rfl
theorem mlL_124 : Cond.methodLink RL 124 yX9_lose ∈ sw_tbl := sw_mem 796 (by decide +kernel) rfl
theorem mlL_127 : Cond.methodLink RL 127 yX10_lose ∈ sw_tbl := sw_mem 1277 (by decide +kernel) rfl
theorem mlL_128 : Cond.methodLink RL 128 yX9_put ∈ sw_tbl := sw_mem 804 (by decide +kernel) rfl
theorem mlL_131 : Cond.methodLink RL 131 yX10_put ∈ sw_tbl := sw_mem 1281 (by decide +kernel) rfl
theorem mlL_132 : Cond.methodLink RL 132 yX9_cell ∈ sw_tbl := sw_mem 814 (by decide +kernel) rfl
theorem mlL_136 : Cond.methodLink RL 136 yX10_cell ∈ sw_tbl := sw_mem 1289 (by decide +kernel) rfl
theorem mlL_137 : Cond.methodLink RL 137 yX9_copy ∈ sw_tbl := sw_mem 819 (by decide +kernel) rfl
theorem mlL_140 : Cond.methodLink RL 140 yX10_copy ∈ sw_tbl := sw_mem 1297 (by decide +kernel) rfl
theorem mlL_141 : Cond.methodLink RL 141 yX9_tell ∈ sw_tbl := sw_mem 833 (by decide +kernel) rfl
theorem mlL_144 : Cond.methodLink RL 144 yX10_tell ∈ sw_tbl := sw_mem 1301 (by decide +kernel) rfl
theorem mlL_145 : Cond.methodLink RL 145 yX9_joint ∈ sw_tbl := sw_mem 853 (by decide +kernel) rfl
theorem mlL_148 : Cond.methodLink RL 148 yX10_joint ∈ sw_tbl := sw_mem 1309 (by decide +kernel) rfl
theorem mlL_149 : Cond.methodLink RL 149 yX9_as ∈ sw_tbl := sw_mem 857 (by decide +kernel) rfl
theorem mlL_152 : Cond.methodLink RL 152 yX10_as ∈ sw_tbl := sw_mem 1313 (by decide +kernel) rfl
theorem mlL_153 : Cond.methodLink RL 153 yX9_trace ∈ sw_tbl := sw_mem 861 (by decide +kernel) rfl
theorem mlL_156 : Cond.methodLink RL 156 yX10_trace ∈ sw_tbl := sw_mem 1317 (by decide +kernel) rfl
theorem mlL_157 : Cond.methodLink RL 157 yX9_fault ∈ sw_tbl := sw_mem 865 (by decide +kernel) rfl
theorem mlL_160 : Cond.methodLink RL 160 yX10_fault ∈ sw_tbl := sw_mem 1321 (by decide +kernel) rfl
theorem mlL_161 : Cond.methodLink RL 161 yX9_many ∈ sw_tbl := sw_mem 869 (by decide +kernel) rfl
theorem mlL_164 : Cond.methodLink RL 164 yX10_many ∈ sw_tbl := sw_mem 1325 (by decide +kernel) rfl
def fL_law_B1323 (K18 : Int32 → sw_St → Option (Int32 × sw_St)) (v3 : Int32) (σ : sw_St) : Option (Int32 × sw_St) := K18 (v3 + 6) σ
def fL_law_L18 (Ls : Nat) (xs : Nat → Int32) : Nat → Int32 → sw_St → Option (Int32 × sw_St)
  | 0, _, _ => none
  | n + 1, v3, σ => (if ((Int32.ofNat Ls) - 6) < v3 then some (1, σ) else (if sw_ok v3 Ls = true then sw_let ((xs (Int32.toNatClampNeg v3)) &&& 63) (fun x1 => (if x1 = 0 then (if sw_ok (v3 + 1) Ls = true then (if sw_ok (v3 + 2) Ls = true then (if sw_ok (v3 + 3) Ls = true then (if sw_ok (v3 + 4) Ls = true then sw_bind (fX9_saw (xs (Int32.toNatClampNeg (v3 + 1))) (xs (Int32.toNatClampNeg (v3 + 2))) (xs (Int32.toNatClampNeg (v3 + 3))) (xs (Int32.toNatClampNeg (v3 + 4))) σ) (fun r3 σ4 => (if sw_ok (v3 + 1) Ls = true then (if sw_ok (v3 + 2) Ls = true then (if sw_ok (v3 + 3) Ls = true then (if sw_ok (v3 + 4) Ls = true then sw_bind (fX10_saw (xs (Int32.toNatClampNeg (v3 + 1))) (xs (Int32.toNatClampNeg (v3 + 2))) (xs (Int32.toNatClampNeg (v3 + 3))) (xs (Int32.toNatClampNeg (v3 + 4))) σ4) (fun r5 σ6 => (if r3 = r5 then fL_law_B1323 (fL_law_L18 Ls xs n) v3 σ6 else none)) else none) else none) else none) else none)) else none) else none) else none) else none) else (if x1 = 1 then (if sw_ok (v3 + 1) Ls = true then (if sw_ok (v3 + 2) Ls = true then sw_bind (fX9_ofTooth (xs (Int32.toNatClampNeg (v3 + 1))) (xs (Int32.toNatClampNeg (v3 + 2))) σ) (fun r8 σ9 => (if sw_ok (v3 + 1) Ls = true then (if sw_ok (v3 + 2) Ls = true then sw_bind (fX10_ofTooth (xs (Int32.toNatClampNeg (v3 + 1))) (xs (Int32.toNatClampNeg (v3 + 2))) σ9) (fun r10 σ11 => (if r8 = r10 then fL_law_B1323 (fL_law_L18 Ls xs n) v3 σ11 else none)) else none) else none)) else none) else none) else (if x1 = 2 then (if sw_ok (v3 + 1) Ls = true then (if sw_ok (v3 + 2) Ls = true then (if sw_ok (v3 + 3) Ls = true then sw_bind (fX9_set (xs (Int32.toNatClampNeg (v3 + 1))) (xs (Int32.toNatClampNeg (v3 + 2))) (xs (Int32.toNatClampNeg (v3 + 3))) σ) (fun r13 σ14 => (if sw_ok (v3 + 1) Ls = true then (if sw_ok (v3 + 2) Ls = true then (if sw_ok (v3 + 3) Ls = true then sw_bind (fX10_set (xs (Int32.toNatClampNeg (v3 + 1))) (xs (Int32.toNatClampNeg (v3 + 2))) (xs (Int32.toNatClampNeg (v3 + 3))) σ14) (fun r15 σ16 => (if r13 = r15 then fL_law_B1323 (fL_law_L18 Ls xs n) v3 σ16 else none)) else none) else none) else none)) else none) else none) else none) else (if x1 = 3 then (if sw_ok (v3 + 1) Ls = true then sw_bind (fX9_ofSaw (xs (Int32.toNatClampNeg (v3 + 1))) σ) (fun r18 σ19 => (if sw_ok (v3 + 1) Ls = true then sw_bind (fX10_ofSaw (xs (Int32.toNatClampNeg (v3 + 1))) σ19) (fun r20 σ21 => (if r18 = r20 then fL_law_B1323 (fL_law_L18 Ls xs n) v3 σ21 else none)) else none)) else none) else (if x1 = 4 then (if sw_ok (v3 + 1) Ls = true then (if sw_ok (v3 + 2) Ls = true then (if sw_ok (v3 + 3) Ls = true then (if sw_ok (v3 + 4) Ls = true then sw_bind (fX9_board (xs (Int32.toNatClampNeg (v3 + 1))) (xs (Int32.toNatClampNeg (v3 + 2))) (xs (Int32.toNatClampNeg (v3 + 3))) (xs (Int32.toNatClampNeg (v3 + 4))) σ) (fun r23 σ24 => (if sw_ok (v3 + 1) Ls = true then (if sw_ok (v3 + 2) Ls = true then (if sw_ok (v3 + 3) Ls = true then (if sw_ok (v3 + 4) Ls = true then sw_bind (fX10_board (xs (Int32.toNatClampNeg (v3 + 1))) (xs (Int32.toNatClampNeg (v3 + 2))) (xs (Int32.toNatClampNeg (v3 + 3))) (xs (Int32.toNatClampNeg (v3 + 4))) σ24) (fun r25 σ26 => (if r23 = r25 then fL_law_B1323 (fL_law_L18 Ls xs n) v3 σ26 else none)) else none) else none) else none) else none)) else none) else none) else none) else none) else (if x1 = 5 then (if sw_ok (v3 + 1) Ls = true then (if sw_ok (v3 + 2) Ls = true then sw_bind (fX9_ofLine (xs (Int32.toNatClampNeg (v3 + 1))) (xs (Int32.toNatClampNeg (v3 + 2))) σ) (fun r28 σ29 => (if sw_ok (v3 + 1) Ls = true then (if sw_ok (v3 + 2) Ls = true then sw_bind (fX10_ofLine (xs (Int32.toNatClampNeg (v3 + 1))) (xs (Int32.toNatClampNeg (v3 + 2))) σ29) (fun r30 σ31 => (if r28 = r30 then fL_law_B1323 (fL_law_L18 Ls xs n) v3 σ31 else none)) else none) else none)) else none) else none) else (if x1 = 6 then (if sw_ok (v3 + 1) Ls = true then (if sw_ok (v3 + 2) Ls = true then (if sw_ok (v3 + 3) Ls = true then sw_bind (fX9_hand (xs (Int32.toNatClampNeg (v3 + 1))) (xs (Int32.toNatClampNeg (v3 + 2))) (xs (Int32.toNatClampNeg (v3 + 3))) σ) (fun r33 σ34 => (if sw_ok (v3 + 1) Ls = true then (if sw_ok (v3 + 2) Ls = true then (if sw_ok (v3 + 3) Ls = true then sw_bind (fX10_hand (xs (Int32.toNatClampNeg (v3 + 1))) (xs (Int32.toNatClampNeg (v3 + 2))) (xs (Int32.toNatClampNeg (v3 + 3))) σ34) (fun r35 σ36 => (if r33 = r35 then fL_law_B1323 (fL_law_L18 Ls xs n) v3 σ36 else none)) else none) else none) else none)) else none) else none) else none) else (if x1 = 7 then (if sw_ok (v3 + 1) Ls = true then sw_bind (fX9_ofHand (xs (Int32.toNatClampNeg (v3 + 1))) σ) (fun r38 σ39 => (if sw_ok (v3 + 1) Ls = true then sw_bind (fX10_ofHand (xs (Int32.toNatClampNeg (v3 + 1))) σ39) (fun r40 σ41 => (if r38 = r40 then fL_law_B1323 (fL_law_L18 Ls xs n) v3 σ41 else none)) else none)) else none) else (if x1 = 8 then (if sw_ok (v3 + 1) Ls = true then sw_bind (fX9_fence (xs (Int32.toNatClampNeg (v3 + 1))) σ) (fun r43 σ44 => (if sw_ok (v3 + 1) Ls = true then sw_bind (fX10_fence (xs (Int32.toNatClampNeg (v3 + 1))) σ44) (fun r45 σ46 => (if r43 = r45 then fL_law_B1323 (fL_law_L18 Ls xs n) v3 σ46 else none)) else none)) else none) else (if x1 = 9 then (if sw_ok (v3 + 1) Ls = true then sw_bind (fX9_where (xs (Int32.toNatClampNeg (v3 + 1))) σ) (fun r48 σ49 => (if sw_ok (v3 + 1) Ls = true then sw_bind (fX10_where (xs (Int32.toNatClampNeg (v3 + 1))) σ49) (fun r50 σ51 => (if (lg_cmp r48 r50) = 0 then fL_law_B1323 (fL_law_L18 Ls xs n) v3 σ51 else none)) else none)) else none) else (if x1 = 10 then (if sw_ok (v3 + 1) Ls = true then sw_bind (fX9_heading (xs (Int32.toNatClampNeg (v3 + 1))) σ) (fun r53 σ54 => (if sw_ok (v3 + 1) Ls = true then sw_bind (fX10_heading (xs (Int32.toNatClampNeg (v3 + 1))) σ54) (fun r55 σ56 => (if (lg_cmp r53 r55) = 0 then fL_law_B1323 (fL_law_L18 Ls xs n) v3 σ56 else none)) else none)) else none) else (if x1 = 11 then sw_bind (fX9_off σ) (fun r58 σ59 => sw_bind (fX10_off σ59) (fun r60 σ61 => (if r58 = r60 then fL_law_B1323 (fL_law_L18 Ls xs n) v3 σ61 else none))) else (if x1 = 12 then sw_bind (fX9_pinched σ) (fun r63 σ64 => sw_bind (fX10_pinched σ64) (fun r65 σ66 => (if r63 = r65 then fL_law_B1323 (fL_law_L18 Ls xs n) v3 σ66 else none))) else (if x1 = 13 then (if sw_ok (v3 + 1) Ls = true then sw_bind (fX9_marks (xs (Int32.toNatClampNeg (v3 + 1))) σ) (fun r68 σ69 => (if sw_ok (v3 + 1) Ls = true then sw_bind (fX10_marks (xs (Int32.toNatClampNeg (v3 + 1))) σ69) (fun r70 σ71 => (if r68 = r70 then fL_law_B1323 (fL_law_L18 Ls xs n) v3 σ71 else none)) else none)) else none) else (if x1 = 14 then (if sw_ok (v3 + 1) Ls = true then (if sw_ok (v3 + 2) Ls = true then sw_bind (fX9_which (xs (Int32.toNatClampNeg (v3 + 1))) (xs (Int32.toNatClampNeg (v3 + 2))) σ) (fun r73 σ74 => (if sw_ok (v3 + 1) Ls = true then (if sw_ok (v3 + 2) Ls = true then sw_bind (fX10_which (xs (Int32.toNatClampNeg (v3 + 1))) (xs (Int32.toNatClampNeg (v3 + 2))) σ74) (fun r75 σ76 => (if r73 = r75 then fL_law_B1323 (fL_law_L18 Ls xs n) v3 σ76 else none)) else none) else none)) else none) else none) else (if x1 = 15 then (if sw_ok (v3 + 1) Ls = true then sw_bind (fX9_straightest (xs (Int32.toNatClampNeg (v3 + 1))) σ) (fun r78 σ79 => (if sw_ok (v3 + 1) Ls = true then sw_bind (fX10_straightest (xs (Int32.toNatClampNeg (v3 + 1))) σ79) (fun r80 σ81 => (if r78 = r80 then fL_law_B1323 (fL_law_L18 Ls xs n) v3 σ81 else none)) else none)) else none) else (if x1 = 16 then (if sw_ok (v3 + 1) Ls = true then (if sw_ok (v3 + 2) Ls = true then (if sw_ok (v3 + 3) Ls = true then sw_bind (fX9_flaw (xs (Int32.toNatClampNeg (v3 + 1))) (xs (Int32.toNatClampNeg (v3 + 2))) (xs (Int32.toNatClampNeg (v3 + 3))) σ) (fun r83 σ84 => (if sw_ok (v3 + 1) Ls = true then (if sw_ok (v3 + 2) Ls = true then (if sw_ok (v3 + 3) Ls = true then sw_bind (fX10_flaw (xs (Int32.toNatClampNeg (v3 + 1))) (xs (Int32.toNatClampNeg (v3 + 2))) (xs (Int32.toNatClampNeg (v3 + 3))) σ84) (fun r85 σ86 => (if r83 = r85 then fL_law_B1323 (fL_law_L18 Ls xs n) v3 σ86 else none)) else none) else none) else none)) else none) else none) else none) else (if x1 = 17 then (if sw_ok (v3 + 1) Ls = true then (if sw_ok (v3 + 2) Ls = true then sw_bind (fX9_ofFlaw (xs (Int32.toNatClampNeg (v3 + 1))) (xs (Int32.toNatClampNeg (v3 + 2))) σ) (fun r88 σ89 => (if sw_ok (v3 + 1) Ls = true then (if sw_ok (v3 + 2) Ls = true then sw_bind (fX10_ofFlaw (xs (Int32.toNatClampNeg (v3 + 1))) (xs (Int32.toNatClampNeg (v3 + 2))) σ89) (fun r90 σ91 => (if r88 = r90 then fL_law_B1323 (fL_law_L18 Ls xs n) v3 σ91 else none)) else none) else none)) else none) else none) else (if x1 = 18 then (if sw_ok (v3 + 1) Ls = true then (if sw_ok (v3 + 2) Ls = true then sw_bind (fX9_reading (xs (Int32.toNatClampNeg (v3 + 1))) (xs (Int32.toNatClampNeg (v3 + 2))) σ) (fun r93 σ94 => (if sw_ok (v3 + 1) Ls = true then (if sw_ok (v3 + 2) Ls = true then sw_bind (fX10_reading (xs (Int32.toNatClampNeg (v3 + 1))) (xs (Int32.toNatClampNeg (v3 + 2))) σ94) (fun r95 σ96 => (if r93 = r95 then fL_law_B1323 (fL_law_L18 Ls xs n) v3 σ96 else none)) else none) else none)) else none) else none) else (if x1 = 19 then (if sw_ok (v3 + 1) Ls = true then sw_bind (fX9_back (xs (Int32.toNatClampNeg (v3 + 1))) σ) (fun r98 σ99 => (if sw_ok (v3 + 1) Ls = true then sw_bind (fX10_back (xs (Int32.toNatClampNeg (v3 + 1))) σ99) (fun r100 σ101 => (if r98 = r100 then fL_law_B1323 (fL_law_L18 Ls xs n) v3 σ101 else none)) else none)) else none) else (if x1 = 20 then (if sw_ok (v3 + 1) Ls = true then sw_bind (fX9_likely (xs (Int32.toNatClampNeg (v3 + 1))) σ) (fun r103 σ104 => (if sw_ok (v3 + 1) Ls = true then sw_bind (fX10_likely (xs (Int32.toNatClampNeg (v3 + 1))) σ104) (fun r105 σ106 => (if r103 = r105 then fL_law_B1323 (fL_law_L18 Ls xs n) v3 σ106 else none)) else none)) else none) else (if x1 = 21 then (if sw_ok (v3 + 1) Ls = true then sw_bind (fX9_each (xs (Int32.toNatClampNeg (v3 + 1))) σ) (fun r108 σ109 => (if sw_ok (v3 + 1) Ls = true then sw_bind (fX10_each (xs (Int32.toNatClampNeg (v3 + 1))) σ109) (fun r110 σ111 => (if r108 = r110 then fL_law_B1323 (fL_law_L18 Ls xs n) v3 σ111 else none)) else none)) else none) else (if x1 = 22 then (if sw_ok (v3 + 1) Ls = true then (if sw_ok (v3 + 2) Ls = true then sw_bind (fX9_act (xs (Int32.toNatClampNeg (v3 + 1))) (xs (Int32.toNatClampNeg (v3 + 2))) σ) (fun r113 σ114 => (if sw_ok (v3 + 1) Ls = true then (if sw_ok (v3 + 2) Ls = true then sw_bind (fX10_act (xs (Int32.toNatClampNeg (v3 + 1))) (xs (Int32.toNatClampNeg (v3 + 2))) σ114) (fun r115 σ116 => (if r113 = r115 then fL_law_B1323 (fL_law_L18 Ls xs n) v3 σ116 else none)) else none) else none)) else none) else none) else (if x1 = 23 then (if sw_ok (v3 + 1) Ls = true then (if sw_ok (v3 + 2) Ls = true then sw_bind (fX9_mend (xs (Int32.toNatClampNeg (v3 + 1))) (xs (Int32.toNatClampNeg (v3 + 2))) σ) (fun r118 σ119 => (if sw_ok (v3 + 1) Ls = true then (if sw_ok (v3 + 2) Ls = true then sw_bind (fX10_mend (xs (Int32.toNatClampNeg (v3 + 1))) (xs (Int32.toNatClampNeg (v3 + 2))) σ119) (fun r120 σ121 => (if r118 = r120 then fL_law_B1323 (fL_law_L18 Ls xs n) v3 σ121 else none)) else none) else none)) else none) else none) else (if x1 = 24 then (if sw_ok (v3 + 1) Ls = true then (if sw_ok (v3 + 2) Ls = true then (if sw_ok (v3 + 3) Ls = true then (if sw_ok (v3 + 4) Ls = true then (if sw_ok (v3 + 5) Ls = true then sw_bind (fX9_log (xs (Int32.toNatClampNeg (v3 + 1))) (xs (Int32.toNatClampNeg (v3 + 2))) (xs (Int32.toNatClampNeg (v3 + 3))) (xs (Int32.toNatClampNeg (v3 + 4))) (xs (Int32.toNatClampNeg (v3 + 5))) σ) (fun r123 σ124 => (if sw_ok (v3 + 1) Ls = true then (if sw_ok (v3 + 2) Ls = true then (if sw_ok (v3 + 3) Ls = true then (if sw_ok (v3 + 4) Ls = true then (if sw_ok (v3 + 5) Ls = true then sw_bind (fX10_log (xs (Int32.toNatClampNeg (v3 + 1))) (xs (Int32.toNatClampNeg (v3 + 2))) (xs (Int32.toNatClampNeg (v3 + 3))) (xs (Int32.toNatClampNeg (v3 + 4))) (xs (Int32.toNatClampNeg (v3 + 5))) σ124) (fun r125 σ126 => (if r123 = r125 then fL_law_B1323 (fL_law_L18 Ls xs n) v3 σ126 else none)) else none) else none) else none) else none) else none)) else none) else none) else none) else none) else none) else (if x1 = 25 then (if sw_ok (v3 + 1) Ls = true then (if sw_ok (v3 + 2) Ls = true then (if sw_ok (v3 + 3) Ls = true then sw_bind (fX9_sheet (xs (Int32.toNatClampNeg (v3 + 1))) (xs (Int32.toNatClampNeg (v3 + 2))) (xs (Int32.toNatClampNeg (v3 + 3))) σ) (fun r128 σ129 => (if sw_ok (v3 + 1) Ls = true then (if sw_ok (v3 + 2) Ls = true then (if sw_ok (v3 + 3) Ls = true then sw_bind (fX10_sheet (xs (Int32.toNatClampNeg (v3 + 1))) (xs (Int32.toNatClampNeg (v3 + 2))) (xs (Int32.toNatClampNeg (v3 + 3))) σ129) (fun r130 σ131 => (if r128 = r130 then fL_law_B1323 (fL_law_L18 Ls xs n) v3 σ131 else none)) else none) else none) else none)) else none) else none) else none) else (if x1 = 26 then (if sw_ok (v3 + 1) Ls = true then sw_bind (fX9_lose (xs (Int32.toNatClampNeg (v3 + 1))) σ) (fun r133 σ134 => (if sw_ok (v3 + 1) Ls = true then sw_bind (fX10_lose (xs (Int32.toNatClampNeg (v3 + 1))) σ134) (fun r135 σ136 => (if r133 = r135 then fL_law_B1323 (fL_law_L18 Ls xs n) v3 σ136 else none)) else none)) else none) else (if x1 = 27 then (if sw_ok (v3 + 1) Ls = true then (if sw_ok (v3 + 2) Ls = true then (if sw_ok (v3 + 3) Ls = true then sw_bind (fX9_put (xs (Int32.toNatClampNeg (v3 + 1))) (xs (Int32.toNatClampNeg (v3 + 2))) (xs (Int32.toNatClampNeg (v3 + 3))) σ) (fun r138 σ139 => (if sw_ok (v3 + 1) Ls = true then (if sw_ok (v3 + 2) Ls = true then (if sw_ok (v3 + 3) Ls = true then sw_bind (fX10_put (xs (Int32.toNatClampNeg (v3 + 1))) (xs (Int32.toNatClampNeg (v3 + 2))) (xs (Int32.toNatClampNeg (v3 + 3))) σ139) (fun r140 σ141 => (if r138 = r140 then fL_law_B1323 (fL_law_L18 Ls xs n) v3 σ141 else none)) else none) else none) else none)) else none) else none) else none) else (if x1 = 28 then (if sw_ok (v3 + 1) Ls = true then (if sw_ok (v3 + 2) Ls = true then (if sw_ok (v3 + 3) Ls = true then sw_bind (fX9_cell (xs (Int32.toNatClampNeg (v3 + 1))) (xs (Int32.toNatClampNeg (v3 + 2))) (xs (Int32.toNatClampNeg (v3 + 3))) σ) (fun r143 σ144 => (if sw_ok (v3 + 1) Ls = true then (if sw_ok (v3 + 2) Ls = true then (if sw_ok (v3 + 3) Ls = true then sw_bind (fX10_cell (xs (Int32.toNatClampNeg (v3 + 1))) (xs (Int32.toNatClampNeg (v3 + 2))) (xs (Int32.toNatClampNeg (v3 + 3))) σ144) (fun r145 σ146 => (if (lg_cmp r143 r145) = 0 then fL_law_B1323 (fL_law_L18 Ls xs n) v3 σ146 else none)) else none) else none) else none)) else none) else none) else none) else (if x1 = 29 then (if sw_ok (v3 + 1) Ls = true then (if sw_ok (v3 + 2) Ls = true then (if sw_ok (v3 + 3) Ls = true then (if sw_ok (v3 + 4) Ls = true then (if sw_ok (v3 + 5) Ls = true then sw_bind (fX9_copy (xs (Int32.toNatClampNeg (v3 + 1))) (xs (Int32.toNatClampNeg (v3 + 2))) (xs (Int32.toNatClampNeg (v3 + 3))) (xs (Int32.toNatClampNeg (v3 + 4))) (xs (Int32.toNatClampNeg (v3 + 5))) σ) (fun r148 σ149 => (if sw_ok (v3 + 1) Ls = true then (if sw_ok (v3 + 2) Ls = true then (if sw_ok (v3 + 3) Ls = true then (if sw_ok (v3 + 4) Ls = true then (if sw_ok (v3 + 5) Ls = true then sw_bind (fX10_copy (xs (Int32.toNatClampNeg (v3 + 1))) (xs (Int32.toNatClampNeg (v3 + 2))) (xs (Int32.toNatClampNeg (v3 + 3))) (xs (Int32.toNatClampNeg (v3 + 4))) (xs (Int32.toNatClampNeg (v3 + 5))) σ149) (fun r150 σ151 => (if r148 = r150 then fL_law_B1323 (fL_law_L18 Ls xs n) v3 σ151 else none)) else none) else none) else none) else none) else none)) else none) else none) else none) else none) else none) else (if x1 = 30 then (if sw_ok (v3 + 1) Ls = true then sw_bind (fX9_tell (xs (Int32.toNatClampNeg (v3 + 1))) σ) (fun r153 σ154 => (if sw_ok (v3 + 1) Ls = true then sw_bind (fX10_tell (xs (Int32.toNatClampNeg (v3 + 1))) σ154) (fun r155 σ156 => (if r153 = r155 then fL_law_B1323 (fL_law_L18 Ls xs n) v3 σ156 else none)) else none)) else none) else (if x1 = 31 then (if sw_ok (v3 + 1) Ls = true then sw_bind (fX9_joint (xs (Int32.toNatClampNeg (v3 + 1))) σ) (fun r158 σ159 => (if sw_ok (v3 + 1) Ls = true then sw_bind (fX10_joint (xs (Int32.toNatClampNeg (v3 + 1))) σ159) (fun r160 σ161 => (if r158 = r160 then fL_law_B1323 (fL_law_L18 Ls xs n) v3 σ161 else none)) else none)) else none) else (if x1 = 32 then (if sw_ok (v3 + 1) Ls = true then (if sw_ok (v3 + 2) Ls = true then sw_bind (fX9_as (xs (Int32.toNatClampNeg (v3 + 1))) (xs (Int32.toNatClampNeg (v3 + 2))) σ) (fun r163 σ164 => (if sw_ok (v3 + 1) Ls = true then (if sw_ok (v3 + 2) Ls = true then sw_bind (fX10_as (xs (Int32.toNatClampNeg (v3 + 1))) (xs (Int32.toNatClampNeg (v3 + 2))) σ164) (fun r165 σ166 => (if r163 = r165 then fL_law_B1323 (fL_law_L18 Ls xs n) v3 σ166 else none)) else none) else none)) else none) else none) else (if x1 = 33 then sw_bind (fX9_trace σ) (fun r168 σ169 => sw_bind (fX10_trace σ169) (fun r170 σ171 => (if r168 = r170 then fL_law_B1323 (fL_law_L18 Ls xs n) v3 σ171 else none))) else (if x1 = 34 then sw_bind (fX9_fault σ) (fun r173 σ174 => sw_bind (fX10_fault σ174) (fun r175 σ176 => (if r173 = r175 then fL_law_B1323 (fL_law_L18 Ls xs n) v3 σ176 else none))) else (if x1 = 35 then (if sw_ok (v3 + 1) Ls = true then sw_bind (fX9_many (xs (Int32.toNatClampNeg (v3 + 1))) σ) (fun r178 σ179 => (if sw_ok (v3 + 1) Ls = true then sw_bind (fX10_many (xs (Int32.toNatClampNeg (v3 + 1))) σ179) (fun r180 σ181 => (if r178 = r180 then fL_law_B1323 (fL_law_L18 Ls xs n) v3 σ181 else none)) else none)) else none) else fL_law_B1323 (fL_law_L18 Ls xs n) v3 σ))))))))))))))))))))))))))))))))))))) else none))
set_option maxRecDepth 100000 in
set_option maxHeartbeats 4000000 in
theorem jL_law_B1323 {X : sw_X} {ad : Nat → Nat} {t : Int32 × sw_St} {b Ls : Nat} {xs : Nat → Int32} (C : sw_C X ad cL_law RL 9) (hn : sw_nL X = 4) (M : sw_ML X b Ls xs) {K18 : Int32 → sw_St → Option (Int32 × sw_St)} (hK18 : ∀ (z3 : Int32) (τ : sw_St), sw_J X ad t 18 [(0, .ref b), (1, .ref (ad 0)), (2, .ref (ad 37)), (3, .int z3)] [] τ (K18 z3 τ)) (v3 : Int32) (σ : sw_St) : sw_J X ad t 1323 [(0, .ref b), (1, .ref (ad 0)), (2, .ref (ad 37)), (3, .int v3)] [] σ (fL_law_B1323 K18 v3 σ) := by
  unfold fL_law_B1323
  refine sw_iinc (pc := 1323) (v3 + 6) 3 [(3, .int (v3 + 6)), (0, .ref b), (1, .ref (ad 0)), (2, .ref (ad 37))] C dL_law_1323 (by rw [hn]; decide) rfl rfl rfl ?_
  refine sw_goto (pc := 1326) 18 C dL_law_1326 (by decide) ?_
  refine sw_lpick (pc := 18) (L' := [(0, .ref b), (1, .ref (ad 0)), (2, .ref (ad 37)), (3, .int (v3 + 6))]) [1, 2, 3, 0] rfl ?_
  exact hK18 _ _
set_option maxRecDepth 100000 in
set_option maxHeartbeats 4000000 in
theorem jL_law_L18 {X : sw_X} {ad : Nat → Nat} {t : Int32 × sw_St} {b Ls : Nat} {xs : Nat → Int32} (C : sw_C X ad cL_law RL 9) (hn : sw_nL X = 4) (M : sw_ML X b Ls xs) : ∀ (n : Nat) (v3 : Int32) (σ : sw_St), sw_J X ad t 18 [(0, .ref b), (1, .ref (ad 0)), (2, .ref (ad 37)), (3, .int v3)] [] σ (fL_law_L18 Ls xs n v3 σ) := by
  intro n
  induction n with
  | zero => exact fun _ _ => sw_none
  | succ n ih =>
    intro v3 σ
    unfold fL_law_L18
    refine sw_iloadn (pc := 18) 3 3 C dL_law_18 rfl ?_
    refine sw_aloadn (pc := 19) 0 0 C dL_law_19 rfl ?_
    refine sw_slen (pc := 20) C M dL_law_20 ?_
    refine sw_bipush (pc := 21) (v := 6) C dL_law_21 (by decide) ?_
    refine sw_isub (pc := 23) C dL_law_23 ?_
    refine sw_icmp_gt (pc := 24) 1329 C dL_law_24 (by decide) ?_ ?_
    · refine sw_iconst (pc := 1329) (v := 1) C dL_law_1329 (by decide) ?_
      exact sw_retL (pc := 1330) C M dL_law_1330
    · refine sw_aloadn (pc := 27) 0 0 C dL_law_27 rfl ?_
      refine sw_iloadn (pc := 28) 3 3 C dL_law_28 rfl ?_
      refine sw_sld (pc := 29) C M dL_law_29 ?_
      refine sw_bipush (pc := 30) (v := 63) C dL_law_30 (by decide) ?_
      refine sw_iand (pc := 32) C dL_law_32 ?_
      refine sw_leti (fun x1 => ?_)
      refine sw_ite (fun h2 => ?_) (fun h2 => ?_)
      · refine sw_tabIn (pc := 33) (off := 159) 192 C dL_law_33 (by rw [h2]; decide) (by rw [h2]; decide) (by rw [h2]; rfl) (by decide) ?_
        refine sw_aloadn (pc := 192) 1 1 C dL_law_192 rfl ?_
        refine sw_aloadn (pc := 193) 0 0 C dL_law_193 rfl ?_
        refine sw_iloadn (pc := 194) 3 3 C dL_law_194 rfl ?_
        refine sw_iconst (pc := 195) (v := 1) C dL_law_195 (by decide) ?_
        refine sw_iadd (pc := 196) C dL_law_196 ?_
        refine sw_sld (pc := 197) C M dL_law_197 ?_
        refine sw_aloadn (pc := 198) 0 0 C dL_law_198 rfl ?_
        refine sw_iloadn (pc := 199) 3 3 C dL_law_199 rfl ?_
        refine sw_iconst (pc := 200) (v := 2) C dL_law_200 (by decide) ?_
        refine sw_iadd (pc := 201) C dL_law_201 ?_
        refine sw_sld (pc := 202) C M dL_law_202 ?_
        refine sw_aloadn (pc := 203) 0 0 C dL_law_203 rfl ?_
        refine sw_iloadn (pc := 204) 3 3 C dL_law_204 rfl ?_
        refine sw_iconst (pc := 205) (v := 3) C dL_law_205 (by decide) ?_
        refine sw_iadd (pc := 206) C dL_law_206 ?_
        refine sw_sld (pc := 207) C M dL_law_207 ?_
        refine sw_aloadn (pc := 208) 0 0 C dL_law_208 rfl ?_
        refine sw_iloadn (pc := 209) 3 3 C dL_law_209 rfl ?_
        refine sw_iconst (pc := 210) (v := 4) C dL_law_210 (by decide) ?_
        refine sw_iadd (pc := 211) C dL_law_211 ?_
        refine sw_sld (pc := 212) C M dL_law_212 ?_
        refine sw_callVi (pc := 213) C (mX9_saw (xs (Int32.toNatClampNeg (v3 + 1))) (xs (Int32.toNatClampNeg (v3 + 2))) (xs (Int32.toNatClampNeg (v3 + 3))) (xs (Int32.toNatClampNeg (v3 + 4)))) sgX9_saw mlL_13 dL_law_213 (by decide) [.int (xs (Int32.toNatClampNeg (v3 + 1))), .int (xs (Int32.toNatClampNeg (v3 + 2))), .int (xs (Int32.toNatClampNeg (v3 + 3))), .int (xs (Int32.toNatClampNeg (v3 + 4)))] [] sh0 rfl rfl rfl rfl (Nat.le_of_ble_eq_true rfl) (fun r3 σ4 => ?_)
        refine sw_aloadn (pc := 216) 2 2 C dL_law_216 rfl ?_
        refine sw_aloadn (pc := 217) 0 0 C dL_law_217 rfl ?_
        refine sw_iloadn (pc := 218) 3 3 C dL_law_218 rfl ?_
        refine sw_iconst (pc := 219) (v := 1) C dL_law_219 (by decide) ?_
        refine sw_iadd (pc := 220) C dL_law_220 ?_
        refine sw_sld (pc := 221) C M dL_law_221 ?_
        refine sw_aloadn (pc := 222) 0 0 C dL_law_222 rfl ?_
        refine sw_iloadn (pc := 223) 3 3 C dL_law_223 rfl ?_
        refine sw_iconst (pc := 224) (v := 2) C dL_law_224 (by decide) ?_
        refine sw_iadd (pc := 225) C dL_law_225 ?_
        refine sw_sld (pc := 226) C M dL_law_226 ?_
        refine sw_aloadn (pc := 227) 0 0 C dL_law_227 rfl ?_
        refine sw_iloadn (pc := 228) 3 3 C dL_law_228 rfl ?_
        refine sw_iconst (pc := 229) (v := 3) C dL_law_229 (by decide) ?_
        refine sw_iadd (pc := 230) C dL_law_230 ?_
        refine sw_sld (pc := 231) C M dL_law_231 ?_
        refine sw_aloadn (pc := 232) 0 0 C dL_law_232 rfl ?_
        refine sw_iloadn (pc := 233) 3 3 C dL_law_233 rfl ?_
        refine sw_iconst (pc := 234) (v := 4) C dL_law_234 (by decide) ?_
        refine sw_iadd (pc := 235) C dL_law_235 ?_
        refine sw_sld (pc := 236) C M dL_law_236 ?_
        refine sw_callVi (pc := 237) C (mX10_saw (xs (Int32.toNatClampNeg (v3 + 1))) (xs (Int32.toNatClampNeg (v3 + 2))) (xs (Int32.toNatClampNeg (v3 + 3))) (xs (Int32.toNatClampNeg (v3 + 4)))) sgX10_saw mlL_17 dL_law_237 (by decide) [.int (xs (Int32.toNatClampNeg (v3 + 1))), .int (xs (Int32.toNatClampNeg (v3 + 2))), .int (xs (Int32.toNatClampNeg (v3 + 3))), .int (xs (Int32.toNatClampNeg (v3 + 4)))] [.int r3] sh37 rfl rfl rfl rfl (Nat.le_of_ble_eq_true rfl) (fun r5 σ6 => ?_)
        refine sw_icmp_eq (pc := 240) 1323 C dL_law_240 (by decide) ?_ ?_
        · exact jL_law_B1323 C hn M ih _ _
        · refine sw_iconst (pc := 243) (v := 0) C dL_law_243 (by decide) ?_
          exact sw_none
      · skip
        refine sw_ite (fun h7 => ?_) (fun h7 => ?_)
        · refine sw_tabIn (pc := 33) (off := 212) 245 C dL_law_33 (by rw [h7]; decide) (by rw [h7]; decide) (by rw [h7]; rfl) (by decide) ?_
          refine sw_aloadn (pc := 245) 1 1 C dL_law_245 rfl ?_
          refine sw_aloadn (pc := 246) 0 0 C dL_law_246 rfl ?_
          refine sw_iloadn (pc := 247) 3 3 C dL_law_247 rfl ?_
          refine sw_iconst (pc := 248) (v := 1) C dL_law_248 (by decide) ?_
          refine sw_iadd (pc := 249) C dL_law_249 ?_
          refine sw_sld (pc := 250) C M dL_law_250 ?_
          refine sw_aloadn (pc := 251) 0 0 C dL_law_251 rfl ?_
          refine sw_iloadn (pc := 252) 3 3 C dL_law_252 rfl ?_
          refine sw_iconst (pc := 253) (v := 2) C dL_law_253 (by decide) ?_
          refine sw_iadd (pc := 254) C dL_law_254 ?_
          refine sw_sld (pc := 255) C M dL_law_255 ?_
          refine sw_callVi (pc := 256) C (mX9_ofTooth (xs (Int32.toNatClampNeg (v3 + 1))) (xs (Int32.toNatClampNeg (v3 + 2)))) sgX9_ofTooth mlL_18 dL_law_256 (by decide) [.int (xs (Int32.toNatClampNeg (v3 + 1))), .int (xs (Int32.toNatClampNeg (v3 + 2)))] [] sh0 rfl rfl rfl rfl (Nat.le_of_ble_eq_true rfl) (fun r8 σ9 => ?_)
          refine sw_aloadn (pc := 259) 2 2 C dL_law_259 rfl ?_
          refine sw_aloadn (pc := 260) 0 0 C dL_law_260 rfl ?_
          refine sw_iloadn (pc := 261) 3 3 C dL_law_261 rfl ?_
          refine sw_iconst (pc := 262) (v := 1) C dL_law_262 (by decide) ?_
          refine sw_iadd (pc := 263) C dL_law_263 ?_
          refine sw_sld (pc := 264) C M dL_law_264 ?_
          refine sw_aloadn (pc := 265) 0 0 C dL_law_265 rfl ?_
          refine sw_iloadn (pc := 266) 3 3 C dL_law_266 rfl ?_
          refine sw_iconst (pc := 267) (v := 2) C dL_law_267 (by decide) ?_
          refine sw_iadd (pc := 268) C dL_law_268 ?_
          refine sw_sld (pc := 269) C M dL_law_269 ?_
          refine sw_callVi (pc := 270) C (mX10_ofTooth (xs (Int32.toNatClampNeg (v3 + 1))) (xs (Int32.toNatClampNeg (v3 + 2)))) sgX10_ofTooth mlL_22 dL_law_270 (by decide) [.int (xs (Int32.toNatClampNeg (v3 + 1))), .int (xs (Int32.toNatClampNeg (v3 + 2)))] [.int r8] sh37 rfl rfl rfl rfl (Nat.le_of_ble_eq_true rfl) (fun r10 σ11 => ?_)
          refine sw_icmp_eq (pc := 273) 1323 C dL_law_273 (by decide) ?_ ?_
          · exact jL_law_B1323 C hn M ih _ _
          · refine sw_iconst (pc := 276) (v := 0) C dL_law_276 (by decide) ?_
            exact sw_none
        · skip
          refine sw_ite (fun h12 => ?_) (fun h12 => ?_)
          · refine sw_tabIn (pc := 33) (off := 245) 278 C dL_law_33 (by rw [h12]; decide) (by rw [h12]; decide) (by rw [h12]; rfl) (by decide) ?_
            refine sw_aloadn (pc := 278) 1 1 C dL_law_278 rfl ?_
            refine sw_aloadn (pc := 279) 0 0 C dL_law_279 rfl ?_
            refine sw_iloadn (pc := 280) 3 3 C dL_law_280 rfl ?_
            refine sw_iconst (pc := 281) (v := 1) C dL_law_281 (by decide) ?_
            refine sw_iadd (pc := 282) C dL_law_282 ?_
            refine sw_sld (pc := 283) C M dL_law_283 ?_
            refine sw_aloadn (pc := 284) 0 0 C dL_law_284 rfl ?_
            refine sw_iloadn (pc := 285) 3 3 C dL_law_285 rfl ?_
            refine sw_iconst (pc := 286) (v := 2) C dL_law_286 (by decide) ?_
            refine sw_iadd (pc := 287) C dL_law_287 ?_
            refine sw_sld (pc := 288) C M dL_law_288 ?_
            refine sw_aloadn (pc := 289) 0 0 C dL_law_289 rfl ?_
            refine sw_iloadn (pc := 290) 3 3 C dL_law_290 rfl ?_
            refine sw_iconst (pc := 291) (v := 3) C dL_law_291 (by decide) ?_
            refine sw_iadd (pc := 292) C dL_law_292 ?_
            refine sw_sld (pc := 293) C M dL_law_293 ?_
            refine sw_callVi (pc := 294) C (mX9_set (xs (Int32.toNatClampNeg (v3 + 1))) (xs (Int32.toNatClampNeg (v3 + 2))) (xs (Int32.toNatClampNeg (v3 + 3)))) sgX9_set mlL_23 dL_law_294 (by decide) [.int (xs (Int32.toNatClampNeg (v3 + 1))), .int (xs (Int32.toNatClampNeg (v3 + 2))), .int (xs (Int32.toNatClampNeg (v3 + 3)))] [] sh0 rfl rfl rfl rfl (Nat.le_of_ble_eq_true rfl) (fun r13 σ14 => ?_)
            refine sw_aloadn (pc := 297) 2 2 C dL_law_297 rfl ?_
            refine sw_aloadn (pc := 298) 0 0 C dL_law_298 rfl ?_
            refine sw_iloadn (pc := 299) 3 3 C dL_law_299 rfl ?_
            refine sw_iconst (pc := 300) (v := 1) C dL_law_300 (by decide) ?_
            refine sw_iadd (pc := 301) C dL_law_301 ?_
            refine sw_sld (pc := 302) C M dL_law_302 ?_
            refine sw_aloadn (pc := 303) 0 0 C dL_law_303 rfl ?_
            refine sw_iloadn (pc := 304) 3 3 C dL_law_304 rfl ?_
            refine sw_iconst (pc := 305) (v := 2) C dL_law_305 (by decide) ?_
            refine sw_iadd (pc := 306) C dL_law_306 ?_
            refine sw_sld (pc := 307) C M dL_law_307 ?_
            refine sw_aloadn (pc := 308) 0 0 C dL_law_308 rfl ?_
            refine sw_iloadn (pc := 309) 3 3 C dL_law_309 rfl ?_
            refine sw_iconst (pc := 310) (v := 3) C dL_law_310 (by decide) ?_
            refine sw_iadd (pc := 311) C dL_law_311 ?_
            refine sw_sld (pc := 312) C M dL_law_312 ?_
            refine sw_callVi (pc := 313) C (mX10_set (xs (Int32.toNatClampNeg (v3 + 1))) (xs (Int32.toNatClampNeg (v3 + 2))) (xs (Int32.toNatClampNeg (v3 + 3)))) sgX10_set mlL_27 dL_law_313 (by decide) [.int (xs (Int32.toNatClampNeg (v3 + 1))), .int (xs (Int32.toNatClampNeg (v3 + 2))), .int (xs (Int32.toNatClampNeg (v3 + 3)))] [.int r13] sh37 rfl rfl rfl rfl (Nat.le_of_ble_eq_true rfl) (fun r15 σ16 => ?_)
            refine sw_icmp_eq (pc := 316) 1323 C dL_law_316 (by decide) ?_ ?_
            · exact jL_law_B1323 C hn M ih _ _
            · refine sw_iconst (pc := 319) (v := 0) C dL_law_319 (by decide) ?_
              exact sw_none
          · skip
            refine sw_ite (fun h17 => ?_) (fun h17 => ?_)
            · refine sw_tabIn (pc := 33) (off := 288) 321 C dL_law_33 (by rw [h17]; decide) (by rw [h17]; decide) (by rw [h17]; rfl) (by decide) ?_
              refine sw_aloadn (pc := 321) 1 1 C dL_law_321 rfl ?_
              refine sw_aloadn (pc := 322) 0 0 C dL_law_322 rfl ?_
              refine sw_iloadn (pc := 323) 3 3 C dL_law_323 rfl ?_
              refine sw_iconst (pc := 324) (v := 1) C dL_law_324 (by decide) ?_
              refine sw_iadd (pc := 325) C dL_law_325 ?_
              refine sw_sld (pc := 326) C M dL_law_326 ?_
              refine sw_callVi (pc := 327) C (mX9_ofSaw (xs (Int32.toNatClampNeg (v3 + 1)))) sgX9_ofSaw mlL_28 dL_law_327 (by decide) [.int (xs (Int32.toNatClampNeg (v3 + 1)))] [] sh0 rfl rfl rfl rfl (Nat.le_of_ble_eq_true rfl) (fun r18 σ19 => ?_)
              refine sw_aloadn (pc := 330) 2 2 C dL_law_330 rfl ?_
              refine sw_aloadn (pc := 331) 0 0 C dL_law_331 rfl ?_
              refine sw_iloadn (pc := 332) 3 3 C dL_law_332 rfl ?_
              refine sw_iconst (pc := 333) (v := 1) C dL_law_333 (by decide) ?_
              refine sw_iadd (pc := 334) C dL_law_334 ?_
              refine sw_sld (pc := 335) C M dL_law_335 ?_
              refine sw_callVi (pc := 336) C (mX10_ofSaw (xs (Int32.toNatClampNeg (v3 + 1)))) sgX10_ofSaw mlL_32 dL_law_336 (by decide) [.int (xs (Int32.toNatClampNeg (v3 + 1)))] [.int r18] sh37 rfl rfl rfl rfl (Nat.le_of_ble_eq_true rfl) (fun r20 σ21 => ?_)
              refine sw_icmp_eq (pc := 339) 1323 C dL_law_339 (by decide) ?_ ?_
              · exact jL_law_B1323 C hn M ih _ _
              · refine sw_iconst (pc := 342) (v := 0) C dL_law_342 (by decide) ?_
                exact sw_none
            · skip
              refine sw_ite (fun h22 => ?_) (fun h22 => ?_)
              · refine sw_tabIn (pc := 33) (off := 311) 344 C dL_law_33 (by rw [h22]; decide) (by rw [h22]; decide) (by rw [h22]; rfl) (by decide) ?_
                refine sw_aloadn (pc := 344) 1 1 C dL_law_344 rfl ?_
                refine sw_aloadn (pc := 345) 0 0 C dL_law_345 rfl ?_
                refine sw_iloadn (pc := 346) 3 3 C dL_law_346 rfl ?_
                refine sw_iconst (pc := 347) (v := 1) C dL_law_347 (by decide) ?_
                refine sw_iadd (pc := 348) C dL_law_348 ?_
                refine sw_sld (pc := 349) C M dL_law_349 ?_
                refine sw_aloadn (pc := 350) 0 0 C dL_law_350 rfl ?_
                refine sw_iloadn (pc := 351) 3 3 C dL_law_351 rfl ?_
                refine sw_iconst (pc := 352) (v := 2) C dL_law_352 (by decide) ?_
                refine sw_iadd (pc := 353) C dL_law_353 ?_
                refine sw_sld (pc := 354) C M dL_law_354 ?_
                refine sw_aloadn (pc := 355) 0 0 C dL_law_355 rfl ?_
                refine sw_iloadn (pc := 356) 3 3 C dL_law_356 rfl ?_
                refine sw_iconst (pc := 357) (v := 3) C dL_law_357 (by decide) ?_
                refine sw_iadd (pc := 358) C dL_law_358 ?_
                refine sw_sld (pc := 359) C M dL_law_359 ?_
                refine sw_aloadn (pc := 360) 0 0 C dL_law_360 rfl ?_
                refine sw_iloadn (pc := 361) 3 3 C dL_law_361 rfl ?_
                refine sw_iconst (pc := 362) (v := 4) C dL_law_362 (by decide) ?_
                refine sw_iadd (pc := 363) C dL_law_363 ?_
                refine sw_sld (pc := 364) C M dL_law_364 ?_
                refine sw_callVi (pc := 365) C (mX9_board (xs (Int32.toNatClampNeg (v3 + 1))) (xs (Int32.toNatClampNeg (v3 + 2))) (xs (Int32.toNatClampNeg (v3 + 3))) (xs (Int32.toNatClampNeg (v3 + 4)))) sgX9_board mlL_33 dL_law_365 (by decide) [.int (xs (Int32.toNatClampNeg (v3 + 1))), .int (xs (Int32.toNatClampNeg (v3 + 2))), .int (xs (Int32.toNatClampNeg (v3 + 3))), .int (xs (Int32.toNatClampNeg (v3 + 4)))] [] sh0 rfl rfl rfl rfl (Nat.le_of_ble_eq_true rfl) (fun r23 σ24 => ?_)
                refine sw_aloadn (pc := 368) 2 2 C dL_law_368 rfl ?_
                refine sw_aloadn (pc := 369) 0 0 C dL_law_369 rfl ?_
                refine sw_iloadn (pc := 370) 3 3 C dL_law_370 rfl ?_
                refine sw_iconst (pc := 371) (v := 1) C dL_law_371 (by decide) ?_
                refine sw_iadd (pc := 372) C dL_law_372 ?_
                refine sw_sld (pc := 373) C M dL_law_373 ?_
                refine sw_aloadn (pc := 374) 0 0 C dL_law_374 rfl ?_
                refine sw_iloadn (pc := 375) 3 3 C dL_law_375 rfl ?_
                refine sw_iconst (pc := 376) (v := 2) C dL_law_376 (by decide) ?_
                refine sw_iadd (pc := 377) C dL_law_377 ?_
                refine sw_sld (pc := 378) C M dL_law_378 ?_
                refine sw_aloadn (pc := 379) 0 0 C dL_law_379 rfl ?_
                refine sw_iloadn (pc := 380) 3 3 C dL_law_380 rfl ?_
                refine sw_iconst (pc := 381) (v := 3) C dL_law_381 (by decide) ?_
                refine sw_iadd (pc := 382) C dL_law_382 ?_
                refine sw_sld (pc := 383) C M dL_law_383 ?_
                refine sw_aloadn (pc := 384) 0 0 C dL_law_384 rfl ?_
                refine sw_iloadn (pc := 385) 3 3 C dL_law_385 rfl ?_
                refine sw_iconst (pc := 386) (v := 4) C dL_law_386 (by decide) ?_
                refine sw_iadd (pc := 387) C dL_law_387 ?_
                refine sw_sld (pc := 388) C M dL_law_388 ?_
                refine sw_callVi (pc := 389) C (mX10_board (xs (Int32.toNatClampNeg (v3 + 1))) (xs (Int32.toNatClampNeg (v3 + 2))) (xs (Int32.toNatClampNeg (v3 + 3))) (xs (Int32.toNatClampNeg (v3 + 4)))) sgX10_board mlL_36 dL_law_389 (by decide) [.int (xs (Int32.toNatClampNeg (v3 + 1))), .int (xs (Int32.toNatClampNeg (v3 + 2))), .int (xs (Int32.toNatClampNeg (v3 + 3))), .int (xs (Int32.toNatClampNeg (v3 + 4)))] [.int r23] sh37 rfl rfl rfl rfl (Nat.le_of_ble_eq_true rfl) (fun r25 σ26 => ?_)
                refine sw_icmp_eq (pc := 392) 1323 C dL_law_392 (by decide) ?_ ?_
                · exact jL_law_B1323 C hn M ih _ _
                · refine sw_iconst (pc := 395) (v := 0) C dL_law_395 (by decide) ?_
                  exact sw_none
              · skip
                refine sw_ite (fun h27 => ?_) (fun h27 => ?_)
                · refine sw_tabIn (pc := 33) (off := 364) 397 C dL_law_33 (by rw [h27]; decide) (by rw [h27]; decide) (by rw [h27]; rfl) (by decide) ?_
                  refine sw_aloadn (pc := 397) 1 1 C dL_law_397 rfl ?_
                  refine sw_aloadn (pc := 398) 0 0 C dL_law_398 rfl ?_
                  refine sw_iloadn (pc := 399) 3 3 C dL_law_399 rfl ?_
                  refine sw_iconst (pc := 400) (v := 1) C dL_law_400 (by decide) ?_
                  refine sw_iadd (pc := 401) C dL_law_401 ?_
                  refine sw_sld (pc := 402) C M dL_law_402 ?_
                  refine sw_aloadn (pc := 403) 0 0 C dL_law_403 rfl ?_
                  refine sw_iloadn (pc := 404) 3 3 C dL_law_404 rfl ?_
                  refine sw_iconst (pc := 405) (v := 2) C dL_law_405 (by decide) ?_
                  refine sw_iadd (pc := 406) C dL_law_406 ?_
                  refine sw_sld (pc := 407) C M dL_law_407 ?_
                  refine sw_callVi (pc := 408) C (mX9_ofLine (xs (Int32.toNatClampNeg (v3 + 1))) (xs (Int32.toNatClampNeg (v3 + 2)))) sgX9_ofLine mlL_37 dL_law_408 (by decide) [.int (xs (Int32.toNatClampNeg (v3 + 1))), .int (xs (Int32.toNatClampNeg (v3 + 2)))] [] sh0 rfl rfl rfl rfl (Nat.le_of_ble_eq_true rfl) (fun r28 σ29 => ?_)
                  refine sw_aloadn (pc := 411) 2 2 C dL_law_411 rfl ?_
                  refine sw_aloadn (pc := 412) 0 0 C dL_law_412 rfl ?_
                  refine sw_iloadn (pc := 413) 3 3 C dL_law_413 rfl ?_
                  refine sw_iconst (pc := 414) (v := 1) C dL_law_414 (by decide) ?_
                  refine sw_iadd (pc := 415) C dL_law_415 ?_
                  refine sw_sld (pc := 416) C M dL_law_416 ?_
                  refine sw_aloadn (pc := 417) 0 0 C dL_law_417 rfl ?_
                  refine sw_iloadn (pc := 418) 3 3 C dL_law_418 rfl ?_
                  refine sw_iconst (pc := 419) (v := 2) C dL_law_419 (by decide) ?_
                  refine sw_iadd (pc := 420) C dL_law_420 ?_
                  refine sw_sld (pc := 421) C M dL_law_421 ?_
                  refine sw_callVi (pc := 422) C (mX10_ofLine (xs (Int32.toNatClampNeg (v3 + 1))) (xs (Int32.toNatClampNeg (v3 + 2)))) sgX10_ofLine mlL_40 dL_law_422 (by decide) [.int (xs (Int32.toNatClampNeg (v3 + 1))), .int (xs (Int32.toNatClampNeg (v3 + 2)))] [.int r28] sh37 rfl rfl rfl rfl (Nat.le_of_ble_eq_true rfl) (fun r30 σ31 => ?_)
                  refine sw_icmp_eq (pc := 425) 1323 C dL_law_425 (by decide) ?_ ?_
                  · exact jL_law_B1323 C hn M ih _ _
                  · refine sw_iconst (pc := 428) (v := 0) C dL_law_428 (by decide) ?_
                    exact sw_none
                · skip
                  refine sw_ite (fun h32 => ?_) (fun h32 => ?_)
                  · refine sw_tabIn (pc := 33) (off := 397) 430 C dL_law_33 (by rw [h32]; decide) (by rw [h32]; decide) (by rw [h32]; rfl) (by decide) ?_
                    refine sw_aloadn (pc := 430) 1 1 C dL_law_430 rfl ?_
                    refine sw_aloadn (pc := 431) 0 0 C dL_law_431 rfl ?_
                    refine sw_iloadn (pc := 432) 3 3 C dL_law_432 rfl ?_
                    refine sw_iconst (pc := 433) (v := 1) C dL_law_433 (by decide) ?_
                    refine sw_iadd (pc := 434) C dL_law_434 ?_
                    refine sw_sld (pc := 435) C M dL_law_435 ?_
                    refine sw_aloadn (pc := 436) 0 0 C dL_law_436 rfl ?_
                    refine sw_iloadn (pc := 437) 3 3 C dL_law_437 rfl ?_
                    refine sw_iconst (pc := 438) (v := 2) C dL_law_438 (by decide) ?_
                    refine sw_iadd (pc := 439) C dL_law_439 ?_
                    refine sw_sld (pc := 440) C M dL_law_440 ?_
                    refine sw_aloadn (pc := 441) 0 0 C dL_law_441 rfl ?_
                    refine sw_iloadn (pc := 442) 3 3 C dL_law_442 rfl ?_
                    refine sw_iconst (pc := 443) (v := 3) C dL_law_443 (by decide) ?_
                    refine sw_iadd (pc := 444) C dL_law_444 ?_
                    refine sw_sld (pc := 445) C M dL_law_445 ?_
                    refine sw_callVi (pc := 446) C (mX9_hand (xs (Int32.toNatClampNeg (v3 + 1))) (xs (Int32.toNatClampNeg (v3 + 2))) (xs (Int32.toNatClampNeg (v3 + 3)))) sgX9_hand mlL_41 dL_law_446 (by decide) [.int (xs (Int32.toNatClampNeg (v3 + 1))), .int (xs (Int32.toNatClampNeg (v3 + 2))), .int (xs (Int32.toNatClampNeg (v3 + 3)))] [] sh0 rfl rfl rfl rfl (Nat.le_of_ble_eq_true rfl) (fun r33 σ34 => ?_)
                    refine sw_aloadn (pc := 449) 2 2 C dL_law_449 rfl ?_
                    refine sw_aloadn (pc := 450) 0 0 C dL_law_450 rfl ?_
                    refine sw_iloadn (pc := 451) 3 3 C dL_law_451 rfl ?_
                    refine sw_iconst (pc := 452) (v := 1) C dL_law_452 (by decide) ?_
                    refine sw_iadd (pc := 453) C dL_law_453 ?_
                    refine sw_sld (pc := 454) C M dL_law_454 ?_
                    refine sw_aloadn (pc := 455) 0 0 C dL_law_455 rfl ?_
                    refine sw_iloadn (pc := 456) 3 3 C dL_law_456 rfl ?_
                    refine sw_iconst (pc := 457) (v := 2) C dL_law_457 (by decide) ?_
                    refine sw_iadd (pc := 458) C dL_law_458 ?_
                    refine sw_sld (pc := 459) C M dL_law_459 ?_
                    refine sw_aloadn (pc := 460) 0 0 C dL_law_460 rfl ?_
                    refine sw_iloadn (pc := 461) 3 3 C dL_law_461 rfl ?_
                    refine sw_iconst (pc := 462) (v := 3) C dL_law_462 (by decide) ?_
                    refine sw_iadd (pc := 463) C dL_law_463 ?_
                    refine sw_sld (pc := 464) C M dL_law_464 ?_
                    refine sw_callVi (pc := 465) C (mX10_hand (xs (Int32.toNatClampNeg (v3 + 1))) (xs (Int32.toNatClampNeg (v3 + 2))) (xs (Int32.toNatClampNeg (v3 + 3)))) sgX10_hand mlL_44 dL_law_465 (by decide) [.int (xs (Int32.toNatClampNeg (v3 + 1))), .int (xs (Int32.toNatClampNeg (v3 + 2))), .int (xs (Int32.toNatClampNeg (v3 + 3)))] [.int r33] sh37 rfl rfl rfl rfl (Nat.le_of_ble_eq_true rfl) (fun r35 σ36 => ?_)
                    refine sw_icmp_eq (pc := 468) 1323 C dL_law_468 (by decide) ?_ ?_
                    · exact jL_law_B1323 C hn M ih _ _
                    · refine sw_iconst (pc := 471) (v := 0) C dL_law_471 (by decide) ?_
                      exact sw_none
                  · skip
                    refine sw_ite (fun h37 => ?_) (fun h37 => ?_)
                    · refine sw_tabIn (pc := 33) (off := 440) 473 C dL_law_33 (by rw [h37]; decide) (by rw [h37]; decide) (by rw [h37]; rfl) (by decide) ?_
                      refine sw_aloadn (pc := 473) 1 1 C dL_law_473 rfl ?_
                      refine sw_aloadn (pc := 474) 0 0 C dL_law_474 rfl ?_
                      refine sw_iloadn (pc := 475) 3 3 C dL_law_475 rfl ?_
                      refine sw_iconst (pc := 476) (v := 1) C dL_law_476 (by decide) ?_
                      refine sw_iadd (pc := 477) C dL_law_477 ?_
                      refine sw_sld (pc := 478) C M dL_law_478 ?_
                      refine sw_callVi (pc := 479) C (mX9_ofHand (xs (Int32.toNatClampNeg (v3 + 1)))) sgX9_ofHand mlL_45 dL_law_479 (by decide) [.int (xs (Int32.toNatClampNeg (v3 + 1)))] [] sh0 rfl rfl rfl rfl (Nat.le_of_ble_eq_true rfl) (fun r38 σ39 => ?_)
                      refine sw_aloadn (pc := 482) 2 2 C dL_law_482 rfl ?_
                      refine sw_aloadn (pc := 483) 0 0 C dL_law_483 rfl ?_
                      refine sw_iloadn (pc := 484) 3 3 C dL_law_484 rfl ?_
                      refine sw_iconst (pc := 485) (v := 1) C dL_law_485 (by decide) ?_
                      refine sw_iadd (pc := 486) C dL_law_486 ?_
                      refine sw_sld (pc := 487) C M dL_law_487 ?_
                      refine sw_callVi (pc := 488) C (mX10_ofHand (xs (Int32.toNatClampNeg (v3 + 1)))) sgX10_ofHand mlL_48 dL_law_488 (by decide) [.int (xs (Int32.toNatClampNeg (v3 + 1)))] [.int r38] sh37 rfl rfl rfl rfl (Nat.le_of_ble_eq_true rfl) (fun r40 σ41 => ?_)
                      refine sw_icmp_eq (pc := 491) 1323 C dL_law_491 (by decide) ?_ ?_
                      · exact jL_law_B1323 C hn M ih _ _
                      · refine sw_iconst (pc := 494) (v := 0) C dL_law_494 (by decide) ?_
                        exact sw_none
                    · skip
                      refine sw_ite (fun h42 => ?_) (fun h42 => ?_)
                      · refine sw_tabIn (pc := 33) (off := 463) 496 C dL_law_33 (by rw [h42]; decide) (by rw [h42]; decide) (by rw [h42]; rfl) (by decide) ?_
                        refine sw_aloadn (pc := 496) 1 1 C dL_law_496 rfl ?_
                        refine sw_aloadn (pc := 497) 0 0 C dL_law_497 rfl ?_
                        refine sw_iloadn (pc := 498) 3 3 C dL_law_498 rfl ?_
                        refine sw_iconst (pc := 499) (v := 1) C dL_law_499 (by decide) ?_
                        refine sw_iadd (pc := 500) C dL_law_500 ?_
                        refine sw_sld (pc := 501) C M dL_law_501 ?_
                        refine sw_callVi (pc := 502) C (mX9_fence (xs (Int32.toNatClampNeg (v3 + 1)))) sgX9_fence mlL_49 dL_law_502 (by decide) [.int (xs (Int32.toNatClampNeg (v3 + 1)))] [] sh0 rfl rfl rfl rfl (Nat.le_of_ble_eq_true rfl) (fun r43 σ44 => ?_)
                        refine sw_aloadn (pc := 505) 2 2 C dL_law_505 rfl ?_
                        refine sw_aloadn (pc := 506) 0 0 C dL_law_506 rfl ?_
                        refine sw_iloadn (pc := 507) 3 3 C dL_law_507 rfl ?_
                        refine sw_iconst (pc := 508) (v := 1) C dL_law_508 (by decide) ?_
                        refine sw_iadd (pc := 509) C dL_law_509 ?_
                        refine sw_sld (pc := 510) C M dL_law_510 ?_
                        refine sw_callVi (pc := 511) C (mX10_fence (xs (Int32.toNatClampNeg (v3 + 1)))) sgX10_fence mlL_52 dL_law_511 (by decide) [.int (xs (Int32.toNatClampNeg (v3 + 1)))] [.int r43] sh37 rfl rfl rfl rfl (Nat.le_of_ble_eq_true rfl) (fun r45 σ46 => ?_)
                        refine sw_icmp_eq (pc := 514) 1323 C dL_law_514 (by decide) ?_ ?_
                        · exact jL_law_B1323 C hn M ih _ _
                        · refine sw_iconst (pc := 517) (v := 0) C dL_law_517 (by decide) ?_
                          exact sw_none
                      · skip
                        refine sw_ite (fun h47 => ?_) (fun h47 => ?_)
                        · refine sw_tabIn (pc := 33) (off := 486) 519 C dL_law_33 (by rw [h47]; decide) (by rw [h47]; decide) (by rw [h47]; rfl) (by decide) ?_
                          refine sw_aloadn (pc := 519) 1 1 C dL_law_519 rfl ?_
                          refine sw_aloadn (pc := 520) 0 0 C dL_law_520 rfl ?_
                          refine sw_iloadn (pc := 521) 3 3 C dL_law_521 rfl ?_
                          refine sw_iconst (pc := 522) (v := 1) C dL_law_522 (by decide) ?_
                          refine sw_iadd (pc := 523) C dL_law_523 ?_
                          refine sw_sld (pc := 524) C M dL_law_524 ?_
                          refine sw_callVl (pc := 525) C (mX9_where (xs (Int32.toNatClampNeg (v3 + 1)))) sgX9_where mlL_53 dL_law_525 (by decide) [.int (xs (Int32.toNatClampNeg (v3 + 1)))] [] sh0 rfl rfl rfl rfl (Nat.le_of_ble_eq_true rfl) (fun r48 σ49 => ?_)
                          refine sw_aloadn (pc := 528) 2 2 C dL_law_528 rfl ?_
                          refine sw_aloadn (pc := 529) 0 0 C dL_law_529 rfl ?_
                          refine sw_iloadn (pc := 530) 3 3 C dL_law_530 rfl ?_
                          refine sw_iconst (pc := 531) (v := 1) C dL_law_531 (by decide) ?_
                          refine sw_iadd (pc := 532) C dL_law_532 ?_
                          refine sw_sld (pc := 533) C M dL_law_533 ?_
                          refine sw_callVl (pc := 534) C (mX10_where (xs (Int32.toNatClampNeg (v3 + 1)))) sgX10_where mlL_57 dL_law_534 (by decide) [.int (xs (Int32.toNatClampNeg (v3 + 1)))] [.long r48] sh37 rfl rfl rfl rfl (Nat.le_of_ble_eq_true rfl) (fun r50 σ51 => ?_)
                          refine sw_lcmp (pc := 537) C dL_law_537 ?_
                          refine sw_if_eq (pc := 538) 1323 C dL_law_538 (by decide) ?_ ?_
                          · exact jL_law_B1323 C hn M ih _ _
                          · refine sw_iconst (pc := 541) (v := 0) C dL_law_541 (by decide) ?_
                            exact sw_none
                        · skip
                          refine sw_ite (fun h52 => ?_) (fun h52 => ?_)
                          · refine sw_tabIn (pc := 33) (off := 510) 543 C dL_law_33 (by rw [h52]; decide) (by rw [h52]; decide) (by rw [h52]; rfl) (by decide) ?_
                            refine sw_aloadn (pc := 543) 1 1 C dL_law_543 rfl ?_
                            refine sw_aloadn (pc := 544) 0 0 C dL_law_544 rfl ?_
                            refine sw_iloadn (pc := 545) 3 3 C dL_law_545 rfl ?_
                            refine sw_iconst (pc := 546) (v := 1) C dL_law_546 (by decide) ?_
                            refine sw_iadd (pc := 547) C dL_law_547 ?_
                            refine sw_sld (pc := 548) C M dL_law_548 ?_
                            refine sw_callVl (pc := 549) C (mX9_heading (xs (Int32.toNatClampNeg (v3 + 1)))) sgX9_heading mlL_58 dL_law_549 (by decide) [.int (xs (Int32.toNatClampNeg (v3 + 1)))] [] sh0 rfl rfl rfl rfl (Nat.le_of_ble_eq_true rfl) (fun r53 σ54 => ?_)
                            refine sw_aloadn (pc := 552) 2 2 C dL_law_552 rfl ?_
                            refine sw_aloadn (pc := 553) 0 0 C dL_law_553 rfl ?_
                            refine sw_iloadn (pc := 554) 3 3 C dL_law_554 rfl ?_
                            refine sw_iconst (pc := 555) (v := 1) C dL_law_555 (by decide) ?_
                            refine sw_iadd (pc := 556) C dL_law_556 ?_
                            refine sw_sld (pc := 557) C M dL_law_557 ?_
                            refine sw_callVl (pc := 558) C (mX10_heading (xs (Int32.toNatClampNeg (v3 + 1)))) sgX10_heading mlL_61 dL_law_558 (by decide) [.int (xs (Int32.toNatClampNeg (v3 + 1)))] [.long r53] sh37 rfl rfl rfl rfl (Nat.le_of_ble_eq_true rfl) (fun r55 σ56 => ?_)
                            refine sw_lcmp (pc := 561) C dL_law_561 ?_
                            refine sw_if_eq (pc := 562) 1323 C dL_law_562 (by decide) ?_ ?_
                            · exact jL_law_B1323 C hn M ih _ _
                            · refine sw_iconst (pc := 565) (v := 0) C dL_law_565 (by decide) ?_
                              exact sw_none
                          · skip
                            refine sw_ite (fun h57 => ?_) (fun h57 => ?_)
                            · refine sw_tabIn (pc := 33) (off := 534) 567 C dL_law_33 (by rw [h57]; decide) (by rw [h57]; decide) (by rw [h57]; rfl) (by decide) ?_
                              refine sw_aloadn (pc := 567) 1 1 C dL_law_567 rfl ?_
                              refine sw_callVi (pc := 568) C mX9_off sgX9_off mlL_62 dL_law_568 (by decide) [] [] sh0 rfl rfl rfl rfl (Nat.le_of_ble_eq_true rfl) (fun r58 σ59 => ?_)
                              refine sw_aloadn (pc := 571) 2 2 C dL_law_571 rfl ?_
                              refine sw_callVi (pc := 572) C mX10_off sgX10_off mlL_66 dL_law_572 (by decide) [] [.int r58] sh37 rfl rfl rfl rfl (Nat.le_of_ble_eq_true rfl) (fun r60 σ61 => ?_)
                              refine sw_icmp_eq (pc := 575) 1323 C dL_law_575 (by decide) ?_ ?_
                              · exact jL_law_B1323 C hn M ih _ _
                              · refine sw_iconst (pc := 578) (v := 0) C dL_law_578 (by decide) ?_
                                exact sw_none
                            · skip
                              refine sw_ite (fun h62 => ?_) (fun h62 => ?_)
                              · refine sw_tabIn (pc := 33) (off := 547) 580 C dL_law_33 (by rw [h62]; decide) (by rw [h62]; decide) (by rw [h62]; rfl) (by decide) ?_
                                refine sw_aloadn (pc := 580) 1 1 C dL_law_580 rfl ?_
                                refine sw_callVi (pc := 581) C mX9_pinched sgX9_pinched mlL_67 dL_law_581 (by decide) [] [] sh0 rfl rfl rfl rfl (Nat.le_of_ble_eq_true rfl) (fun r63 σ64 => ?_)
                                refine sw_aloadn (pc := 584) 2 2 C dL_law_584 rfl ?_
                                refine sw_callVi (pc := 585) C mX10_pinched sgX10_pinched mlL_70 dL_law_585 (by decide) [] [.int r63] sh37 rfl rfl rfl rfl (Nat.le_of_ble_eq_true rfl) (fun r65 σ66 => ?_)
                                refine sw_icmp_eq (pc := 588) 1323 C dL_law_588 (by decide) ?_ ?_
                                · exact jL_law_B1323 C hn M ih _ _
                                · refine sw_iconst (pc := 591) (v := 0) C dL_law_591 (by decide) ?_
                                  exact sw_none
                              · skip
                                refine sw_ite (fun h67 => ?_) (fun h67 => ?_)
                                · refine sw_tabIn (pc := 33) (off := 560) 593 C dL_law_33 (by rw [h67]; decide) (by rw [h67]; decide) (by rw [h67]; rfl) (by decide) ?_
                                  refine sw_aloadn (pc := 593) 1 1 C dL_law_593 rfl ?_
                                  refine sw_aloadn (pc := 594) 0 0 C dL_law_594 rfl ?_
                                  refine sw_iloadn (pc := 595) 3 3 C dL_law_595 rfl ?_
                                  refine sw_iconst (pc := 596) (v := 1) C dL_law_596 (by decide) ?_
                                  refine sw_iadd (pc := 597) C dL_law_597 ?_
                                  refine sw_sld (pc := 598) C M dL_law_598 ?_
                                  refine sw_callVi (pc := 599) C (mX9_marks (xs (Int32.toNatClampNeg (v3 + 1)))) sgX9_marks mlL_71 dL_law_599 (by decide) [.int (xs (Int32.toNatClampNeg (v3 + 1)))] [] sh0 rfl rfl rfl rfl (Nat.le_of_ble_eq_true rfl) (fun r68 σ69 => ?_)
                                  refine sw_aloadn (pc := 602) 2 2 C dL_law_602 rfl ?_
                                  refine sw_aloadn (pc := 603) 0 0 C dL_law_603 rfl ?_
                                  refine sw_iloadn (pc := 604) 3 3 C dL_law_604 rfl ?_
                                  refine sw_iconst (pc := 605) (v := 1) C dL_law_605 (by decide) ?_
                                  refine sw_iadd (pc := 606) C dL_law_606 ?_
                                  refine sw_sld (pc := 607) C M dL_law_607 ?_
                                  refine sw_callVi (pc := 608) C (mX10_marks (xs (Int32.toNatClampNeg (v3 + 1)))) sgX10_marks mlL_74 dL_law_608 (by decide) [.int (xs (Int32.toNatClampNeg (v3 + 1)))] [.int r68] sh37 rfl rfl rfl rfl (Nat.le_of_ble_eq_true rfl) (fun r70 σ71 => ?_)
                                  refine sw_icmp_eq (pc := 611) 1323 C dL_law_611 (by decide) ?_ ?_
                                  · exact jL_law_B1323 C hn M ih _ _
                                  · refine sw_iconst (pc := 614) (v := 0) C dL_law_614 (by decide) ?_
                                    exact sw_none
                                · skip
                                  refine sw_ite (fun h72 => ?_) (fun h72 => ?_)
                                  · refine sw_tabIn (pc := 33) (off := 583) 616 C dL_law_33 (by rw [h72]; decide) (by rw [h72]; decide) (by rw [h72]; rfl) (by decide) ?_
                                    refine sw_aloadn (pc := 616) 1 1 C dL_law_616 rfl ?_
                                    refine sw_aloadn (pc := 617) 0 0 C dL_law_617 rfl ?_
                                    refine sw_iloadn (pc := 618) 3 3 C dL_law_618 rfl ?_
                                    refine sw_iconst (pc := 619) (v := 1) C dL_law_619 (by decide) ?_
                                    refine sw_iadd (pc := 620) C dL_law_620 ?_
                                    refine sw_sld (pc := 621) C M dL_law_621 ?_
                                    refine sw_aloadn (pc := 622) 0 0 C dL_law_622 rfl ?_
                                    refine sw_iloadn (pc := 623) 3 3 C dL_law_623 rfl ?_
                                    refine sw_iconst (pc := 624) (v := 2) C dL_law_624 (by decide) ?_
                                    refine sw_iadd (pc := 625) C dL_law_625 ?_
                                    refine sw_sld (pc := 626) C M dL_law_626 ?_
                                    refine sw_callVi (pc := 627) C (mX9_which (xs (Int32.toNatClampNeg (v3 + 1))) (xs (Int32.toNatClampNeg (v3 + 2)))) sgX9_which mlL_75 dL_law_627 (by decide) [.int (xs (Int32.toNatClampNeg (v3 + 1))), .int (xs (Int32.toNatClampNeg (v3 + 2)))] [] sh0 rfl rfl rfl rfl (Nat.le_of_ble_eq_true rfl) (fun r73 σ74 => ?_)
                                    refine sw_aloadn (pc := 630) 2 2 C dL_law_630 rfl ?_
                                    refine sw_aloadn (pc := 631) 0 0 C dL_law_631 rfl ?_
                                    refine sw_iloadn (pc := 632) 3 3 C dL_law_632 rfl ?_
                                    refine sw_iconst (pc := 633) (v := 1) C dL_law_633 (by decide) ?_
                                    refine sw_iadd (pc := 634) C dL_law_634 ?_
                                    refine sw_sld (pc := 635) C M dL_law_635 ?_
                                    refine sw_aloadn (pc := 636) 0 0 C dL_law_636 rfl ?_
                                    refine sw_iloadn (pc := 637) 3 3 C dL_law_637 rfl ?_
                                    refine sw_iconst (pc := 638) (v := 2) C dL_law_638 (by decide) ?_
                                    refine sw_iadd (pc := 639) C dL_law_639 ?_
                                    refine sw_sld (pc := 640) C M dL_law_640 ?_
                                    refine sw_callVi (pc := 641) C (mX10_which (xs (Int32.toNatClampNeg (v3 + 1))) (xs (Int32.toNatClampNeg (v3 + 2)))) sgX10_which mlL_78 dL_law_641 (by decide) [.int (xs (Int32.toNatClampNeg (v3 + 1))), .int (xs (Int32.toNatClampNeg (v3 + 2)))] [.int r73] sh37 rfl rfl rfl rfl (Nat.le_of_ble_eq_true rfl) (fun r75 σ76 => ?_)
                                    refine sw_icmp_eq (pc := 644) 1323 C dL_law_644 (by decide) ?_ ?_
                                    · exact jL_law_B1323 C hn M ih _ _
                                    · refine sw_iconst (pc := 647) (v := 0) C dL_law_647 (by decide) ?_
                                      exact sw_none
                                  · skip
                                    refine sw_ite (fun h77 => ?_) (fun h77 => ?_)
                                    · refine sw_tabIn (pc := 33) (off := 616) 649 C dL_law_33 (by rw [h77]; decide) (by rw [h77]; decide) (by rw [h77]; rfl) (by decide) ?_
                                      refine sw_aloadn (pc := 649) 1 1 C dL_law_649 rfl ?_
                                      refine sw_aloadn (pc := 650) 0 0 C dL_law_650 rfl ?_
                                      refine sw_iloadn (pc := 651) 3 3 C dL_law_651 rfl ?_
                                      refine sw_iconst (pc := 652) (v := 1) C dL_law_652 (by decide) ?_
                                      refine sw_iadd (pc := 653) C dL_law_653 ?_
                                      refine sw_sld (pc := 654) C M dL_law_654 ?_
                                      refine sw_callVi (pc := 655) C (mX9_straightest (xs (Int32.toNatClampNeg (v3 + 1)))) sgX9_straightest mlL_79 dL_law_655 (by decide) [.int (xs (Int32.toNatClampNeg (v3 + 1)))] [] sh0 rfl rfl rfl rfl (Nat.le_of_ble_eq_true rfl) (fun r78 σ79 => ?_)
                                      refine sw_aloadn (pc := 658) 2 2 C dL_law_658 rfl ?_
                                      refine sw_aloadn (pc := 659) 0 0 C dL_law_659 rfl ?_
                                      refine sw_iloadn (pc := 660) 3 3 C dL_law_660 rfl ?_
                                      refine sw_iconst (pc := 661) (v := 1) C dL_law_661 (by decide) ?_
                                      refine sw_iadd (pc := 662) C dL_law_662 ?_
                                      refine sw_sld (pc := 663) C M dL_law_663 ?_
                                      refine sw_callVi (pc := 664) C (mX10_straightest (xs (Int32.toNatClampNeg (v3 + 1)))) sgX10_straightest mlL_82 dL_law_664 (by decide) [.int (xs (Int32.toNatClampNeg (v3 + 1)))] [.int r78] sh37 rfl rfl rfl rfl (Nat.le_of_ble_eq_true rfl) (fun r80 σ81 => ?_)
                                      refine sw_icmp_eq (pc := 667) 1323 C dL_law_667 (by decide) ?_ ?_
                                      · exact jL_law_B1323 C hn M ih _ _
                                      · refine sw_iconst (pc := 670) (v := 0) C dL_law_670 (by decide) ?_
                                        exact sw_none
                                    · skip
                                      refine sw_ite (fun h82 => ?_) (fun h82 => ?_)
                                      · refine sw_tabIn (pc := 33) (off := 639) 672 C dL_law_33 (by rw [h82]; decide) (by rw [h82]; decide) (by rw [h82]; rfl) (by decide) ?_
                                        refine sw_aloadn (pc := 672) 1 1 C dL_law_672 rfl ?_
                                        refine sw_aloadn (pc := 673) 0 0 C dL_law_673 rfl ?_
                                        refine sw_iloadn (pc := 674) 3 3 C dL_law_674 rfl ?_
                                        refine sw_iconst (pc := 675) (v := 1) C dL_law_675 (by decide) ?_
                                        refine sw_iadd (pc := 676) C dL_law_676 ?_
                                        refine sw_sld (pc := 677) C M dL_law_677 ?_
                                        refine sw_aloadn (pc := 678) 0 0 C dL_law_678 rfl ?_
                                        refine sw_iloadn (pc := 679) 3 3 C dL_law_679 rfl ?_
                                        refine sw_iconst (pc := 680) (v := 2) C dL_law_680 (by decide) ?_
                                        refine sw_iadd (pc := 681) C dL_law_681 ?_
                                        refine sw_sld (pc := 682) C M dL_law_682 ?_
                                        refine sw_aloadn (pc := 683) 0 0 C dL_law_683 rfl ?_
                                        refine sw_iloadn (pc := 684) 3 3 C dL_law_684 rfl ?_
                                        refine sw_iconst (pc := 685) (v := 3) C dL_law_685 (by decide) ?_
                                        refine sw_iadd (pc := 686) C dL_law_686 ?_
                                        refine sw_sld (pc := 687) C M dL_law_687 ?_
                                        refine sw_callVi (pc := 688) C (mX9_flaw (xs (Int32.toNatClampNeg (v3 + 1))) (xs (Int32.toNatClampNeg (v3 + 2))) (xs (Int32.toNatClampNeg (v3 + 3)))) sgX9_flaw mlL_83 dL_law_688 (by decide) [.int (xs (Int32.toNatClampNeg (v3 + 1))), .int (xs (Int32.toNatClampNeg (v3 + 2))), .int (xs (Int32.toNatClampNeg (v3 + 3)))] [] sh0 rfl rfl rfl rfl (Nat.le_of_ble_eq_true rfl) (fun r83 σ84 => ?_)
                                        refine sw_aloadn (pc := 691) 2 2 C dL_law_691 rfl ?_
                                        refine sw_aloadn (pc := 692) 0 0 C dL_law_692 rfl ?_
                                        refine sw_iloadn (pc := 693) 3 3 C dL_law_693 rfl ?_
                                        refine sw_iconst (pc := 694) (v := 1) C dL_law_694 (by decide) ?_
                                        refine sw_iadd (pc := 695) C dL_law_695 ?_
                                        refine sw_sld (pc := 696) C M dL_law_696 ?_
                                        refine sw_aloadn (pc := 697) 0 0 C dL_law_697 rfl ?_
                                        refine sw_iloadn (pc := 698) 3 3 C dL_law_698 rfl ?_
                                        refine sw_iconst (pc := 699) (v := 2) C dL_law_699 (by decide) ?_
                                        refine sw_iadd (pc := 700) C dL_law_700 ?_
                                        refine sw_sld (pc := 701) C M dL_law_701 ?_
                                        refine sw_aloadn (pc := 702) 0 0 C dL_law_702 rfl ?_
                                        refine sw_iloadn (pc := 703) 3 3 C dL_law_703 rfl ?_
                                        refine sw_iconst (pc := 704) (v := 3) C dL_law_704 (by decide) ?_
                                        refine sw_iadd (pc := 705) C dL_law_705 ?_
                                        refine sw_sld (pc := 706) C M dL_law_706 ?_
                                        refine sw_callVi (pc := 707) C (mX10_flaw (xs (Int32.toNatClampNeg (v3 + 1))) (xs (Int32.toNatClampNeg (v3 + 2))) (xs (Int32.toNatClampNeg (v3 + 3)))) sgX10_flaw mlL_86 dL_law_707 (by decide) [.int (xs (Int32.toNatClampNeg (v3 + 1))), .int (xs (Int32.toNatClampNeg (v3 + 2))), .int (xs (Int32.toNatClampNeg (v3 + 3)))] [.int r83] sh37 rfl rfl rfl rfl (Nat.le_of_ble_eq_true rfl) (fun r85 σ86 => ?_)
                                        refine sw_icmp_eq (pc := 710) 1323 C dL_law_710 (by decide) ?_ ?_
                                        · exact jL_law_B1323 C hn M ih _ _
                                        · refine sw_iconst (pc := 713) (v := 0) C dL_law_713 (by decide) ?_
                                          exact sw_none
                                      · skip
                                        refine sw_ite (fun h87 => ?_) (fun h87 => ?_)
                                        · refine sw_tabIn (pc := 33) (off := 682) 715 C dL_law_33 (by rw [h87]; decide) (by rw [h87]; decide) (by rw [h87]; rfl) (by decide) ?_
                                          refine sw_aloadn (pc := 715) 1 1 C dL_law_715 rfl ?_
                                          refine sw_aloadn (pc := 716) 0 0 C dL_law_716 rfl ?_
                                          refine sw_iloadn (pc := 717) 3 3 C dL_law_717 rfl ?_
                                          refine sw_iconst (pc := 718) (v := 1) C dL_law_718 (by decide) ?_
                                          refine sw_iadd (pc := 719) C dL_law_719 ?_
                                          refine sw_sld (pc := 720) C M dL_law_720 ?_
                                          refine sw_aloadn (pc := 721) 0 0 C dL_law_721 rfl ?_
                                          refine sw_iloadn (pc := 722) 3 3 C dL_law_722 rfl ?_
                                          refine sw_iconst (pc := 723) (v := 2) C dL_law_723 (by decide) ?_
                                          refine sw_iadd (pc := 724) C dL_law_724 ?_
                                          refine sw_sld (pc := 725) C M dL_law_725 ?_
                                          refine sw_callVi (pc := 726) C (mX9_ofFlaw (xs (Int32.toNatClampNeg (v3 + 1))) (xs (Int32.toNatClampNeg (v3 + 2)))) sgX9_ofFlaw mlL_87 dL_law_726 (by decide) [.int (xs (Int32.toNatClampNeg (v3 + 1))), .int (xs (Int32.toNatClampNeg (v3 + 2)))] [] sh0 rfl rfl rfl rfl (Nat.le_of_ble_eq_true rfl) (fun r88 σ89 => ?_)
                                          refine sw_aloadn (pc := 729) 2 2 C dL_law_729 rfl ?_
                                          refine sw_aloadn (pc := 730) 0 0 C dL_law_730 rfl ?_
                                          refine sw_iloadn (pc := 731) 3 3 C dL_law_731 rfl ?_
                                          refine sw_iconst (pc := 732) (v := 1) C dL_law_732 (by decide) ?_
                                          refine sw_iadd (pc := 733) C dL_law_733 ?_
                                          refine sw_sld (pc := 734) C M dL_law_734 ?_
                                          refine sw_aloadn (pc := 735) 0 0 C dL_law_735 rfl ?_
                                          refine sw_iloadn (pc := 736) 3 3 C dL_law_736 rfl ?_
                                          refine sw_iconst (pc := 737) (v := 2) C dL_law_737 (by decide) ?_
                                          refine sw_iadd (pc := 738) C dL_law_738 ?_
                                          refine sw_sld (pc := 739) C M dL_law_739 ?_
                                          refine sw_callVi (pc := 740) C (mX10_ofFlaw (xs (Int32.toNatClampNeg (v3 + 1))) (xs (Int32.toNatClampNeg (v3 + 2)))) sgX10_ofFlaw mlL_90 dL_law_740 (by decide) [.int (xs (Int32.toNatClampNeg (v3 + 1))), .int (xs (Int32.toNatClampNeg (v3 + 2)))] [.int r88] sh37 rfl rfl rfl rfl (Nat.le_of_ble_eq_true rfl) (fun r90 σ91 => ?_)
                                          refine sw_icmp_eq (pc := 743) 1323 C dL_law_743 (by decide) ?_ ?_
                                          · exact jL_law_B1323 C hn M ih _ _
                                          · refine sw_iconst (pc := 746) (v := 0) C dL_law_746 (by decide) ?_
                                            exact sw_none
                                        · skip
                                          refine sw_ite (fun h92 => ?_) (fun h92 => ?_)
                                          · refine sw_tabIn (pc := 33) (off := 715) 748 C dL_law_33 (by rw [h92]; decide) (by rw [h92]; decide) (by rw [h92]; rfl) (by decide) ?_
                                            refine sw_aloadn (pc := 748) 1 1 C dL_law_748 rfl ?_
                                            refine sw_aloadn (pc := 749) 0 0 C dL_law_749 rfl ?_
                                            refine sw_iloadn (pc := 750) 3 3 C dL_law_750 rfl ?_
                                            refine sw_iconst (pc := 751) (v := 1) C dL_law_751 (by decide) ?_
                                            refine sw_iadd (pc := 752) C dL_law_752 ?_
                                            refine sw_sld (pc := 753) C M dL_law_753 ?_
                                            refine sw_aloadn (pc := 754) 0 0 C dL_law_754 rfl ?_
                                            refine sw_iloadn (pc := 755) 3 3 C dL_law_755 rfl ?_
                                            refine sw_iconst (pc := 756) (v := 2) C dL_law_756 (by decide) ?_
                                            refine sw_iadd (pc := 757) C dL_law_757 ?_
                                            refine sw_sld (pc := 758) C M dL_law_758 ?_
                                            refine sw_callVi (pc := 759) C (mX9_reading (xs (Int32.toNatClampNeg (v3 + 1))) (xs (Int32.toNatClampNeg (v3 + 2)))) sgX9_reading mlL_91 dL_law_759 (by decide) [.int (xs (Int32.toNatClampNeg (v3 + 1))), .int (xs (Int32.toNatClampNeg (v3 + 2)))] [] sh0 rfl rfl rfl rfl (Nat.le_of_ble_eq_true rfl) (fun r93 σ94 => ?_)
                                            refine sw_aloadn (pc := 762) 2 2 C dL_law_762 rfl ?_
                                            refine sw_aloadn (pc := 763) 0 0 C dL_law_763 rfl ?_
                                            refine sw_iloadn (pc := 764) 3 3 C dL_law_764 rfl ?_
                                            refine sw_iconst (pc := 765) (v := 1) C dL_law_765 (by decide) ?_
                                            refine sw_iadd (pc := 766) C dL_law_766 ?_
                                            refine sw_sld (pc := 767) C M dL_law_767 ?_
                                            refine sw_aloadn (pc := 768) 0 0 C dL_law_768 rfl ?_
                                            refine sw_iloadn (pc := 769) 3 3 C dL_law_769 rfl ?_
                                            refine sw_iconst (pc := 770) (v := 2) C dL_law_770 (by decide) ?_
                                            refine sw_iadd (pc := 771) C dL_law_771 ?_
                                            refine sw_sld (pc := 772) C M dL_law_772 ?_
                                            refine sw_callVi (pc := 773) C (mX10_reading (xs (Int32.toNatClampNeg (v3 + 1))) (xs (Int32.toNatClampNeg (v3 + 2)))) sgX10_reading mlL_94 dL_law_773 (by decide) [.int (xs (Int32.toNatClampNeg (v3 + 1))), .int (xs (Int32.toNatClampNeg (v3 + 2)))] [.int r93] sh37 rfl rfl rfl rfl (Nat.le_of_ble_eq_true rfl) (fun r95 σ96 => ?_)
                                            refine sw_icmp_eq (pc := 776) 1323 C dL_law_776 (by decide) ?_ ?_
                                            · exact jL_law_B1323 C hn M ih _ _
                                            · refine sw_iconst (pc := 779) (v := 0) C dL_law_779 (by decide) ?_
                                              exact sw_none
                                          · skip
                                            refine sw_ite (fun h97 => ?_) (fun h97 => ?_)
                                            · refine sw_tabIn (pc := 33) (off := 748) 781 C dL_law_33 (by rw [h97]; decide) (by rw [h97]; decide) (by rw [h97]; rfl) (by decide) ?_
                                              refine sw_aloadn (pc := 781) 1 1 C dL_law_781 rfl ?_
                                              refine sw_aloadn (pc := 782) 0 0 C dL_law_782 rfl ?_
                                              refine sw_iloadn (pc := 783) 3 3 C dL_law_783 rfl ?_
                                              refine sw_iconst (pc := 784) (v := 1) C dL_law_784 (by decide) ?_
                                              refine sw_iadd (pc := 785) C dL_law_785 ?_
                                              refine sw_sld (pc := 786) C M dL_law_786 ?_
                                              refine sw_callVi (pc := 787) C (mX9_back (xs (Int32.toNatClampNeg (v3 + 1)))) sgX9_back mlL_95 dL_law_787 (by decide) [.int (xs (Int32.toNatClampNeg (v3 + 1)))] [] sh0 rfl rfl rfl rfl (Nat.le_of_ble_eq_true rfl) (fun r98 σ99 => ?_)
                                              refine sw_aloadn (pc := 790) 2 2 C dL_law_790 rfl ?_
                                              refine sw_aloadn (pc := 791) 0 0 C dL_law_791 rfl ?_
                                              refine sw_iloadn (pc := 792) 3 3 C dL_law_792 rfl ?_
                                              refine sw_iconst (pc := 793) (v := 1) C dL_law_793 (by decide) ?_
                                              refine sw_iadd (pc := 794) C dL_law_794 ?_
                                              refine sw_sld (pc := 795) C M dL_law_795 ?_
                                              refine sw_callVi (pc := 796) C (mX10_back (xs (Int32.toNatClampNeg (v3 + 1)))) sgX10_back mlL_98 dL_law_796 (by decide) [.int (xs (Int32.toNatClampNeg (v3 + 1)))] [.int r98] sh37 rfl rfl rfl rfl (Nat.le_of_ble_eq_true rfl) (fun r100 σ101 => ?_)
                                              refine sw_icmp_eq (pc := 799) 1323 C dL_law_799 (by decide) ?_ ?_
                                              · exact jL_law_B1323 C hn M ih _ _
                                              · refine sw_iconst (pc := 802) (v := 0) C dL_law_802 (by decide) ?_
                                                exact sw_none
                                            · skip
                                              refine sw_ite (fun h102 => ?_) (fun h102 => ?_)
                                              · refine sw_tabIn (pc := 33) (off := 771) 804 C dL_law_33 (by rw [h102]; decide) (by rw [h102]; decide) (by rw [h102]; rfl) (by decide) ?_
                                                refine sw_aloadn (pc := 804) 1 1 C dL_law_804 rfl ?_
                                                refine sw_aloadn (pc := 805) 0 0 C dL_law_805 rfl ?_
                                                refine sw_iloadn (pc := 806) 3 3 C dL_law_806 rfl ?_
                                                refine sw_iconst (pc := 807) (v := 1) C dL_law_807 (by decide) ?_
                                                refine sw_iadd (pc := 808) C dL_law_808 ?_
                                                refine sw_sld (pc := 809) C M dL_law_809 ?_
                                                refine sw_callVi (pc := 810) C (mX9_likely (xs (Int32.toNatClampNeg (v3 + 1)))) sgX9_likely mlL_99 dL_law_810 (by decide) [.int (xs (Int32.toNatClampNeg (v3 + 1)))] [] sh0 rfl rfl rfl rfl (Nat.le_of_ble_eq_true rfl) (fun r103 σ104 => ?_)
                                                refine sw_aloadn (pc := 813) 2 2 C dL_law_813 rfl ?_
                                                refine sw_aloadn (pc := 814) 0 0 C dL_law_814 rfl ?_
                                                refine sw_iloadn (pc := 815) 3 3 C dL_law_815 rfl ?_
                                                refine sw_iconst (pc := 816) (v := 1) C dL_law_816 (by decide) ?_
                                                refine sw_iadd (pc := 817) C dL_law_817 ?_
                                                refine sw_sld (pc := 818) C M dL_law_818 ?_
                                                refine sw_callVi (pc := 819) C (mX10_likely (xs (Int32.toNatClampNeg (v3 + 1)))) sgX10_likely mlL_102 dL_law_819 (by decide) [.int (xs (Int32.toNatClampNeg (v3 + 1)))] [.int r103] sh37 rfl rfl rfl rfl (Nat.le_of_ble_eq_true rfl) (fun r105 σ106 => ?_)
                                                refine sw_icmp_eq (pc := 822) 1323 C dL_law_822 (by decide) ?_ ?_
                                                · exact jL_law_B1323 C hn M ih _ _
                                                · refine sw_iconst (pc := 825) (v := 0) C dL_law_825 (by decide) ?_
                                                  exact sw_none
                                              · skip
                                                refine sw_ite (fun h107 => ?_) (fun h107 => ?_)
                                                · refine sw_tabIn (pc := 33) (off := 794) 827 C dL_law_33 (by rw [h107]; decide) (by rw [h107]; decide) (by rw [h107]; rfl) (by decide) ?_
                                                  refine sw_aloadn (pc := 827) 1 1 C dL_law_827 rfl ?_
                                                  refine sw_aloadn (pc := 828) 0 0 C dL_law_828 rfl ?_
                                                  refine sw_iloadn (pc := 829) 3 3 C dL_law_829 rfl ?_
                                                  refine sw_iconst (pc := 830) (v := 1) C dL_law_830 (by decide) ?_
                                                  refine sw_iadd (pc := 831) C dL_law_831 ?_
                                                  refine sw_sld (pc := 832) C M dL_law_832 ?_
                                                  refine sw_callVi (pc := 833) C (mX9_each (xs (Int32.toNatClampNeg (v3 + 1)))) sgX9_each mlL_103 dL_law_833 (by decide) [.int (xs (Int32.toNatClampNeg (v3 + 1)))] [] sh0 rfl rfl rfl rfl (Nat.le_of_ble_eq_true rfl) (fun r108 σ109 => ?_)
                                                  refine sw_aloadn (pc := 836) 2 2 C dL_law_836 rfl ?_
                                                  refine sw_aloadn (pc := 837) 0 0 C dL_law_837 rfl ?_
                                                  refine sw_iloadn (pc := 838) 3 3 C dL_law_838 rfl ?_
                                                  refine sw_iconst (pc := 839) (v := 1) C dL_law_839 (by decide) ?_
                                                  refine sw_iadd (pc := 840) C dL_law_840 ?_
                                                  refine sw_sld (pc := 841) C M dL_law_841 ?_
                                                  refine sw_callVi (pc := 842) C (mX10_each (xs (Int32.toNatClampNeg (v3 + 1)))) sgX10_each mlL_106 dL_law_842 (by decide) [.int (xs (Int32.toNatClampNeg (v3 + 1)))] [.int r108] sh37 rfl rfl rfl rfl (Nat.le_of_ble_eq_true rfl) (fun r110 σ111 => ?_)
                                                  refine sw_icmp_eq (pc := 845) 1323 C dL_law_845 (by decide) ?_ ?_
                                                  · exact jL_law_B1323 C hn M ih _ _
                                                  · refine sw_iconst (pc := 848) (v := 0) C dL_law_848 (by decide) ?_
                                                    exact sw_none
                                                · skip
                                                  refine sw_ite (fun h112 => ?_) (fun h112 => ?_)
                                                  · refine sw_tabIn (pc := 33) (off := 817) 850 C dL_law_33 (by rw [h112]; decide) (by rw [h112]; decide) (by rw [h112]; rfl) (by decide) ?_
                                                    refine sw_aloadn (pc := 850) 1 1 C dL_law_850 rfl ?_
                                                    refine sw_aloadn (pc := 851) 0 0 C dL_law_851 rfl ?_
                                                    refine sw_iloadn (pc := 852) 3 3 C dL_law_852 rfl ?_
                                                    refine sw_iconst (pc := 853) (v := 1) C dL_law_853 (by decide) ?_
                                                    refine sw_iadd (pc := 854) C dL_law_854 ?_
                                                    refine sw_sld (pc := 855) C M dL_law_855 ?_
                                                    refine sw_aloadn (pc := 856) 0 0 C dL_law_856 rfl ?_
                                                    refine sw_iloadn (pc := 857) 3 3 C dL_law_857 rfl ?_
                                                    refine sw_iconst (pc := 858) (v := 2) C dL_law_858 (by decide) ?_
                                                    refine sw_iadd (pc := 859) C dL_law_859 ?_
                                                    refine sw_sld (pc := 860) C M dL_law_860 ?_
                                                    refine sw_callVi (pc := 861) C (mX9_act (xs (Int32.toNatClampNeg (v3 + 1))) (xs (Int32.toNatClampNeg (v3 + 2)))) sgX9_act mlL_107 dL_law_861 (by decide) [.int (xs (Int32.toNatClampNeg (v3 + 1))), .int (xs (Int32.toNatClampNeg (v3 + 2)))] [] sh0 rfl rfl rfl rfl (Nat.le_of_ble_eq_true rfl) (fun r113 σ114 => ?_)
                                                    refine sw_aloadn (pc := 864) 2 2 C dL_law_864 rfl ?_
                                                    refine sw_aloadn (pc := 865) 0 0 C dL_law_865 rfl ?_
                                                    refine sw_iloadn (pc := 866) 3 3 C dL_law_866 rfl ?_
                                                    refine sw_iconst (pc := 867) (v := 1) C dL_law_867 (by decide) ?_
                                                    refine sw_iadd (pc := 868) C dL_law_868 ?_
                                                    refine sw_sld (pc := 869) C M dL_law_869 ?_
                                                    refine sw_aloadn (pc := 870) 0 0 C dL_law_870 rfl ?_
                                                    refine sw_iloadn (pc := 871) 3 3 C dL_law_871 rfl ?_
                                                    refine sw_iconst (pc := 872) (v := 2) C dL_law_872 (by decide) ?_
                                                    refine sw_iadd (pc := 873) C dL_law_873 ?_
                                                    refine sw_sld (pc := 874) C M dL_law_874 ?_
                                                    refine sw_callVi (pc := 875) C (mX10_act (xs (Int32.toNatClampNeg (v3 + 1))) (xs (Int32.toNatClampNeg (v3 + 2)))) sgX10_act mlL_110 dL_law_875 (by decide) [.int (xs (Int32.toNatClampNeg (v3 + 1))), .int (xs (Int32.toNatClampNeg (v3 + 2)))] [.int r113] sh37 rfl rfl rfl rfl (Nat.le_of_ble_eq_true rfl) (fun r115 σ116 => ?_)
                                                    refine sw_icmp_eq (pc := 878) 1323 C dL_law_878 (by decide) ?_ ?_
                                                    · exact jL_law_B1323 C hn M ih _ _
                                                    · refine sw_iconst (pc := 881) (v := 0) C dL_law_881 (by decide) ?_
                                                      exact sw_none
                                                  · skip
                                                    refine sw_ite (fun h117 => ?_) (fun h117 => ?_)
                                                    · refine sw_tabIn (pc := 33) (off := 850) 883 C dL_law_33 (by rw [h117]; decide) (by rw [h117]; decide) (by rw [h117]; rfl) (by decide) ?_
                                                      refine sw_aloadn (pc := 883) 1 1 C dL_law_883 rfl ?_
                                                      refine sw_aloadn (pc := 884) 0 0 C dL_law_884 rfl ?_
                                                      refine sw_iloadn (pc := 885) 3 3 C dL_law_885 rfl ?_
                                                      refine sw_iconst (pc := 886) (v := 1) C dL_law_886 (by decide) ?_
                                                      refine sw_iadd (pc := 887) C dL_law_887 ?_
                                                      refine sw_sld (pc := 888) C M dL_law_888 ?_
                                                      refine sw_aloadn (pc := 889) 0 0 C dL_law_889 rfl ?_
                                                      refine sw_iloadn (pc := 890) 3 3 C dL_law_890 rfl ?_
                                                      refine sw_iconst (pc := 891) (v := 2) C dL_law_891 (by decide) ?_
                                                      refine sw_iadd (pc := 892) C dL_law_892 ?_
                                                      refine sw_sld (pc := 893) C M dL_law_893 ?_
                                                      refine sw_callVi (pc := 894) C (mX9_mend (xs (Int32.toNatClampNeg (v3 + 1))) (xs (Int32.toNatClampNeg (v3 + 2)))) sgX9_mend mlL_111 dL_law_894 (by decide) [.int (xs (Int32.toNatClampNeg (v3 + 1))), .int (xs (Int32.toNatClampNeg (v3 + 2)))] [] sh0 rfl rfl rfl rfl (Nat.le_of_ble_eq_true rfl) (fun r118 σ119 => ?_)
                                                      refine sw_aloadn (pc := 897) 2 2 C dL_law_897 rfl ?_
                                                      refine sw_aloadn (pc := 898) 0 0 C dL_law_898 rfl ?_
                                                      refine sw_iloadn (pc := 899) 3 3 C dL_law_899 rfl ?_
                                                      refine sw_iconst (pc := 900) (v := 1) C dL_law_900 (by decide) ?_
                                                      refine sw_iadd (pc := 901) C dL_law_901 ?_
                                                      refine sw_sld (pc := 902) C M dL_law_902 ?_
                                                      refine sw_aloadn (pc := 903) 0 0 C dL_law_903 rfl ?_
                                                      refine sw_iloadn (pc := 904) 3 3 C dL_law_904 rfl ?_
                                                      refine sw_iconst (pc := 905) (v := 2) C dL_law_905 (by decide) ?_
                                                      refine sw_iadd (pc := 906) C dL_law_906 ?_
                                                      refine sw_sld (pc := 907) C M dL_law_907 ?_
                                                      refine sw_callVi (pc := 908) C (mX10_mend (xs (Int32.toNatClampNeg (v3 + 1))) (xs (Int32.toNatClampNeg (v3 + 2)))) sgX10_mend mlL_114 dL_law_908 (by decide) [.int (xs (Int32.toNatClampNeg (v3 + 1))), .int (xs (Int32.toNatClampNeg (v3 + 2)))] [.int r118] sh37 rfl rfl rfl rfl (Nat.le_of_ble_eq_true rfl) (fun r120 σ121 => ?_)
                                                      refine sw_icmp_eq (pc := 911) 1323 C dL_law_911 (by decide) ?_ ?_
                                                      · exact jL_law_B1323 C hn M ih _ _
                                                      · refine sw_iconst (pc := 914) (v := 0) C dL_law_914 (by decide) ?_
                                                        exact sw_none
                                                    · skip
                                                      refine sw_ite (fun h122 => ?_) (fun h122 => ?_)
                                                      · refine sw_tabIn (pc := 33) (off := 883) 916 C dL_law_33 (by rw [h122]; decide) (by rw [h122]; decide) (by rw [h122]; rfl) (by decide) ?_
                                                        refine sw_aloadn (pc := 916) 1 1 C dL_law_916 rfl ?_
                                                        refine sw_aloadn (pc := 917) 0 0 C dL_law_917 rfl ?_
                                                        refine sw_iloadn (pc := 918) 3 3 C dL_law_918 rfl ?_
                                                        refine sw_iconst (pc := 919) (v := 1) C dL_law_919 (by decide) ?_
                                                        refine sw_iadd (pc := 920) C dL_law_920 ?_
                                                        refine sw_sld (pc := 921) C M dL_law_921 ?_
                                                        refine sw_aloadn (pc := 922) 0 0 C dL_law_922 rfl ?_
                                                        refine sw_iloadn (pc := 923) 3 3 C dL_law_923 rfl ?_
                                                        refine sw_iconst (pc := 924) (v := 2) C dL_law_924 (by decide) ?_
                                                        refine sw_iadd (pc := 925) C dL_law_925 ?_
                                                        refine sw_sld (pc := 926) C M dL_law_926 ?_
                                                        refine sw_aloadn (pc := 927) 0 0 C dL_law_927 rfl ?_
                                                        refine sw_iloadn (pc := 928) 3 3 C dL_law_928 rfl ?_
                                                        refine sw_iconst (pc := 929) (v := 3) C dL_law_929 (by decide) ?_
                                                        refine sw_iadd (pc := 930) C dL_law_930 ?_
                                                        refine sw_sld (pc := 931) C M dL_law_931 ?_
                                                        refine sw_aloadn (pc := 932) 0 0 C dL_law_932 rfl ?_
                                                        refine sw_iloadn (pc := 933) 3 3 C dL_law_933 rfl ?_
                                                        refine sw_iconst (pc := 934) (v := 4) C dL_law_934 (by decide) ?_
                                                        refine sw_iadd (pc := 935) C dL_law_935 ?_
                                                        refine sw_sld (pc := 936) C M dL_law_936 ?_
                                                        refine sw_aloadn (pc := 937) 0 0 C dL_law_937 rfl ?_
                                                        refine sw_iloadn (pc := 938) 3 3 C dL_law_938 rfl ?_
                                                        refine sw_iconst (pc := 939) (v := 5) C dL_law_939 (by decide) ?_
                                                        refine sw_iadd (pc := 940) C dL_law_940 ?_
                                                        refine sw_sld (pc := 941) C M dL_law_941 ?_
                                                        refine sw_callVi (pc := 942) C (mX9_log (xs (Int32.toNatClampNeg (v3 + 1))) (xs (Int32.toNatClampNeg (v3 + 2))) (xs (Int32.toNatClampNeg (v3 + 3))) (xs (Int32.toNatClampNeg (v3 + 4))) (xs (Int32.toNatClampNeg (v3 + 5)))) sgX9_log mlL_115 dL_law_942 (by decide) [.int (xs (Int32.toNatClampNeg (v3 + 1))), .int (xs (Int32.toNatClampNeg (v3 + 2))), .int (xs (Int32.toNatClampNeg (v3 + 3))), .int (xs (Int32.toNatClampNeg (v3 + 4))), .int (xs (Int32.toNatClampNeg (v3 + 5)))] [] sh0 rfl rfl rfl rfl (Nat.le_of_ble_eq_true rfl) (fun r123 σ124 => ?_)
                                                        refine sw_aloadn (pc := 945) 2 2 C dL_law_945 rfl ?_
                                                        refine sw_aloadn (pc := 946) 0 0 C dL_law_946 rfl ?_
                                                        refine sw_iloadn (pc := 947) 3 3 C dL_law_947 rfl ?_
                                                        refine sw_iconst (pc := 948) (v := 1) C dL_law_948 (by decide) ?_
                                                        refine sw_iadd (pc := 949) C dL_law_949 ?_
                                                        refine sw_sld (pc := 950) C M dL_law_950 ?_
                                                        refine sw_aloadn (pc := 951) 0 0 C dL_law_951 rfl ?_
                                                        refine sw_iloadn (pc := 952) 3 3 C dL_law_952 rfl ?_
                                                        refine sw_iconst (pc := 953) (v := 2) C dL_law_953 (by decide) ?_
                                                        refine sw_iadd (pc := 954) C dL_law_954 ?_
                                                        refine sw_sld (pc := 955) C M dL_law_955 ?_
                                                        refine sw_aloadn (pc := 956) 0 0 C dL_law_956 rfl ?_
                                                        refine sw_iloadn (pc := 957) 3 3 C dL_law_957 rfl ?_
                                                        refine sw_iconst (pc := 958) (v := 3) C dL_law_958 (by decide) ?_
                                                        refine sw_iadd (pc := 959) C dL_law_959 ?_
                                                        refine sw_sld (pc := 960) C M dL_law_960 ?_
                                                        refine sw_aloadn (pc := 961) 0 0 C dL_law_961 rfl ?_
                                                        refine sw_iloadn (pc := 962) 3 3 C dL_law_962 rfl ?_
                                                        refine sw_iconst (pc := 963) (v := 4) C dL_law_963 (by decide) ?_
                                                        refine sw_iadd (pc := 964) C dL_law_964 ?_
                                                        refine sw_sld (pc := 965) C M dL_law_965 ?_
                                                        refine sw_aloadn (pc := 966) 0 0 C dL_law_966 rfl ?_
                                                        refine sw_iloadn (pc := 967) 3 3 C dL_law_967 rfl ?_
                                                        refine sw_iconst (pc := 968) (v := 5) C dL_law_968 (by decide) ?_
                                                        refine sw_iadd (pc := 969) C dL_law_969 ?_
                                                        refine sw_sld (pc := 970) C M dL_law_970 ?_
                                                        refine sw_callVi (pc := 971) C (mX10_log (xs (Int32.toNatClampNeg (v3 + 1))) (xs (Int32.toNatClampNeg (v3 + 2))) (xs (Int32.toNatClampNeg (v3 + 3))) (xs (Int32.toNatClampNeg (v3 + 4))) (xs (Int32.toNatClampNeg (v3 + 5)))) sgX10_log mlL_119 dL_law_971 (by decide) [.int (xs (Int32.toNatClampNeg (v3 + 1))), .int (xs (Int32.toNatClampNeg (v3 + 2))), .int (xs (Int32.toNatClampNeg (v3 + 3))), .int (xs (Int32.toNatClampNeg (v3 + 4))), .int (xs (Int32.toNatClampNeg (v3 + 5)))] [.int r123] sh37 rfl rfl rfl rfl (Nat.le_of_ble_eq_true rfl) (fun r125 σ126 => ?_)
                                                        refine sw_icmp_eq (pc := 974) 1323 C dL_law_974 (by decide) ?_ ?_
                                                        · exact jL_law_B1323 C hn M ih _ _
                                                        · refine sw_iconst (pc := 977) (v := 0) C dL_law_977 (by decide) ?_
                                                          exact sw_none
                                                      · skip
                                                        refine sw_ite (fun h127 => ?_) (fun h127 => ?_)
                                                        · refine sw_tabIn (pc := 33) (off := 946) 979 C dL_law_33 (by rw [h127]; decide) (by rw [h127]; decide) (by rw [h127]; rfl) (by decide) ?_
                                                          refine sw_aloadn (pc := 979) 1 1 C dL_law_979 rfl ?_
                                                          refine sw_aloadn (pc := 980) 0 0 C dL_law_980 rfl ?_
                                                          refine sw_iloadn (pc := 981) 3 3 C dL_law_981 rfl ?_
                                                          refine sw_iconst (pc := 982) (v := 1) C dL_law_982 (by decide) ?_
                                                          refine sw_iadd (pc := 983) C dL_law_983 ?_
                                                          refine sw_sld (pc := 984) C M dL_law_984 ?_
                                                          refine sw_aloadn (pc := 985) 0 0 C dL_law_985 rfl ?_
                                                          refine sw_iloadn (pc := 986) 3 3 C dL_law_986 rfl ?_
                                                          refine sw_iconst (pc := 987) (v := 2) C dL_law_987 (by decide) ?_
                                                          refine sw_iadd (pc := 988) C dL_law_988 ?_
                                                          refine sw_sld (pc := 989) C M dL_law_989 ?_
                                                          refine sw_aloadn (pc := 990) 0 0 C dL_law_990 rfl ?_
                                                          refine sw_iloadn (pc := 991) 3 3 C dL_law_991 rfl ?_
                                                          refine sw_iconst (pc := 992) (v := 3) C dL_law_992 (by decide) ?_
                                                          refine sw_iadd (pc := 993) C dL_law_993 ?_
                                                          refine sw_sld (pc := 994) C M dL_law_994 ?_
                                                          refine sw_callVi (pc := 995) C (mX9_sheet (xs (Int32.toNatClampNeg (v3 + 1))) (xs (Int32.toNatClampNeg (v3 + 2))) (xs (Int32.toNatClampNeg (v3 + 3)))) sgX9_sheet mlL_120 dL_law_995 (by decide) [.int (xs (Int32.toNatClampNeg (v3 + 1))), .int (xs (Int32.toNatClampNeg (v3 + 2))), .int (xs (Int32.toNatClampNeg (v3 + 3)))] [] sh0 rfl rfl rfl rfl (Nat.le_of_ble_eq_true rfl) (fun r128 σ129 => ?_)
                                                          refine sw_aloadn (pc := 998) 2 2 C dL_law_998 rfl ?_
                                                          refine sw_aloadn (pc := 999) 0 0 C dL_law_999 rfl ?_
                                                          refine sw_iloadn (pc := 1000) 3 3 C dL_law_1000 rfl ?_
                                                          refine sw_iconst (pc := 1001) (v := 1) C dL_law_1001 (by decide) ?_
                                                          refine sw_iadd (pc := 1002) C dL_law_1002 ?_
                                                          refine sw_sld (pc := 1003) C M dL_law_1003 ?_
                                                          refine sw_aloadn (pc := 1004) 0 0 C dL_law_1004 rfl ?_
                                                          refine sw_iloadn (pc := 1005) 3 3 C dL_law_1005 rfl ?_
                                                          refine sw_iconst (pc := 1006) (v := 2) C dL_law_1006 (by decide) ?_
                                                          refine sw_iadd (pc := 1007) C dL_law_1007 ?_
                                                          refine sw_sld (pc := 1008) C M dL_law_1008 ?_
                                                          refine sw_aloadn (pc := 1009) 0 0 C dL_law_1009 rfl ?_
                                                          refine sw_iloadn (pc := 1010) 3 3 C dL_law_1010 rfl ?_
                                                          refine sw_iconst (pc := 1011) (v := 3) C dL_law_1011 (by decide) ?_
                                                          refine sw_iadd (pc := 1012) C dL_law_1012 ?_
                                                          refine sw_sld (pc := 1013) C M dL_law_1013 ?_
                                                          refine sw_callVi (pc := 1014) C (mX10_sheet (xs (Int32.toNatClampNeg (v3 + 1))) (xs (Int32.toNatClampNeg (v3 + 2))) (xs (Int32.toNatClampNeg (v3 + 3)))) sgX10_sheet mlL_123 dL_law_1014 (by decide) [.int (xs (Int32.toNatClampNeg (v3 + 1))), .int (xs (Int32.toNatClampNeg (v3 + 2))), .int (xs (Int32.toNatClampNeg (v3 + 3)))] [.int r128] sh37 rfl rfl rfl rfl (Nat.le_of_ble_eq_true rfl) (fun r130 σ131 => ?_)
                                                          refine sw_icmp_eq (pc := 1017) 1323 C dL_law_1017 (by decide) ?_ ?_
                                                          · exact jL_law_B1323 C hn M ih _ _
                                                          · refine sw_iconst (pc := 1020) (v := 0) C dL_law_1020 (by decide) ?_
                                                            exact sw_none
                                                        · skip
                                                          refine sw_ite (fun h132 => ?_) (fun h132 => ?_)
                                                          · refine sw_tabIn (pc := 33) (off := 989) 1022 C dL_law_33 (by rw [h132]; decide) (by rw [h132]; decide) (by rw [h132]; rfl) (by decide) ?_
                                                            refine sw_aloadn (pc := 1022) 1 1 C dL_law_1022 rfl ?_
                                                            refine sw_aloadn (pc := 1023) 0 0 C dL_law_1023 rfl ?_
                                                            refine sw_iloadn (pc := 1024) 3 3 C dL_law_1024 rfl ?_
                                                            refine sw_iconst (pc := 1025) (v := 1) C dL_law_1025 (by decide) ?_
                                                            refine sw_iadd (pc := 1026) C dL_law_1026 ?_
                                                            refine sw_sld (pc := 1027) C M dL_law_1027 ?_
                                                            refine sw_callVi (pc := 1028) C (mX9_lose (xs (Int32.toNatClampNeg (v3 + 1)))) sgX9_lose mlL_124 dL_law_1028 (by decide) [.int (xs (Int32.toNatClampNeg (v3 + 1)))] [] sh0 rfl rfl rfl rfl (Nat.le_of_ble_eq_true rfl) (fun r133 σ134 => ?_)
                                                            refine sw_aloadn (pc := 1031) 2 2 C dL_law_1031 rfl ?_
                                                            refine sw_aloadn (pc := 1032) 0 0 C dL_law_1032 rfl ?_
                                                            refine sw_iloadn (pc := 1033) 3 3 C dL_law_1033 rfl ?_
                                                            refine sw_iconst (pc := 1034) (v := 1) C dL_law_1034 (by decide) ?_
                                                            refine sw_iadd (pc := 1035) C dL_law_1035 ?_
                                                            refine sw_sld (pc := 1036) C M dL_law_1036 ?_
                                                            refine sw_callVi (pc := 1037) C (mX10_lose (xs (Int32.toNatClampNeg (v3 + 1)))) sgX10_lose mlL_127 dL_law_1037 (by decide) [.int (xs (Int32.toNatClampNeg (v3 + 1)))] [.int r133] sh37 rfl rfl rfl rfl (Nat.le_of_ble_eq_true rfl) (fun r135 σ136 => ?_)
                                                            refine sw_icmp_eq (pc := 1040) 1323 C dL_law_1040 (by decide) ?_ ?_
                                                            · exact jL_law_B1323 C hn M ih _ _
                                                            · refine sw_iconst (pc := 1043) (v := 0) C dL_law_1043 (by decide) ?_
                                                              exact sw_none
                                                          · skip
                                                            refine sw_ite (fun h137 => ?_) (fun h137 => ?_)
                                                            · refine sw_tabIn (pc := 33) (off := 1012) 1045 C dL_law_33 (by rw [h137]; decide) (by rw [h137]; decide) (by rw [h137]; rfl) (by decide) ?_
                                                              refine sw_aloadn (pc := 1045) 1 1 C dL_law_1045 rfl ?_
                                                              refine sw_aloadn (pc := 1046) 0 0 C dL_law_1046 rfl ?_
                                                              refine sw_iloadn (pc := 1047) 3 3 C dL_law_1047 rfl ?_
                                                              refine sw_iconst (pc := 1048) (v := 1) C dL_law_1048 (by decide) ?_
                                                              refine sw_iadd (pc := 1049) C dL_law_1049 ?_
                                                              refine sw_sld (pc := 1050) C M dL_law_1050 ?_
                                                              refine sw_aloadn (pc := 1051) 0 0 C dL_law_1051 rfl ?_
                                                              refine sw_iloadn (pc := 1052) 3 3 C dL_law_1052 rfl ?_
                                                              refine sw_iconst (pc := 1053) (v := 2) C dL_law_1053 (by decide) ?_
                                                              refine sw_iadd (pc := 1054) C dL_law_1054 ?_
                                                              refine sw_sld (pc := 1055) C M dL_law_1055 ?_
                                                              refine sw_aloadn (pc := 1056) 0 0 C dL_law_1056 rfl ?_
                                                              refine sw_iloadn (pc := 1057) 3 3 C dL_law_1057 rfl ?_
                                                              refine sw_iconst (pc := 1058) (v := 3) C dL_law_1058 (by decide) ?_
                                                              refine sw_iadd (pc := 1059) C dL_law_1059 ?_
                                                              refine sw_sld (pc := 1060) C M dL_law_1060 ?_
                                                              refine sw_callVi (pc := 1061) C (mX9_put (xs (Int32.toNatClampNeg (v3 + 1))) (xs (Int32.toNatClampNeg (v3 + 2))) (xs (Int32.toNatClampNeg (v3 + 3)))) sgX9_put mlL_128 dL_law_1061 (by decide) [.int (xs (Int32.toNatClampNeg (v3 + 1))), .int (xs (Int32.toNatClampNeg (v3 + 2))), .int (xs (Int32.toNatClampNeg (v3 + 3)))] [] sh0 rfl rfl rfl rfl (Nat.le_of_ble_eq_true rfl) (fun r138 σ139 => ?_)
                                                              refine sw_aloadn (pc := 1064) 2 2 C dL_law_1064 rfl ?_
                                                              refine sw_aloadn (pc := 1065) 0 0 C dL_law_1065 rfl ?_
                                                              refine sw_iloadn (pc := 1066) 3 3 C dL_law_1066 rfl ?_
                                                              refine sw_iconst (pc := 1067) (v := 1) C dL_law_1067 (by decide) ?_
                                                              refine sw_iadd (pc := 1068) C dL_law_1068 ?_
                                                              refine sw_sld (pc := 1069) C M dL_law_1069 ?_
                                                              refine sw_aloadn (pc := 1070) 0 0 C dL_law_1070 rfl ?_
                                                              refine sw_iloadn (pc := 1071) 3 3 C dL_law_1071 rfl ?_
                                                              refine sw_iconst (pc := 1072) (v := 2) C dL_law_1072 (by decide) ?_
                                                              refine sw_iadd (pc := 1073) C dL_law_1073 ?_
                                                              refine sw_sld (pc := 1074) C M dL_law_1074 ?_
                                                              refine sw_aloadn (pc := 1075) 0 0 C dL_law_1075 rfl ?_
                                                              refine sw_iloadn (pc := 1076) 3 3 C dL_law_1076 rfl ?_
                                                              refine sw_iconst (pc := 1077) (v := 3) C dL_law_1077 (by decide) ?_
                                                              refine sw_iadd (pc := 1078) C dL_law_1078 ?_
                                                              refine sw_sld (pc := 1079) C M dL_law_1079 ?_
                                                              refine sw_callVi (pc := 1080) C (mX10_put (xs (Int32.toNatClampNeg (v3 + 1))) (xs (Int32.toNatClampNeg (v3 + 2))) (xs (Int32.toNatClampNeg (v3 + 3)))) sgX10_put mlL_131 dL_law_1080 (by decide) [.int (xs (Int32.toNatClampNeg (v3 + 1))), .int (xs (Int32.toNatClampNeg (v3 + 2))), .int (xs (Int32.toNatClampNeg (v3 + 3)))] [.int r138] sh37 rfl rfl rfl rfl (Nat.le_of_ble_eq_true rfl) (fun r140 σ141 => ?_)
                                                              refine sw_icmp_eq (pc := 1083) 1323 C dL_law_1083 (by decide) ?_ ?_
                                                              · exact jL_law_B1323 C hn M ih _ _
                                                              · refine sw_iconst (pc := 1086) (v := 0) C dL_law_1086 (by decide) ?_
                                                                exact sw_none
                                                            · skip
                                                              refine sw_ite (fun h142 => ?_) (fun h142 => ?_)
                                                              · refine sw_tabIn (pc := 33) (off := 1055) 1088 C dL_law_33 (by rw [h142]; decide) (by rw [h142]; decide) (by rw [h142]; rfl) (by decide) ?_
                                                                refine sw_aloadn (pc := 1088) 1 1 C dL_law_1088 rfl ?_
                                                                refine sw_aloadn (pc := 1089) 0 0 C dL_law_1089 rfl ?_
                                                                refine sw_iloadn (pc := 1090) 3 3 C dL_law_1090 rfl ?_
                                                                refine sw_iconst (pc := 1091) (v := 1) C dL_law_1091 (by decide) ?_
                                                                refine sw_iadd (pc := 1092) C dL_law_1092 ?_
                                                                refine sw_sld (pc := 1093) C M dL_law_1093 ?_
                                                                refine sw_aloadn (pc := 1094) 0 0 C dL_law_1094 rfl ?_
                                                                refine sw_iloadn (pc := 1095) 3 3 C dL_law_1095 rfl ?_
                                                                refine sw_iconst (pc := 1096) (v := 2) C dL_law_1096 (by decide) ?_
                                                                refine sw_iadd (pc := 1097) C dL_law_1097 ?_
                                                                refine sw_sld (pc := 1098) C M dL_law_1098 ?_
                                                                refine sw_aloadn (pc := 1099) 0 0 C dL_law_1099 rfl ?_
                                                                refine sw_iloadn (pc := 1100) 3 3 C dL_law_1100 rfl ?_
                                                                refine sw_iconst (pc := 1101) (v := 3) C dL_law_1101 (by decide) ?_
                                                                refine sw_iadd (pc := 1102) C dL_law_1102 ?_
                                                                refine sw_sld (pc := 1103) C M dL_law_1103 ?_
                                                                refine sw_callVl (pc := 1104) C (mX9_cell (xs (Int32.toNatClampNeg (v3 + 1))) (xs (Int32.toNatClampNeg (v3 + 2))) (xs (Int32.toNatClampNeg (v3 + 3)))) sgX9_cell mlL_132 dL_law_1104 (by decide) [.int (xs (Int32.toNatClampNeg (v3 + 1))), .int (xs (Int32.toNatClampNeg (v3 + 2))), .int (xs (Int32.toNatClampNeg (v3 + 3)))] [] sh0 rfl rfl rfl rfl (Nat.le_of_ble_eq_true rfl) (fun r143 σ144 => ?_)
                                                                refine sw_aloadn (pc := 1107) 2 2 C dL_law_1107 rfl ?_
                                                                refine sw_aloadn (pc := 1108) 0 0 C dL_law_1108 rfl ?_
                                                                refine sw_iloadn (pc := 1109) 3 3 C dL_law_1109 rfl ?_
                                                                refine sw_iconst (pc := 1110) (v := 1) C dL_law_1110 (by decide) ?_
                                                                refine sw_iadd (pc := 1111) C dL_law_1111 ?_
                                                                refine sw_sld (pc := 1112) C M dL_law_1112 ?_
                                                                refine sw_aloadn (pc := 1113) 0 0 C dL_law_1113 rfl ?_
                                                                refine sw_iloadn (pc := 1114) 3 3 C dL_law_1114 rfl ?_
                                                                refine sw_iconst (pc := 1115) (v := 2) C dL_law_1115 (by decide) ?_
                                                                refine sw_iadd (pc := 1116) C dL_law_1116 ?_
                                                                refine sw_sld (pc := 1117) C M dL_law_1117 ?_
                                                                refine sw_aloadn (pc := 1118) 0 0 C dL_law_1118 rfl ?_
                                                                refine sw_iloadn (pc := 1119) 3 3 C dL_law_1119 rfl ?_
                                                                refine sw_iconst (pc := 1120) (v := 3) C dL_law_1120 (by decide) ?_
                                                                refine sw_iadd (pc := 1121) C dL_law_1121 ?_
                                                                refine sw_sld (pc := 1122) C M dL_law_1122 ?_
                                                                refine sw_callVl (pc := 1123) C (mX10_cell (xs (Int32.toNatClampNeg (v3 + 1))) (xs (Int32.toNatClampNeg (v3 + 2))) (xs (Int32.toNatClampNeg (v3 + 3)))) sgX10_cell mlL_136 dL_law_1123 (by decide) [.int (xs (Int32.toNatClampNeg (v3 + 1))), .int (xs (Int32.toNatClampNeg (v3 + 2))), .int (xs (Int32.toNatClampNeg (v3 + 3)))] [.long r143] sh37 rfl rfl rfl rfl (Nat.le_of_ble_eq_true rfl) (fun r145 σ146 => ?_)
                                                                refine sw_lcmp (pc := 1126) C dL_law_1126 ?_
                                                                refine sw_if_eq (pc := 1127) 1323 C dL_law_1127 (by decide) ?_ ?_
                                                                · exact jL_law_B1323 C hn M ih _ _
                                                                · refine sw_iconst (pc := 1130) (v := 0) C dL_law_1130 (by decide) ?_
                                                                  exact sw_none
                                                              · skip
                                                                refine sw_ite (fun h147 => ?_) (fun h147 => ?_)
                                                                · refine sw_tabIn (pc := 33) (off := 1099) 1132 C dL_law_33 (by rw [h147]; decide) (by rw [h147]; decide) (by rw [h147]; rfl) (by decide) ?_
                                                                  refine sw_aloadn (pc := 1132) 1 1 C dL_law_1132 rfl ?_
                                                                  refine sw_aloadn (pc := 1133) 0 0 C dL_law_1133 rfl ?_
                                                                  refine sw_iloadn (pc := 1134) 3 3 C dL_law_1134 rfl ?_
                                                                  refine sw_iconst (pc := 1135) (v := 1) C dL_law_1135 (by decide) ?_
                                                                  refine sw_iadd (pc := 1136) C dL_law_1136 ?_
                                                                  refine sw_sld (pc := 1137) C M dL_law_1137 ?_
                                                                  refine sw_aloadn (pc := 1138) 0 0 C dL_law_1138 rfl ?_
                                                                  refine sw_iloadn (pc := 1139) 3 3 C dL_law_1139 rfl ?_
                                                                  refine sw_iconst (pc := 1140) (v := 2) C dL_law_1140 (by decide) ?_
                                                                  refine sw_iadd (pc := 1141) C dL_law_1141 ?_
                                                                  refine sw_sld (pc := 1142) C M dL_law_1142 ?_
                                                                  refine sw_aloadn (pc := 1143) 0 0 C dL_law_1143 rfl ?_
                                                                  refine sw_iloadn (pc := 1144) 3 3 C dL_law_1144 rfl ?_
                                                                  refine sw_iconst (pc := 1145) (v := 3) C dL_law_1145 (by decide) ?_
                                                                  refine sw_iadd (pc := 1146) C dL_law_1146 ?_
                                                                  refine sw_sld (pc := 1147) C M dL_law_1147 ?_
                                                                  refine sw_aloadn (pc := 1148) 0 0 C dL_law_1148 rfl ?_
                                                                  refine sw_iloadn (pc := 1149) 3 3 C dL_law_1149 rfl ?_
                                                                  refine sw_iconst (pc := 1150) (v := 4) C dL_law_1150 (by decide) ?_
                                                                  refine sw_iadd (pc := 1151) C dL_law_1151 ?_
                                                                  refine sw_sld (pc := 1152) C M dL_law_1152 ?_
                                                                  refine sw_aloadn (pc := 1153) 0 0 C dL_law_1153 rfl ?_
                                                                  refine sw_iloadn (pc := 1154) 3 3 C dL_law_1154 rfl ?_
                                                                  refine sw_iconst (pc := 1155) (v := 5) C dL_law_1155 (by decide) ?_
                                                                  refine sw_iadd (pc := 1156) C dL_law_1156 ?_
                                                                  refine sw_sld (pc := 1157) C M dL_law_1157 ?_
                                                                  refine sw_callVi (pc := 1158) C (mX9_copy (xs (Int32.toNatClampNeg (v3 + 1))) (xs (Int32.toNatClampNeg (v3 + 2))) (xs (Int32.toNatClampNeg (v3 + 3))) (xs (Int32.toNatClampNeg (v3 + 4))) (xs (Int32.toNatClampNeg (v3 + 5)))) sgX9_copy mlL_137 dL_law_1158 (by decide) [.int (xs (Int32.toNatClampNeg (v3 + 1))), .int (xs (Int32.toNatClampNeg (v3 + 2))), .int (xs (Int32.toNatClampNeg (v3 + 3))), .int (xs (Int32.toNatClampNeg (v3 + 4))), .int (xs (Int32.toNatClampNeg (v3 + 5)))] [] sh0 rfl rfl rfl rfl (Nat.le_of_ble_eq_true rfl) (fun r148 σ149 => ?_)
                                                                  refine sw_aloadn (pc := 1161) 2 2 C dL_law_1161 rfl ?_
                                                                  refine sw_aloadn (pc := 1162) 0 0 C dL_law_1162 rfl ?_
                                                                  refine sw_iloadn (pc := 1163) 3 3 C dL_law_1163 rfl ?_
                                                                  refine sw_iconst (pc := 1164) (v := 1) C dL_law_1164 (by decide) ?_
                                                                  refine sw_iadd (pc := 1165) C dL_law_1165 ?_
                                                                  refine sw_sld (pc := 1166) C M dL_law_1166 ?_
                                                                  refine sw_aloadn (pc := 1167) 0 0 C dL_law_1167 rfl ?_
                                                                  refine sw_iloadn (pc := 1168) 3 3 C dL_law_1168 rfl ?_
                                                                  refine sw_iconst (pc := 1169) (v := 2) C dL_law_1169 (by decide) ?_
                                                                  refine sw_iadd (pc := 1170) C dL_law_1170 ?_
                                                                  refine sw_sld (pc := 1171) C M dL_law_1171 ?_
                                                                  refine sw_aloadn (pc := 1172) 0 0 C dL_law_1172 rfl ?_
                                                                  refine sw_iloadn (pc := 1173) 3 3 C dL_law_1173 rfl ?_
                                                                  refine sw_iconst (pc := 1174) (v := 3) C dL_law_1174 (by decide) ?_
                                                                  refine sw_iadd (pc := 1175) C dL_law_1175 ?_
                                                                  refine sw_sld (pc := 1176) C M dL_law_1176 ?_
                                                                  refine sw_aloadn (pc := 1177) 0 0 C dL_law_1177 rfl ?_
                                                                  refine sw_iloadn (pc := 1178) 3 3 C dL_law_1178 rfl ?_
                                                                  refine sw_iconst (pc := 1179) (v := 4) C dL_law_1179 (by decide) ?_
                                                                  refine sw_iadd (pc := 1180) C dL_law_1180 ?_
                                                                  refine sw_sld (pc := 1181) C M dL_law_1181 ?_
                                                                  refine sw_aloadn (pc := 1182) 0 0 C dL_law_1182 rfl ?_
                                                                  refine sw_iloadn (pc := 1183) 3 3 C dL_law_1183 rfl ?_
                                                                  refine sw_iconst (pc := 1184) (v := 5) C dL_law_1184 (by decide) ?_
                                                                  refine sw_iadd (pc := 1185) C dL_law_1185 ?_
                                                                  refine sw_sld (pc := 1186) C M dL_law_1186 ?_
                                                                  refine sw_callVi (pc := 1187) C (mX10_copy (xs (Int32.toNatClampNeg (v3 + 1))) (xs (Int32.toNatClampNeg (v3 + 2))) (xs (Int32.toNatClampNeg (v3 + 3))) (xs (Int32.toNatClampNeg (v3 + 4))) (xs (Int32.toNatClampNeg (v3 + 5)))) sgX10_copy mlL_140 dL_law_1187 (by decide) [.int (xs (Int32.toNatClampNeg (v3 + 1))), .int (xs (Int32.toNatClampNeg (v3 + 2))), .int (xs (Int32.toNatClampNeg (v3 + 3))), .int (xs (Int32.toNatClampNeg (v3 + 4))), .int (xs (Int32.toNatClampNeg (v3 + 5)))] [.int r148] sh37 rfl rfl rfl rfl (Nat.le_of_ble_eq_true rfl) (fun r150 σ151 => ?_)
                                                                  refine sw_icmp_eq (pc := 1190) 1323 C dL_law_1190 (by decide) ?_ ?_
                                                                  · exact jL_law_B1323 C hn M ih _ _
                                                                  · refine sw_iconst (pc := 1193) (v := 0) C dL_law_1193 (by decide) ?_
                                                                    exact sw_none
                                                                · skip
                                                                  refine sw_ite (fun h152 => ?_) (fun h152 => ?_)
                                                                  · refine sw_tabIn (pc := 33) (off := 1162) 1195 C dL_law_33 (by rw [h152]; decide) (by rw [h152]; decide) (by rw [h152]; rfl) (by decide) ?_
                                                                    refine sw_aloadn (pc := 1195) 1 1 C dL_law_1195 rfl ?_
                                                                    refine sw_aloadn (pc := 1196) 0 0 C dL_law_1196 rfl ?_
                                                                    refine sw_iloadn (pc := 1197) 3 3 C dL_law_1197 rfl ?_
                                                                    refine sw_iconst (pc := 1198) (v := 1) C dL_law_1198 (by decide) ?_
                                                                    refine sw_iadd (pc := 1199) C dL_law_1199 ?_
                                                                    refine sw_sld (pc := 1200) C M dL_law_1200 ?_
                                                                    refine sw_callVi (pc := 1201) C (mX9_tell (xs (Int32.toNatClampNeg (v3 + 1)))) sgX9_tell mlL_141 dL_law_1201 (by decide) [.int (xs (Int32.toNatClampNeg (v3 + 1)))] [] sh0 rfl rfl rfl rfl (Nat.le_of_ble_eq_true rfl) (fun r153 σ154 => ?_)
                                                                    refine sw_aloadn (pc := 1204) 2 2 C dL_law_1204 rfl ?_
                                                                    refine sw_aloadn (pc := 1205) 0 0 C dL_law_1205 rfl ?_
                                                                    refine sw_iloadn (pc := 1206) 3 3 C dL_law_1206 rfl ?_
                                                                    refine sw_iconst (pc := 1207) (v := 1) C dL_law_1207 (by decide) ?_
                                                                    refine sw_iadd (pc := 1208) C dL_law_1208 ?_
                                                                    refine sw_sld (pc := 1209) C M dL_law_1209 ?_
                                                                    refine sw_callVi (pc := 1210) C (mX10_tell (xs (Int32.toNatClampNeg (v3 + 1)))) sgX10_tell mlL_144 dL_law_1210 (by decide) [.int (xs (Int32.toNatClampNeg (v3 + 1)))] [.int r153] sh37 rfl rfl rfl rfl (Nat.le_of_ble_eq_true rfl) (fun r155 σ156 => ?_)
                                                                    refine sw_icmp_eq (pc := 1213) 1323 C dL_law_1213 (by decide) ?_ ?_
                                                                    · exact jL_law_B1323 C hn M ih _ _
                                                                    · refine sw_iconst (pc := 1216) (v := 0) C dL_law_1216 (by decide) ?_
                                                                      exact sw_none
                                                                  · skip
                                                                    refine sw_ite (fun h157 => ?_) (fun h157 => ?_)
                                                                    · refine sw_tabIn (pc := 33) (off := 1185) 1218 C dL_law_33 (by rw [h157]; decide) (by rw [h157]; decide) (by rw [h157]; rfl) (by decide) ?_
                                                                      refine sw_aloadn (pc := 1218) 1 1 C dL_law_1218 rfl ?_
                                                                      refine sw_aloadn (pc := 1219) 0 0 C dL_law_1219 rfl ?_
                                                                      refine sw_iloadn (pc := 1220) 3 3 C dL_law_1220 rfl ?_
                                                                      refine sw_iconst (pc := 1221) (v := 1) C dL_law_1221 (by decide) ?_
                                                                      refine sw_iadd (pc := 1222) C dL_law_1222 ?_
                                                                      refine sw_sld (pc := 1223) C M dL_law_1223 ?_
                                                                      refine sw_callVi (pc := 1224) C (mX9_joint (xs (Int32.toNatClampNeg (v3 + 1)))) sgX9_joint mlL_145 dL_law_1224 (by decide) [.int (xs (Int32.toNatClampNeg (v3 + 1)))] [] sh0 rfl rfl rfl rfl (Nat.le_of_ble_eq_true rfl) (fun r158 σ159 => ?_)
                                                                      refine sw_aloadn (pc := 1227) 2 2 C dL_law_1227 rfl ?_
                                                                      refine sw_aloadn (pc := 1228) 0 0 C dL_law_1228 rfl ?_
                                                                      refine sw_iloadn (pc := 1229) 3 3 C dL_law_1229 rfl ?_
                                                                      refine sw_iconst (pc := 1230) (v := 1) C dL_law_1230 (by decide) ?_
                                                                      refine sw_iadd (pc := 1231) C dL_law_1231 ?_
                                                                      refine sw_sld (pc := 1232) C M dL_law_1232 ?_
                                                                      refine sw_callVi (pc := 1233) C (mX10_joint (xs (Int32.toNatClampNeg (v3 + 1)))) sgX10_joint mlL_148 dL_law_1233 (by decide) [.int (xs (Int32.toNatClampNeg (v3 + 1)))] [.int r158] sh37 rfl rfl rfl rfl (Nat.le_of_ble_eq_true rfl) (fun r160 σ161 => ?_)
                                                                      refine sw_icmp_eq (pc := 1236) 1323 C dL_law_1236 (by decide) ?_ ?_
                                                                      · exact jL_law_B1323 C hn M ih _ _
                                                                      · refine sw_iconst (pc := 1239) (v := 0) C dL_law_1239 (by decide) ?_
                                                                        exact sw_none
                                                                    · skip
                                                                      refine sw_ite (fun h162 => ?_) (fun h162 => ?_)
                                                                      · refine sw_tabIn (pc := 33) (off := 1208) 1241 C dL_law_33 (by rw [h162]; decide) (by rw [h162]; decide) (by rw [h162]; rfl) (by decide) ?_
                                                                        refine sw_aloadn (pc := 1241) 1 1 C dL_law_1241 rfl ?_
                                                                        refine sw_aloadn (pc := 1242) 0 0 C dL_law_1242 rfl ?_
                                                                        refine sw_iloadn (pc := 1243) 3 3 C dL_law_1243 rfl ?_
                                                                        refine sw_iconst (pc := 1244) (v := 1) C dL_law_1244 (by decide) ?_
                                                                        refine sw_iadd (pc := 1245) C dL_law_1245 ?_
                                                                        refine sw_sld (pc := 1246) C M dL_law_1246 ?_
                                                                        refine sw_aloadn (pc := 1247) 0 0 C dL_law_1247 rfl ?_
                                                                        refine sw_iloadn (pc := 1248) 3 3 C dL_law_1248 rfl ?_
                                                                        refine sw_iconst (pc := 1249) (v := 2) C dL_law_1249 (by decide) ?_
                                                                        refine sw_iadd (pc := 1250) C dL_law_1250 ?_
                                                                        refine sw_sld (pc := 1251) C M dL_law_1251 ?_
                                                                        refine sw_callVi (pc := 1252) C (mX9_as (xs (Int32.toNatClampNeg (v3 + 1))) (xs (Int32.toNatClampNeg (v3 + 2)))) sgX9_as mlL_149 dL_law_1252 (by decide) [.int (xs (Int32.toNatClampNeg (v3 + 1))), .int (xs (Int32.toNatClampNeg (v3 + 2)))] [] sh0 rfl rfl rfl rfl (Nat.le_of_ble_eq_true rfl) (fun r163 σ164 => ?_)
                                                                        refine sw_aloadn (pc := 1255) 2 2 C dL_law_1255 rfl ?_
                                                                        refine sw_aloadn (pc := 1256) 0 0 C dL_law_1256 rfl ?_
                                                                        refine sw_iloadn (pc := 1257) 3 3 C dL_law_1257 rfl ?_
                                                                        refine sw_iconst (pc := 1258) (v := 1) C dL_law_1258 (by decide) ?_
                                                                        refine sw_iadd (pc := 1259) C dL_law_1259 ?_
                                                                        refine sw_sld (pc := 1260) C M dL_law_1260 ?_
                                                                        refine sw_aloadn (pc := 1261) 0 0 C dL_law_1261 rfl ?_
                                                                        refine sw_iloadn (pc := 1262) 3 3 C dL_law_1262 rfl ?_
                                                                        refine sw_iconst (pc := 1263) (v := 2) C dL_law_1263 (by decide) ?_
                                                                        refine sw_iadd (pc := 1264) C dL_law_1264 ?_
                                                                        refine sw_sld (pc := 1265) C M dL_law_1265 ?_
                                                                        refine sw_callVi (pc := 1266) C (mX10_as (xs (Int32.toNatClampNeg (v3 + 1))) (xs (Int32.toNatClampNeg (v3 + 2)))) sgX10_as mlL_152 dL_law_1266 (by decide) [.int (xs (Int32.toNatClampNeg (v3 + 1))), .int (xs (Int32.toNatClampNeg (v3 + 2)))] [.int r163] sh37 rfl rfl rfl rfl (Nat.le_of_ble_eq_true rfl) (fun r165 σ166 => ?_)
                                                                        refine sw_icmp_eq (pc := 1269) 1323 C dL_law_1269 (by decide) ?_ ?_
                                                                        · exact jL_law_B1323 C hn M ih _ _
                                                                        · refine sw_iconst (pc := 1272) (v := 0) C dL_law_1272 (by decide) ?_
                                                                          exact sw_none
                                                                      · skip
                                                                        refine sw_ite (fun h167 => ?_) (fun h167 => ?_)
                                                                        · refine sw_tabIn (pc := 33) (off := 1241) 1274 C dL_law_33 (by rw [h167]; decide) (by rw [h167]; decide) (by rw [h167]; rfl) (by decide) ?_
                                                                          refine sw_aloadn (pc := 1274) 1 1 C dL_law_1274 rfl ?_
                                                                          refine sw_callVi (pc := 1275) C mX9_trace sgX9_trace mlL_153 dL_law_1275 (by decide) [] [] sh0 rfl rfl rfl rfl (Nat.le_of_ble_eq_true rfl) (fun r168 σ169 => ?_)
                                                                          refine sw_aloadn (pc := 1278) 2 2 C dL_law_1278 rfl ?_
                                                                          refine sw_callVi (pc := 1279) C mX10_trace sgX10_trace mlL_156 dL_law_1279 (by decide) [] [.int r168] sh37 rfl rfl rfl rfl (Nat.le_of_ble_eq_true rfl) (fun r170 σ171 => ?_)
                                                                          refine sw_icmp_eq (pc := 1282) 1323 C dL_law_1282 (by decide) ?_ ?_
                                                                          · exact jL_law_B1323 C hn M ih _ _
                                                                          · refine sw_iconst (pc := 1285) (v := 0) C dL_law_1285 (by decide) ?_
                                                                            exact sw_none
                                                                        · skip
                                                                          refine sw_ite (fun h172 => ?_) (fun h172 => ?_)
                                                                          · refine sw_tabIn (pc := 33) (off := 1254) 1287 C dL_law_33 (by rw [h172]; decide) (by rw [h172]; decide) (by rw [h172]; rfl) (by decide) ?_
                                                                            refine sw_aloadn (pc := 1287) 1 1 C dL_law_1287 rfl ?_
                                                                            refine sw_callVi (pc := 1288) C mX9_fault sgX9_fault mlL_157 dL_law_1288 (by decide) [] [] sh0 rfl rfl rfl rfl (Nat.le_of_ble_eq_true rfl) (fun r173 σ174 => ?_)
                                                                            refine sw_aloadn (pc := 1291) 2 2 C dL_law_1291 rfl ?_
                                                                            refine sw_callVi (pc := 1292) C mX10_fault sgX10_fault mlL_160 dL_law_1292 (by decide) [] [.int r173] sh37 rfl rfl rfl rfl (Nat.le_of_ble_eq_true rfl) (fun r175 σ176 => ?_)
                                                                            refine sw_icmp_eq (pc := 1295) 1323 C dL_law_1295 (by decide) ?_ ?_
                                                                            · exact jL_law_B1323 C hn M ih _ _
                                                                            · refine sw_iconst (pc := 1298) (v := 0) C dL_law_1298 (by decide) ?_
                                                                              exact sw_none
                                                                          · skip
                                                                            refine sw_ite (fun h177 => ?_) (fun h177 => ?_)
                                                                            · refine sw_tabIn (pc := 33) (off := 1267) 1300 C dL_law_33 (by rw [h177]; decide) (by rw [h177]; decide) (by rw [h177]; rfl) (by decide) ?_
                                                                              refine sw_aloadn (pc := 1300) 1 1 C dL_law_1300 rfl ?_
                                                                              refine sw_aloadn (pc := 1301) 0 0 C dL_law_1301 rfl ?_
                                                                              refine sw_iloadn (pc := 1302) 3 3 C dL_law_1302 rfl ?_
                                                                              refine sw_iconst (pc := 1303) (v := 1) C dL_law_1303 (by decide) ?_
                                                                              refine sw_iadd (pc := 1304) C dL_law_1304 ?_
                                                                              refine sw_sld (pc := 1305) C M dL_law_1305 ?_
                                                                              refine sw_callVi (pc := 1306) C (mX9_many (xs (Int32.toNatClampNeg (v3 + 1)))) sgX9_many mlL_161 dL_law_1306 (by decide) [.int (xs (Int32.toNatClampNeg (v3 + 1)))] [] sh0 rfl rfl rfl rfl (Nat.le_of_ble_eq_true rfl) (fun r178 σ179 => ?_)
                                                                              refine sw_aloadn (pc := 1309) 2 2 C dL_law_1309 rfl ?_
                                                                              refine sw_aloadn (pc := 1310) 0 0 C dL_law_1310 rfl ?_
                                                                              refine sw_iloadn (pc := 1311) 3 3 C dL_law_1311 rfl ?_
                                                                              refine sw_iconst (pc := 1312) (v := 1) C dL_law_1312 (by decide) ?_
                                                                              refine sw_iadd (pc := 1313) C dL_law_1313 ?_
                                                                              refine sw_sld (pc := 1314) C M dL_law_1314 ?_
                                                                              refine sw_callVi (pc := 1315) C (mX10_many (xs (Int32.toNatClampNeg (v3 + 1)))) sgX10_many mlL_164 dL_law_1315 (by decide) [.int (xs (Int32.toNatClampNeg (v3 + 1)))] [.int r178] sh37 rfl rfl rfl rfl (Nat.le_of_ble_eq_true rfl) (fun r180 σ181 => ?_)
                                                                              refine sw_icmp_eq (pc := 1318) 1323 C dL_law_1318 (by decide) ?_ ?_
                                                                              · exact jL_law_B1323 C hn M ih _ _
                                                                              · refine sw_iconst (pc := 1321) (v := 0) C dL_law_1321 (by decide) ?_
                                                                                exact sw_none
                                                                            · skip
                                                                              refine sw_tabOut (pc := 33) 1323 C dL_law_33 (by have qh2 := lv_neT (a := 0) h2 (by decide); have qh7 := lv_neT (a := 1) h7 (by decide); have qh12 := lv_neT (a := 2) h12 (by decide); have qh17 := lv_neT (a := 3) h17 (by decide); have qh22 := lv_neT (a := 4) h22 (by decide); have qh27 := lv_neT (a := 5) h27 (by decide); have qh32 := lv_neT (a := 6) h32 (by decide); have qh37 := lv_neT (a := 7) h37 (by decide); have qh42 := lv_neT (a := 8) h42 (by decide); have qh47 := lv_neT (a := 9) h47 (by decide); have qh52 := lv_neT (a := 10) h52 (by decide); have qh57 := lv_neT (a := 11) h57 (by decide); have qh62 := lv_neT (a := 12) h62 (by decide); have qh67 := lv_neT (a := 13) h67 (by decide); have qh72 := lv_neT (a := 14) h72 (by decide); have qh77 := lv_neT (a := 15) h77 (by decide); have qh82 := lv_neT (a := 16) h82 (by decide); have qh87 := lv_neT (a := 17) h87 (by decide); have qh92 := lv_neT (a := 18) h92 (by decide); have qh97 := lv_neT (a := 19) h97 (by decide); have qh102 := lv_neT (a := 20) h102 (by decide); have qh107 := lv_neT (a := 21) h107 (by decide); have qh112 := lv_neT (a := 22) h112 (by decide); have qh117 := lv_neT (a := 23) h117 (by decide); have qh122 := lv_neT (a := 24) h122 (by decide); have qh127 := lv_neT (a := 25) h127 (by decide); have qh132 := lv_neT (a := 26) h132 (by decide); have qh137 := lv_neT (a := 27) h137 (by decide); have qh142 := lv_neT (a := 28) h142 (by decide); have qh147 := lv_neT (a := 29) h147 (by decide); have qh152 := lv_neT (a := 30) h152 (by decide); have qh157 := lv_neT (a := 31) h157 (by decide); have qh162 := lv_neT (a := 32) h162 (by decide); have qh167 := lv_neT (a := 33) h167 (by decide); have qh172 := lv_neT (a := 34) h172 (by decide); have qh177 := lv_neT (a := 35) h177 (by decide); omega) (by decide) ?_
                                                                              exact jL_law_B1323 C hn M ih _ _
/-- the system as its constructors leave it -/
def sw_s0 : sw_St := fun c => match c with
  | 2 => (upd (upd (upd (upd (fun _ => 0) 0 (-1)) 1 (-1)) 2 (-1)) 3 (-1))
  | 23 => (upd (fun _ => 0) 1 (-9))
  | 33 => (upd (upd (upd (upd (fun _ => 0) 0 (-9)) 1 (-9)) 2 (-9)) 3 (-9))
  | 59 => (upd (upd (upd (upd (fun _ => 0) 0 (-1)) 1 (-1)) 2 (-1)) 3 (-1))
  | _ => fun _ => 0
