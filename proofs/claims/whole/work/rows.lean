section
-- ===== PART A: goes FIRST, ahead of the names: the tables' words, and 'selects' of the private methods out of them =====
/-- a private method of a class that the tables say can be made, by its rows of tables_1 -/
def lw_okq (q : MethodName × Nat) : Prop := (q.1.cls ≠ "java/lang/invoke/MethodHandle" ∧ q.1.cls ≠ "java/lang/invoke/VarHandle") ∧ Cond.instantiable q.1.cls q.2 ∈ tables_1 ∧ Cond.privateMethod q.1 ∈ tables_1 ∧ Cond.instanceMethod q.1 ∈ tables_1
theorem lw_p0 : lw_okq (⟨"SawLine", "refusalOfCells", "(IIII)I"⟩, 14) := ⟨⟨by decide +kernel, by decide +kernel⟩, List.mem_of_getElem? (i := 16) (by decide +kernel), List.mem_of_getElem? (i := 258) (by decide +kernel), List.mem_of_getElem? (i := 259) (by decide +kernel)⟩
theorem lw_p1 : lw_okq (⟨"SawLine", "answerOfFault", "(I)I"⟩, 14) := ⟨⟨by decide +kernel, by decide +kernel⟩, List.mem_of_getElem? (i := 16) (by decide +kernel), List.mem_of_getElem? (i := 277) (by decide +kernel), List.mem_of_getElem? (i := 278) (by decide +kernel)⟩
theorem lw_p2 : lw_okq (⟨"SawLine$Saw", "readCode", "(II)I"⟩, 4) := ⟨⟨by decide +kernel, by decide +kernel⟩, List.mem_of_getElem? (i := 41) (by decide +kernel), List.mem_of_getElem? (i := 297) (by decide +kernel), List.mem_of_getElem? (i := 298) (by decide +kernel)⟩
theorem lw_p3 : lw_okq (⟨"SawLine$Saw", "beginTooth", "(I)Z"⟩, 4) := ⟨⟨by decide +kernel, by decide +kernel⟩, List.mem_of_getElem? (i := 41) (by decide +kernel), List.mem_of_getElem? (i := 301) (by decide +kernel), List.mem_of_getElem? (i := 302) (by decide +kernel)⟩
theorem lw_p4 : lw_okq (⟨"SawLine$Saw", "leaning", "(I)I"⟩, 4) := ⟨⟨by decide +kernel, by decide +kernel⟩, List.mem_of_getElem? (i := 41) (by decide +kernel), List.mem_of_getElem? (i := 350) (by decide +kernel), List.mem_of_getElem? (i := 351) (by decide +kernel)⟩
theorem lw_p5 : lw_okq (⟨"SawLine", "refusalOfStroke", "(I)I"⟩, 14) := ⟨⟨by decide +kernel, by decide +kernel⟩, List.mem_of_getElem? (i := 16) (by decide +kernel), List.mem_of_getElem? (i := 437) (by decide +kernel), List.mem_of_getElem? (i := 438) (by decide +kernel)⟩
theorem lw_p6 : lw_okq (⟨"SawLine", "countStrokes", "()I"⟩, 14) := ⟨⟨by decide +kernel, by decide +kernel⟩, List.mem_of_getElem? (i := 16) (by decide +kernel), List.mem_of_getElem? (i := 441) (by decide +kernel), List.mem_of_getElem? (i := 442) (by decide +kernel)⟩
theorem lw_p7 : lw_okq (⟨"SawLine", "lacksSawOrBoard", "()Z"⟩, 14) := ⟨⟨by decide +kernel, by decide +kernel⟩, List.mem_of_getElem? (i := 16) (by decide +kernel), List.mem_of_getElem? (i := 445) (by decide +kernel), List.mem_of_getElem? (i := 446) (by decide +kernel)⟩
theorem lw_p8 : lw_okq (⟨"SawLine", "cutAsItIs", "()V"⟩, 14) := ⟨⟨by decide +kernel, by decide +kernel⟩, List.mem_of_getElem? (i := 16) (by decide +kernel), List.mem_of_getElem? (i := 449) (by decide +kernel), List.mem_of_getElem? (i := 450) (by decide +kernel)⟩
theorem lw_p9 : lw_okq (⟨"SawLine$Cut", "stroke", "(II)V"⟩, 5) := ⟨⟨by decide +kernel, by decide +kernel⟩, List.mem_of_getElem? (i := 109) (by decide +kernel), List.mem_of_getElem? (i := 466) (by decide +kernel), List.mem_of_getElem? (i := 467) (by decide +kernel)⟩
theorem lw_p10 : lw_okq (⟨"SawLine$Saw", "isMarkedAhead", "(I)Z"⟩, 4) := ⟨⟨by decide +kernel, by decide +kernel⟩, List.mem_of_getElem? (i := 41) (by decide +kernel), List.mem_of_getElem? (i := 502) (by decide +kernel), List.mem_of_getElem? (i := 503) (by decide +kernel)⟩
theorem lw_p11 : lw_okq (⟨"SawLine", "straightestLean", "()I"⟩, 14) := ⟨⟨by decide +kernel, by decide +kernel⟩, List.mem_of_getElem? (i := 16) (by decide +kernel), List.mem_of_getElem? (i := 518) (by decide +kernel), List.mem_of_getElem? (i := 519) (by decide +kernel)⟩
theorem lw_p12 : lw_okq (⟨"SawLine", "offByLean", "(I)I"⟩, 14) := ⟨⟨by decide +kernel, by decide +kernel⟩, List.mem_of_getElem? (i := 16) (by decide +kernel), List.mem_of_getElem? (i := 522) (by decide +kernel), List.mem_of_getElem? (i := 523) (by decide +kernel)⟩
theorem lw_p13 : lw_okq (⟨"SawLine", "straightestSteers", "()I"⟩, 14) := ⟨⟨by decide +kernel, by decide +kernel⟩, List.mem_of_getElem? (i := 16) (by decide +kernel), List.mem_of_getElem? (i := 530) (by decide +kernel), List.mem_of_getElem? (i := 531) (by decide +kernel)⟩
theorem lw_p14 : lw_okq (⟨"SawLine", "offBySteers", "(I)I"⟩, 14) := ⟨⟨by decide +kernel, by decide +kernel⟩, List.mem_of_getElem? (i := 16) (by decide +kernel), List.mem_of_getElem? (i := 534) (by decide +kernel), List.mem_of_getElem? (i := 535) (by decide +kernel)⟩
theorem lw_p15 : lw_okq (⟨"SawLine", "countFitting", "(I)I"⟩, 14) := ⟨⟨by decide +kernel, by decide +kernel⟩, List.mem_of_getElem? (i := 16) (by decide +kernel), List.mem_of_getElem? (i := 583) (by decide +kernel), List.mem_of_getElem? (i := 584) (by decide +kernel)⟩
def lw_privs_1 : List (MethodName × Nat) := [(⟨"SawLine", "refusalOfCells", "(IIII)I"⟩, 14), (⟨"SawLine", "answerOfFault", "(I)I"⟩, 14), (⟨"SawLine$Saw", "readCode", "(II)I"⟩, 4), (⟨"SawLine$Saw", "beginTooth", "(I)Z"⟩, 4), (⟨"SawLine$Saw", "leaning", "(I)I"⟩, 4), (⟨"SawLine", "refusalOfStroke", "(I)I"⟩, 14), (⟨"SawLine", "countStrokes", "()I"⟩, 14), (⟨"SawLine", "lacksSawOrBoard", "()Z"⟩, 14), (⟨"SawLine", "cutAsItIs", "()V"⟩, 14), (⟨"SawLine$Cut", "stroke", "(II)V"⟩, 5), (⟨"SawLine$Saw", "isMarkedAhead", "(I)Z"⟩, 4), (⟨"SawLine", "straightestLean", "()I"⟩, 14), (⟨"SawLine", "offByLean", "(I)I"⟩, 14), (⟨"SawLine", "straightestSteers", "()I"⟩, 14), (⟨"SawLine", "offBySteers", "(I)I"⟩, 14), (⟨"SawLine", "countFitting", "(I)I"⟩, 14)]
theorem lw_r1 : ∀ q ∈ lw_privs_1, lw_okq q := List.forall_mem_cons.mpr ⟨lw_p0, List.forall_mem_cons.mpr ⟨lw_p1, List.forall_mem_cons.mpr ⟨lw_p2, List.forall_mem_cons.mpr ⟨lw_p3, List.forall_mem_cons.mpr ⟨lw_p4, List.forall_mem_cons.mpr ⟨lw_p5, List.forall_mem_cons.mpr ⟨lw_p6, List.forall_mem_cons.mpr ⟨lw_p7, List.forall_mem_cons.mpr ⟨lw_p8, List.forall_mem_cons.mpr ⟨lw_p9, List.forall_mem_cons.mpr ⟨lw_p10, List.forall_mem_cons.mpr ⟨lw_p11, List.forall_mem_cons.mpr ⟨lw_p12, List.forall_mem_cons.mpr ⟨lw_p13, List.forall_mem_cons.mpr ⟨lw_p14, List.forall_mem_cons.mpr ⟨lw_p15, fun _ h => absurd h List.not_mem_nil⟩⟩⟩⟩⟩⟩⟩⟩⟩⟩⟩⟩⟩⟩⟩⟩
theorem lw_p16 : lw_okq (⟨"SawLine", "fits", "(I)Z"⟩, 14) := ⟨⟨by decide +kernel, by decide +kernel⟩, List.mem_of_getElem? (i := 16) (by decide +kernel), List.mem_of_getElem? (i := 593) (by decide +kernel), List.mem_of_getElem? (i := 594) (by decide +kernel)⟩
theorem lw_p17 : lw_okq (⟨"SawLine", "firstOfFewest", "()I"⟩, 14) := ⟨⟨by decide +kernel, by decide +kernel⟩, List.mem_of_getElem? (i := 16) (by decide +kernel), List.mem_of_getElem? (i := 610) (by decide +kernel), List.mem_of_getElem? (i := 611) (by decide +kernel)⟩
theorem lw_p18 : lw_okq (⟨"SawLine$Saw", "fileIt", "(I)Z"⟩, 4) := ⟨⟨by decide +kernel, by decide +kernel⟩, List.mem_of_getElem? (i := 41) (by decide +kernel), List.mem_of_getElem? (i := 626) (by decide +kernel), List.mem_of_getElem? (i := 627) (by decide +kernel)⟩
theorem lw_p19 : lw_okq (⟨"SawLine$Saw", "bendBy", "(II)Z"⟩, 4) := ⟨⟨by decide +kernel, by decide +kernel⟩, List.mem_of_getElem? (i := 41) (by decide +kernel), List.mem_of_getElem? (i := 631) (by decide +kernel), List.mem_of_getElem? (i := 632) (by decide +kernel)⟩
theorem lw_p20 : lw_okq (⟨"SawLine$Saw", "breakOff", "(I)Z"⟩, 4) := ⟨⟨by decide +kernel, by decide +kernel⟩, List.mem_of_getElem? (i := 41) (by decide +kernel), List.mem_of_getElem? (i := 635) (by decide +kernel), List.mem_of_getElem? (i := 636) (by decide +kernel)⟩
theorem lw_p21 : lw_okq (⟨"SawLine", "seekMending", "(I)V"⟩, 14) := ⟨⟨by decide +kernel, by decide +kernel⟩, List.mem_of_getElem? (i := 16) (by decide +kernel), List.mem_of_getElem? (i := 643) (by decide +kernel), List.mem_of_getElem? (i := 644) (by decide +kernel)⟩
theorem lw_p22 : lw_okq (⟨"SawLine", "goesStraightEnough", "(LSawLine$Saw;I)Z"⟩, 14) := ⟨⟨by decide +kernel, by decide +kernel⟩, List.mem_of_getElem? (i := 16) (by decide +kernel), List.mem_of_getElem? (i := 651) (by decide +kernel), List.mem_of_getElem? (i := 652) (by decide +kernel)⟩
theorem lw_p23 : lw_okq (⟨"SawLine", "seekSecondAct", "(II)V"⟩, 14) := ⟨⟨by decide +kernel, by decide +kernel⟩, List.mem_of_getElem? (i := 16) (by decide +kernel), List.mem_of_getElem? (i := 674) (by decide +kernel), List.mem_of_getElem? (i := 675) (by decide +kernel)⟩
theorem lw_p24 : lw_okq (⟨"SawLine$Slabs", "costThrough", "(II)I"⟩, 3) := ⟨⟨by decide +kernel, by decide +kernel⟩, List.mem_of_getElem? (i := 195) (by decide +kernel), List.mem_of_getElem? (i := 699) (by decide +kernel), List.mem_of_getElem? (i := 700) (by decide +kernel)⟩
theorem lw_p25 : lw_okq (⟨"SawLine$Slabs", "strainLeftOf", "(II)I"⟩, 3) := ⟨⟨by decide +kernel, by decide +kernel⟩, List.mem_of_getElem? (i := 195) (by decide +kernel), List.mem_of_getElem? (i := 703) (by decide +kernel), List.mem_of_getElem? (i := 704) (by decide +kernel)⟩
theorem lw_p26 : lw_okq (⟨"SawLine$Slabs", "strainRightOf", "(II)I"⟩, 3) := ⟨⟨by decide +kernel, by decide +kernel⟩, List.mem_of_getElem? (i := 195) (by decide +kernel), List.mem_of_getElem? (i := 707) (by decide +kernel), List.mem_of_getElem? (i := 708) (by decide +kernel)⟩
theorem lw_p27 : lw_okq (⟨"SawLine$Slabs", "lowestBest", "(I)I"⟩, 3) := ⟨⟨by decide +kernel, by decide +kernel⟩, List.mem_of_getElem? (i := 195) (by decide +kernel), List.mem_of_getElem? (i := 721) (by decide +kernel), List.mem_of_getElem? (i := 722) (by decide +kernel)⟩
theorem lw_p28 : lw_okq (⟨"SawLine", "tellAsHooked", "(I)I"⟩, 14) := ⟨⟨by decide +kernel, by decide +kernel⟩, List.mem_of_getElem? (i := 16) (by decide +kernel), List.mem_of_getElem? (i := 775) (by decide +kernel), List.mem_of_getElem? (i := 776) (by decide +kernel)⟩
theorem lw_p29 : lw_okq (⟨"SawLine", "leaveInTrail", "(I)V"⟩, 14) := ⟨⟨by decide +kernel, by decide +kernel⟩, List.mem_of_getElem? (i := 16) (by decide +kernel), List.mem_of_getElem? (i := 779) (by decide +kernel), List.mem_of_getElem? (i := 780) (by decide +kernel)⟩
theorem lw_p30 : lw_okq (⟨"SawLine", "tellAsBent", "(I)I"⟩, 14) := ⟨⟨by decide +kernel, by decide +kernel⟩, List.mem_of_getElem? (i := 16) (by decide +kernel), List.mem_of_getElem? (i := 783) (by decide +kernel), List.mem_of_getElem? (i := 784) (by decide +kernel)⟩
theorem lw_p31 : lw_okq (⟨"SawLine", "tellAsTooth", "(I)I"⟩, 14) := ⟨⟨by decide +kernel, by decide +kernel⟩, List.mem_of_getElem? (i := 16) (by decide +kernel), List.mem_of_getElem? (i := 787) (by decide +kernel), List.mem_of_getElem? (i := 788) (by decide +kernel)⟩
def lw_privs_2 : List (MethodName × Nat) := [(⟨"SawLine", "fits", "(I)Z"⟩, 14), (⟨"SawLine", "firstOfFewest", "()I"⟩, 14), (⟨"SawLine$Saw", "fileIt", "(I)Z"⟩, 4), (⟨"SawLine$Saw", "bendBy", "(II)Z"⟩, 4), (⟨"SawLine$Saw", "breakOff", "(I)Z"⟩, 4), (⟨"SawLine", "seekMending", "(I)V"⟩, 14), (⟨"SawLine", "goesStraightEnough", "(LSawLine$Saw;I)Z"⟩, 14), (⟨"SawLine", "seekSecondAct", "(II)V"⟩, 14), (⟨"SawLine$Slabs", "costThrough", "(II)I"⟩, 3), (⟨"SawLine$Slabs", "strainLeftOf", "(II)I"⟩, 3), (⟨"SawLine$Slabs", "strainRightOf", "(II)I"⟩, 3), (⟨"SawLine$Slabs", "lowestBest", "(I)I"⟩, 3), (⟨"SawLine", "tellAsHooked", "(I)I"⟩, 14), (⟨"SawLine", "leaveInTrail", "(I)V"⟩, 14), (⟨"SawLine", "tellAsBent", "(I)I"⟩, 14), (⟨"SawLine", "tellAsTooth", "(I)I"⟩, 14)]
theorem lw_r2 : ∀ q ∈ lw_privs_2, lw_okq q := List.forall_mem_cons.mpr ⟨lw_p16, List.forall_mem_cons.mpr ⟨lw_p17, List.forall_mem_cons.mpr ⟨lw_p18, List.forall_mem_cons.mpr ⟨lw_p19, List.forall_mem_cons.mpr ⟨lw_p20, List.forall_mem_cons.mpr ⟨lw_p21, List.forall_mem_cons.mpr ⟨lw_p22, List.forall_mem_cons.mpr ⟨lw_p23, List.forall_mem_cons.mpr ⟨lw_p24, List.forall_mem_cons.mpr ⟨lw_p25, List.forall_mem_cons.mpr ⟨lw_p26, List.forall_mem_cons.mpr ⟨lw_p27, List.forall_mem_cons.mpr ⟨lw_p28, List.forall_mem_cons.mpr ⟨lw_p29, List.forall_mem_cons.mpr ⟨lw_p30, List.forall_mem_cons.mpr ⟨lw_p31, fun _ h => absurd h List.not_mem_nil⟩⟩⟩⟩⟩⟩⟩⟩⟩⟩⟩⟩⟩⟩⟩⟩
theorem lw_p32 : lw_okq (⟨"SawLineModel", "barred", "(IIIJ)I"⟩, 46) := ⟨⟨by decide +kernel, by decide +kernel⟩, List.mem_of_getElem? (i := 811) (by decide +kernel), List.mem_of_getElem? (i := 960) (by decide +kernel), List.mem_of_getElem? (i := 961) (by decide +kernel)⟩
theorem lw_p33 : lw_okq (⟨"SawLineModel", "refused", "(I)I"⟩, 46) := ⟨⟨by decide +kernel, by decide +kernel⟩, List.mem_of_getElem? (i := 811) (by decide +kernel), List.mem_of_getElem? (i := 971) (by decide +kernel), List.mem_of_getElem? (i := 972) (by decide +kernel)⟩
theorem lw_p34 : lw_okq (⟨"SawLineModel", "failed", "(I)I"⟩, 46) := ⟨⟨by decide +kernel, by decide +kernel⟩, List.mem_of_getElem? (i := 811) (by decide +kernel), List.mem_of_getElem? (i := 976) (by decide +kernel), List.mem_of_getElem? (i := 977) (by decide +kernel)⟩
theorem lw_p35 : lw_okq (⟨"SawLineModel", "readsSaw", "(II)Z"⟩, 46) := ⟨⟨by decide +kernel, by decide +kernel⟩, List.mem_of_getElem? (i := 811) (by decide +kernel), List.mem_of_getElem? (i := 983) (by decide +kernel), List.mem_of_getElem? (i := 984) (by decide +kernel)⟩
theorem lw_p36 : lw_okq (⟨"SawLineModel", "readsFigures", "(III)Z"⟩, 46) := ⟨⟨by decide +kernel, by decide +kernel⟩, List.mem_of_getElem? (i := 811) (by decide +kernel), List.mem_of_getElem? (i := 990) (by decide +kernel), List.mem_of_getElem? (i := 991) (by decide +kernel)⟩
theorem lw_p37 : lw_okq (⟨"SawLineModel", "noTooth", "(I)Z"⟩, 46) := ⟨⟨by decide +kernel, by decide +kernel⟩, List.mem_of_getElem? (i := 811) (by decide +kernel), List.mem_of_getElem? (i := 999) (by decide +kernel), List.mem_of_getElem? (i := 1000) (by decide +kernel)⟩
theorem lw_p38 : lw_okq (⟨"SawLineModel", "takesOf", "(I)I"⟩, 46) := ⟨⟨by decide +kernel, by decide +kernel⟩, List.mem_of_getElem? (i := 811) (by decide +kernel), List.mem_of_getElem? (i := 1003) (by decide +kernel), List.mem_of_getElem? (i := 1004) (by decide +kernel)⟩
theorem lw_p39 : lw_okq (⟨"SawLineModel", "pushOf", "(I)I"⟩, 46) := ⟨⟨by decide +kernel, by decide +kernel⟩, List.mem_of_getElem? (i := 811) (by decide +kernel), List.mem_of_getElem? (i := 1007) (by decide +kernel), List.mem_of_getElem? (i := 1008) (by decide +kernel)⟩
theorem lw_p40 : lw_okq (⟨"SawLineModel", "change", "(III)I"⟩, 46) := ⟨⟨by decide +kernel, by decide +kernel⟩, List.mem_of_getElem? (i := 811) (by decide +kernel), List.mem_of_getElem? (i := 1015) (by decide +kernel), List.mem_of_getElem? (i := 1016) (by decide +kernel)⟩
theorem lw_p41 : lw_okq (⟨"SawLineModel", "pushNow", "()I"⟩, 46) := ⟨⟨by decide +kernel, by decide +kernel⟩, List.mem_of_getElem? (i := 811) (by decide +kernel), List.mem_of_getElem? (i := 1023) (by decide +kernel), List.mem_of_getElem? (i := 1024) (by decide +kernel)⟩
theorem lw_p42 : lw_okq (⟨"SawLineModel", "kerfNow", "()I"⟩, 46) := ⟨⟨by decide +kernel, by decide +kernel⟩, List.mem_of_getElem? (i := 811) (by decide +kernel), List.mem_of_getElem? (i := 1027) (by decide +kernel), List.mem_of_getElem? (i := 1028) (by decide +kernel)⟩
theorem lw_p43 : lw_okq (⟨"SawLineModel", "readsBoard", "(II)Z"⟩, 46) := ⟨⟨by decide +kernel, by decide +kernel⟩, List.mem_of_getElem? (i := 811) (by decide +kernel), List.mem_of_getElem? (i := 1038) (by decide +kernel), List.mem_of_getElem? (i := 1039) (by decide +kernel)⟩
theorem lw_p44 : lw_okq (⟨"SawLineModel", "noLine", "(I)Z"⟩, 46) := ⟨⟨by decide +kernel, by decide +kernel⟩, List.mem_of_getElem? (i := 811) (by decide +kernel), List.mem_of_getElem? (i := 1047) (by decide +kernel), List.mem_of_getElem? (i := 1048) (by decide +kernel)⟩
theorem lw_p45 : lw_okq (⟨"SawLineModel", "isUncut", "(I)Z"⟩, 46) := ⟨⟨by decide +kernel, by decide +kernel⟩, List.mem_of_getElem? (i := 811) (by decide +kernel), List.mem_of_getElem? (i := 1070) (by decide +kernel), List.mem_of_getElem? (i := 1071) (by decide +kernel)⟩
theorem lw_p46 : lw_okq (⟨"SawLineModel", "cut", "()V"⟩, 46) := ⟨⟨by decide +kernel, by decide +kernel⟩, List.mem_of_getElem? (i := 811) (by decide +kernel), List.mem_of_getElem? (i := 1074) (by decide +kernel), List.mem_of_getElem? (i := 1075) (by decide +kernel)⟩
theorem lw_p47 : lw_okq (⟨"SawLineModel", "isBare", "()Z"⟩, 46) := ⟨⟨by decide +kernel, by decide +kernel⟩, List.mem_of_getElem? (i := 811) (by decide +kernel), List.mem_of_getElem? (i := 1093) (by decide +kernel), List.mem_of_getElem? (i := 1094) (by decide +kernel)⟩
def lw_privs_3 : List (MethodName × Nat) := [(⟨"SawLineModel", "barred", "(IIIJ)I"⟩, 46), (⟨"SawLineModel", "refused", "(I)I"⟩, 46), (⟨"SawLineModel", "failed", "(I)I"⟩, 46), (⟨"SawLineModel", "readsSaw", "(II)Z"⟩, 46), (⟨"SawLineModel", "readsFigures", "(III)Z"⟩, 46), (⟨"SawLineModel", "noTooth", "(I)Z"⟩, 46), (⟨"SawLineModel", "takesOf", "(I)I"⟩, 46), (⟨"SawLineModel", "pushOf", "(I)I"⟩, 46), (⟨"SawLineModel", "change", "(III)I"⟩, 46), (⟨"SawLineModel", "pushNow", "()I"⟩, 46), (⟨"SawLineModel", "kerfNow", "()I"⟩, 46), (⟨"SawLineModel", "readsBoard", "(II)Z"⟩, 46), (⟨"SawLineModel", "noLine", "(I)Z"⟩, 46), (⟨"SawLineModel", "isUncut", "(I)Z"⟩, 46), (⟨"SawLineModel", "cut", "()V"⟩, 46), (⟨"SawLineModel", "isBare", "()Z"⟩, 46)]
theorem lw_r3 : ∀ q ∈ lw_privs_3, lw_okq q := List.forall_mem_cons.mpr ⟨lw_p32, List.forall_mem_cons.mpr ⟨lw_p33, List.forall_mem_cons.mpr ⟨lw_p34, List.forall_mem_cons.mpr ⟨lw_p35, List.forall_mem_cons.mpr ⟨lw_p36, List.forall_mem_cons.mpr ⟨lw_p37, List.forall_mem_cons.mpr ⟨lw_p38, List.forall_mem_cons.mpr ⟨lw_p39, List.forall_mem_cons.mpr ⟨lw_p40, List.forall_mem_cons.mpr ⟨lw_p41, List.forall_mem_cons.mpr ⟨lw_p42, List.forall_mem_cons.mpr ⟨lw_p43, List.forall_mem_cons.mpr ⟨lw_p44, List.forall_mem_cons.mpr ⟨lw_p45, List.forall_mem_cons.mpr ⟨lw_p46, List.forall_mem_cons.mpr ⟨lw_p47, fun _ h => absurd h List.not_mem_nil⟩⟩⟩⟩⟩⟩⟩⟩⟩⟩⟩⟩⟩⟩⟩⟩
theorem lw_p48 : lw_okq (⟨"SawLineModel", "markOf", "(II)I"⟩, 46) := ⟨⟨by decide +kernel, by decide +kernel⟩, List.mem_of_getElem? (i := 811) (by decide +kernel), List.mem_of_getElem? (i := 1105) (by decide +kernel), List.mem_of_getElem? (i := 1106) (by decide +kernel)⟩
theorem lw_p49 : lw_okq (⟨"SawLineModel", "noFlaw", "(I)Z"⟩, 46) := ⟨⟨by decide +kernel, by decide +kernel⟩, List.mem_of_getElem? (i := 811) (by decide +kernel), List.mem_of_getElem? (i := 1125) (by decide +kernel), List.mem_of_getElem? (i := 1126) (by decide +kernel)⟩
theorem lw_p50 : lw_okq (⟨"SawLineModel", "layLikely", "()V"⟩, 46) := ⟨⟨by decide +kernel, by decide +kernel⟩, List.mem_of_getElem? (i := 811) (by decide +kernel), List.mem_of_getElem? (i := 1141) (by decide +kernel), List.mem_of_getElem? (i := 1142) (by decide +kernel)⟩
theorem lw_p51 : lw_okq (⟨"SawLineModel", "doFit", "(II)Z"⟩, 46) := ⟨⟨by decide +kernel, by decide +kernel⟩, List.mem_of_getElem? (i := 811) (by decide +kernel), List.mem_of_getElem? (i := 1145) (by decide +kernel), List.mem_of_getElem? (i := 1146) (by decide +kernel)⟩
theorem lw_p52 : lw_okq (⟨"SawLineModel", "doesFit", "()Z"⟩, 46) := ⟨⟨by decide +kernel, by decide +kernel⟩, List.mem_of_getElem? (i := 811) (by decide +kernel), List.mem_of_getElem? (i := 1149) (by decide +kernel), List.mem_of_getElem? (i := 1150) (by decide +kernel)⟩
theorem lw_p53 : lw_okq (⟨"SawLineModel", "mayBe", "(II)Z"⟩, 46) := ⟨⟨by decide +kernel, by decide +kernel⟩, List.mem_of_getElem? (i := 811) (by decide +kernel), List.mem_of_getElem? (i := 1161) (by decide +kernel), List.mem_of_getElem? (i := 1162) (by decide +kernel)⟩
theorem lw_p54 : lw_okq (⟨"SawLineModel", "doAct", "(II)V"⟩, 46) := ⟨⟨by decide +kernel, by decide +kernel⟩, List.mem_of_getElem? (i := 811) (by decide +kernel), List.mem_of_getElem? (i := 1165) (by decide +kernel), List.mem_of_getElem? (i := 1166) (by decide +kernel)⟩
theorem lw_p55 : lw_okq (⟨"SawLineModel", "layMend", "(I)V"⟩, 46) := ⟨⟨by decide +kernel, by decide +kernel⟩, List.mem_of_getElem? (i := 811) (by decide +kernel), List.mem_of_getElem? (i := 1175) (by decide +kernel), List.mem_of_getElem? (i := 1176) (by decide +kernel)⟩
theorem lw_p56 : lw_okq (⟨"SawLineModel", "look", "(IIIII)V"⟩, 46) := ⟨⟨by decide +kernel, by decide +kernel⟩, List.mem_of_getElem? (i := 811) (by decide +kernel), List.mem_of_getElem? (i := 1179) (by decide +kernel), List.mem_of_getElem? (i := 1180) (by decide +kernel)⟩
theorem lw_p57 : lw_okq (⟨"SawLineModel", "keep", "(II)V"⟩, 46) := ⟨⟨by decide +kernel, by decide +kernel⟩, List.mem_of_getElem? (i := 811) (by decide +kernel), List.mem_of_getElem? (i := 1183) (by decide +kernel), List.mem_of_getElem? (i := 1184) (by decide +kernel)⟩
theorem lw_p58 : lw_okq (⟨"SawLineModel", "lookFurther", "(III)V"⟩, 46) := ⟨⟨by decide +kernel, by decide +kernel⟩, List.mem_of_getElem? (i := 811) (by decide +kernel), List.mem_of_getElem? (i := 1190) (by decide +kernel), List.mem_of_getElem? (i := 1191) (by decide +kernel)⟩
theorem lw_p59 : lw_okq (⟨"SawLineModel", "putBack", "(II)V"⟩, 46) := ⟨⟨by decide +kernel, by decide +kernel⟩, List.mem_of_getElem? (i := 811) (by decide +kernel), List.mem_of_getElem? (i := 1194) (by decide +kernel), List.mem_of_getElem? (i := 1195) (by decide +kernel)⟩
theorem lw_p60 : lw_okq (⟨"SawLineModel", "costOfOrder", "(II)I"⟩, 46) := ⟨⟨by decide +kernel, by decide +kernel⟩, List.mem_of_getElem? (i := 811) (by decide +kernel), List.mem_of_getElem? (i := 1204) (by decide +kernel), List.mem_of_getElem? (i := 1205) (by decide +kernel)⟩
theorem lw_p61 : lw_okq (⟨"SawLineModel", "noCell", "(II)I"⟩, 46) := ⟨⟨by decide +kernel, by decide +kernel⟩, List.mem_of_getElem? (i := 811) (by decide +kernel), List.mem_of_getElem? (i := 1223) (by decide +kernel), List.mem_of_getElem? (i := 1224) (by decide +kernel)⟩
theorem lw_p62 : lw_okq (⟨"SawLineModel", "failedLong", "(I)J"⟩, 46) := ⟨⟨by decide +kernel, by decide +kernel⟩, List.mem_of_getElem? (i := 811) (by decide +kernel), List.mem_of_getElem? (i := 1231) (by decide +kernel), List.mem_of_getElem? (i := 1232) (by decide +kernel)⟩
theorem lw_p63 : lw_okq (⟨"SawLineModel", "traced", "(I)V"⟩, 46) := ⟨⟨by decide +kernel, by decide +kernel⟩, List.mem_of_getElem? (i := 811) (by decide +kernel), List.mem_of_getElem? (i := 1243) (by decide +kernel), List.mem_of_getElem? (i := 1244) (by decide +kernel)⟩
def lw_privs_4 : List (MethodName × Nat) := [(⟨"SawLineModel", "markOf", "(II)I"⟩, 46), (⟨"SawLineModel", "noFlaw", "(I)Z"⟩, 46), (⟨"SawLineModel", "layLikely", "()V"⟩, 46), (⟨"SawLineModel", "doFit", "(II)Z"⟩, 46), (⟨"SawLineModel", "doesFit", "()Z"⟩, 46), (⟨"SawLineModel", "mayBe", "(II)Z"⟩, 46), (⟨"SawLineModel", "doAct", "(II)V"⟩, 46), (⟨"SawLineModel", "layMend", "(I)V"⟩, 46), (⟨"SawLineModel", "look", "(IIIII)V"⟩, 46), (⟨"SawLineModel", "keep", "(II)V"⟩, 46), (⟨"SawLineModel", "lookFurther", "(III)V"⟩, 46), (⟨"SawLineModel", "putBack", "(II)V"⟩, 46), (⟨"SawLineModel", "costOfOrder", "(II)I"⟩, 46), (⟨"SawLineModel", "noCell", "(II)I"⟩, 46), (⟨"SawLineModel", "failedLong", "(I)J"⟩, 46), (⟨"SawLineModel", "traced", "(I)V"⟩, 46)]
theorem lw_r4 : ∀ q ∈ lw_privs_4, lw_okq q := List.forall_mem_cons.mpr ⟨lw_p48, List.forall_mem_cons.mpr ⟨lw_p49, List.forall_mem_cons.mpr ⟨lw_p50, List.forall_mem_cons.mpr ⟨lw_p51, List.forall_mem_cons.mpr ⟨lw_p52, List.forall_mem_cons.mpr ⟨lw_p53, List.forall_mem_cons.mpr ⟨lw_p54, List.forall_mem_cons.mpr ⟨lw_p55, List.forall_mem_cons.mpr ⟨lw_p56, List.forall_mem_cons.mpr ⟨lw_p57, List.forall_mem_cons.mpr ⟨lw_p58, List.forall_mem_cons.mpr ⟨lw_p59, List.forall_mem_cons.mpr ⟨lw_p60, List.forall_mem_cons.mpr ⟨lw_p61, List.forall_mem_cons.mpr ⟨lw_p62, List.forall_mem_cons.mpr ⟨lw_p63, fun _ h => absurd h List.not_mem_nil⟩⟩⟩⟩⟩⟩⟩⟩⟩⟩⟩⟩⟩⟩⟩⟩
def lw_privs : List (MethodName × Nat) := lw_privs_1 ++ (lw_privs_2 ++ (lw_privs_3 ++ (lw_privs_4)))
def lw_tbl : List Cond := k2_sels lw_privs ++ tables_1
theorem lw_privs_ok : ∀ q ∈ lw_privs, lw_okq q := by
  show ∀ q ∈ lw_privs_1 ++ (lw_privs_2 ++ (lw_privs_3 ++ (lw_privs_4))), lw_okq q
  exact List.forall_mem_append.mpr ⟨lw_r1, List.forall_mem_append.mpr ⟨lw_r2, List.forall_mem_append.mpr ⟨lw_r3, lw_r4⟩⟩⟩
end
section
def RX0 : String := "SawLine$Board"
def TX0 : u_T := fun k => match k with
  | 0 => ("SawLine$Board", "count", "I", false)
  | 1 => ("SawLine$Board", "hard", "[I", true)
  | 2 => ("SawLine$Board", "grain", "[I", true)
  | _ => ("SawLine$Board", "closes", "[I", true)
def tyX0 : Nat → FieldType := fun k => match k with
  | 0 => .int
  | 1 => .array .int
  | 2 => .array .int
  | _ => .array .int
abbrev wsX00 : List Cond := u_ws RX0 TX0 4
theorem nmX0 : ∀ a, a < 4 → ∀ b, b < 4 → a ≠ b → (TX0 a).2.1 ≠ (TX0 b).2.1 := by decide +kernel
theorem tyX0_ok : ∀ k, k < 4 → parseFieldDescriptor (TX0 k).2.2.1 = some (tyX0 k) := by decide +kernel
abbrev cX0_init : ByteArray := prog_2_method_1_code
def yX0_init : MethodName := ⟨RX0, "<init>", "()V"⟩
abbrev cX0_has : ByteArray := prog_2_method_2_code
def yX0_has : MethodName := ⟨RX0, "has", "(I)Z"⟩
abbrev cX0_hardOf : ByteArray := prog_2_method_3_code
def yX0_hardOf : MethodName := ⟨RX0, "hardOf", "(I)I"⟩
abbrev cX0_grainOf : ByteArray := prog_2_method_4_code
def yX0_grainOf : MethodName := ⟨RX0, "grainOf", "(I)I"⟩
abbrev cX0_closesOf : ByteArray := prog_2_method_5_code
def yX0_closesOf : MethodName := ⟨RX0, "closesOf", "(I)I"⟩
abbrev cX0_firstFault : ByteArray := prog_2_method_6_code
def yX0_firstFault : MethodName := ⟨RX0, "firstFault", "(LSawLine$Sheets;III)I"⟩
abbrev cX0_goesOnWith : ByteArray := prog_2_method_7_code
def yX0_goesOnWith : MethodName := ⟨RX0, "goesOnWith", "(II)Z"⟩
abbrev cX0_read : ByteArray := prog_2_method_8_code
def yX0_read : MethodName := ⟨RX0, "read", "(LSawLine$Sheets;III)V"⟩
def RX1 : String := "SawLine$Cut"
def TX1 : u_T := fun k => match k with
  | 0 => ("SawLine$Cut", "strokes", "I", false)
  | 1 => ("SawLine$Cut", "pinchedAt", "I", false)
  | 2 => ("SawLine$Cut", "farthest", "I", false)
  | 3 => ("SawLine$Cut", "places", "[I", true)
  | _ => ("SawLine$Cut", "headings", "[I", true)
def tyX1 : Nat → FieldType := fun k => match k with
  | 0 => .int
  | 1 => .int
  | 2 => .int
  | 3 => .array .int
  | _ => .array .int
abbrev wsX10 : List Cond := u_ws RX1 TX1 5
theorem nmX1 : ∀ a, a < 5 → ∀ b, b < 5 → a ≠ b → (TX1 a).2.1 ≠ (TX1 b).2.1 := by decide +kernel
theorem tyX1_ok : ∀ k, k < 5 → parseFieldDescriptor (TX1 k).2.2.1 = some (tyX1 k) := by decide +kernel
abbrev cX1_init : ByteArray := prog_3_method_1_code
def yX1_init : MethodName := ⟨RX1, "<init>", "()V"⟩
abbrev cX1_placeBehind : ByteArray := prog_3_method_2_code
def yX1_placeBehind : MethodName := ⟨RX1, "placeBehind", "(I)I"⟩
abbrev cX1_headingBehind : ByteArray := prog_3_method_3_code
def yX1_headingBehind : MethodName := ⟨RX1, "headingBehind", "(I)I"⟩
abbrev cX1_go : ByteArray := prog_3_method_4_code
def yX1_go : MethodName := ⟨RX1, "go", "(LSawLine$Saw;LSawLine$Board;LSawLine$Hand;)V"⟩
abbrev cX1_stroke : ByteArray := prog_3_method_5_code
def yX1_stroke : MethodName := ⟨RX1, "stroke", "(II)V"⟩
def RX2 : String := "SawLine$Flaws"
def TX2 : u_T := fun k => match k with
  | 0 => ("SawLine$Flaws", "count", "I", false)
  | 1 => ("SawLine$Flaws", "tooth", "[I", true)
  | 2 => ("SawLine$Flaws", "what", "[I", true)
  | _ => ("SawLine$Flaws", "value", "[I", true)
def tyX2 : Nat → FieldType := fun k => match k with
  | 0 => .int
  | 1 => .array .int
  | 2 => .array .int
  | _ => .array .int
abbrev wsX20 : List Cond := u_ws RX2 TX2 4
theorem nmX2 : ∀ a, a < 4 → ∀ b, b < 4 → a ≠ b → (TX2 a).2.1 ≠ (TX2 b).2.1 := by decide +kernel
theorem tyX2_ok : ∀ k, k < 4 → parseFieldDescriptor (TX2 k).2.2.1 = some (tyX2 k) := by decide +kernel
abbrev cX2_init : ByteArray := prog_4_method_1_code
def yX2_init : MethodName := ⟨RX2, "<init>", "()V"⟩
abbrev cX2_has : ByteArray := prog_4_method_2_code
def yX2_has : MethodName := ⟨RX2, "has", "(I)Z"⟩
abbrev cX2_toothOf : ByteArray := prog_4_method_3_code
def yX2_toothOf : MethodName := ⟨RX2, "toothOf", "(I)I"⟩
abbrev cX2_whatOf : ByteArray := prog_4_method_4_code
def yX2_whatOf : MethodName := ⟨RX2, "whatOf", "(I)I"⟩
abbrev cX2_valueOf : ByteArray := prog_4_method_5_code
def yX2_valueOf : MethodName := ⟨RX2, "valueOf", "(I)I"⟩
abbrev cX2_add : ByteArray := prog_4_method_6_code
def yX2_add : MethodName := ⟨RX2, "add", "(III)I"⟩
abbrev cX2_applyTo : ByteArray := prog_4_method_7_code
def yX2_applyTo : MethodName := ⟨RX2, "applyTo", "(LSawLine$Saw;I)V"⟩
def RX3 : String := "SawLine$Hand"
def TX3 : u_T := fun k => match k with
  | 0 => ("SawLine$Hand", "lean", "I", false)
  | 1 => ("SawLine$Hand", "steers", "I", false)
  | 2 => ("SawLine$Hand", "late", "I", false)
  | _ => ("SawLine$Hand", "rail", "I", false)
def tyX3 : Nat → FieldType := fun k => match k with
  | 0 => .int
  | 1 => .int
  | 2 => .int
  | _ => .int
abbrev wsX30 : List Cond := u_ws RX3 TX3 4
theorem nmX3 : ∀ a, a < 4 → ∀ b, b < 4 → a ≠ b → (TX3 a).2.1 ≠ (TX3 b).2.1 := by decide +kernel
theorem tyX3_ok : ∀ k, k < 4 → parseFieldDescriptor (TX3 k).2.2.1 = some (tyX3 k) := by decide +kernel
abbrev cX3_init : ByteArray := prog_5_method_1_code
def yX3_init : MethodName := ⟨RX3, "<init>", "()V"⟩
abbrev cX3_become : ByteArray := prog_5_method_2_code
def yX3_become : MethodName := ⟨RX3, "become", "(LSawLine$Hand;)V"⟩
def RX4 : String := "SawLine$Mending"
def TX4 : u_T := fun k => match k with
  | 0 => ("SawLine$Mending", "length", "I", false)
  | 1 => ("SawLine$Mending", "cost", "I", false)
  | 2 => ("SawLine$Mending", "first", "I", false)
  | _ => ("SawLine$Mending", "second", "I", false)
def tyX4 : Nat → FieldType := fun k => match k with
  | 0 => .int
  | 1 => .int
  | 2 => .int
  | _ => .int
abbrev wsX40 : List Cond := u_ws RX4 TX4 4
theorem nmX4 : ∀ a, a < 4 → ∀ b, b < 4 → a ≠ b → (TX4 a).2.1 ≠ (TX4 b).2.1 := by decide +kernel
theorem tyX4_ok : ∀ k, k < 4 → parseFieldDescriptor (TX4 k).2.2.1 = some (tyX4 k) := by decide +kernel
abbrev cX4_init : ByteArray := prog_6_method_1_code
def yX4_init : MethodName := ⟨RX4, "<init>", "()V"⟩
abbrev cX4_costOf : ByteArray := prog_6_method_2_code
def yX4_costOf : MethodName := ⟨RX4, "costOf", "(I)I"⟩
abbrev cX4_toldNumber : ByteArray := prog_6_method_3_code
def yX4_toldNumber : MethodName := ⟨RX4, "toldNumber", "(I)I"⟩
abbrev cX4_forget : ByteArray := prog_6_method_4_code
def yX4_forget : MethodName := ⟨RX4, "forget", "()V"⟩
abbrev cX4_isCheaper : ByteArray := prog_6_method_5_code
def yX4_isCheaper : MethodName := ⟨RX4, "isCheaper", "(I)Z"⟩
abbrev cX4_keepNoAct : ByteArray := prog_6_method_6_code
def yX4_keepNoAct : MethodName := ⟨RX4, "keepNoAct", "()V"⟩
abbrev cX4_keepOneAct : ByteArray := prog_6_method_7_code
def yX4_keepOneAct : MethodName := ⟨RX4, "keepOneAct", "(I)V"⟩
abbrev cX4_keepTwoActs : ByteArray := prog_6_method_8_code
def yX4_keepTwoActs : MethodName := ⟨RX4, "keepTwoActs", "(II)V"⟩
def RX5 : String := "SawLine$Readings"
def TX5 : u_T := fun k => match k with
  | 0 => ("SawLine$Readings", "count", "I", false)
  | 1 => ("SawLine$Readings", "lines", "[I", true)
  | _ => ("SawLine$Readings", "places", "[I", true)
def tyX5 : Nat → FieldType := fun k => match k with
  | 0 => .int
  | 1 => .array .int
  | _ => .array .int
abbrev wsX50 : List Cond := u_ws RX5 TX5 3
theorem nmX5 : ∀ a, a < 3 → ∀ b, b < 3 → a ≠ b → (TX5 a).2.1 ≠ (TX5 b).2.1 := by decide +kernel
theorem tyX5_ok : ∀ k, k < 3 → parseFieldDescriptor (TX5 k).2.2.1 = some (tyX5 k) := by decide +kernel
abbrev cX5_init : ByteArray := prog_7_method_1_code
def yX5_init : MethodName := ⟨RX5, "<init>", "()V"⟩
abbrev cX5_add : ByteArray := prog_7_method_2_code
def yX5_add : MethodName := ⟨RX5, "add", "(II)I"⟩
abbrev cX5_areSo : ByteArray := prog_7_method_3_code
def yX5_areSo : MethodName := ⟨RX5, "areSo", "(LSawLine$Cut;)Z"⟩
def RX6 : String := "SawLine$Saw"
def TX6 : u_T := fun k => match k with
  | 0 => ("SawLine$Saw", "count", "I", false)
  | 1 => ("SawLine$Saw", "kinds", "[I", true)
  | 2 => ("SawLine$Saw", "sides", "[I", true)
  | _ => ("SawLine$Saw", "sizes", "[I", true)
def tyX6 : Nat → FieldType := fun k => match k with
  | 0 => .int
  | 1 => .array .int
  | 2 => .array .int
  | _ => .array .int
abbrev wsX60 : List Cond := u_ws RX6 TX6 4
theorem nmX6 : ∀ a, a < 4 → ∀ b, b < 4 → a ≠ b → (TX6 a).2.1 ≠ (TX6 b).2.1 := by decide +kernel
theorem tyX6_ok : ∀ k, k < 4 → parseFieldDescriptor (TX6 k).2.2.1 = some (tyX6 k) := by decide +kernel
abbrev cX6_init : ByteArray := prog_8_method_1_code
def yX6_init : MethodName := ⟨RX6, "<init>", "()V"⟩
abbrev cX6_isSize : ByteArray := prog_8_method_2_code
def yX6_isSize : MethodName := ⟨RX6, "isSize", "(I)Z"⟩
abbrev cX6_has : ByteArray := prog_8_method_3_code
def yX6_has : MethodName := ⟨RX6, "has", "(I)Z"⟩
abbrev cX6_kindOf : ByteArray := prog_8_method_4_code
def yX6_kindOf : MethodName := ⟨RX6, "kindOf", "(I)I"⟩
abbrev cX6_sideOf : ByteArray := prog_8_method_5_code
def yX6_sideOf : MethodName := ⟨RX6, "sideOf", "(I)I"⟩
abbrev cX6_sizeOf : ByteArray := prog_8_method_6_code
def yX6_sizeOf : MethodName := ⟨RX6, "sizeOf", "(II)I"⟩
abbrev cX6_change : ByteArray := prog_8_method_7_code
def yX6_change : MethodName := ⟨RX6, "change", "(III)V"⟩
abbrev cX6_become : ByteArray := prog_8_method_8_code
def yX6_become : MethodName := ⟨RX6, "become", "(LSawLine$Saw;)V"⟩
abbrev cX6_read : ByteArray := prog_8_method_9_code
def yX6_read : MethodName := ⟨RX6, "read", "(LSawLine$Sheets;III)I"⟩
abbrev cX6_readCode : ByteArray := prog_8_method_10_code
def yX6_readCode : MethodName := ⟨RX6, "readCode", "(II)I"⟩
abbrev cX6_beginTooth : ByteArray := prog_8_method_11_code
def yX6_beginTooth : MethodName := ⟨RX6, "beginTooth", "(I)Z"⟩
abbrev cX6_takes : ByteArray := prog_8_method_12_code
def yX6_takes : MethodName := ⟨RX6, "takes", "(I)I"⟩
abbrev cX6_leaning : ByteArray := prog_8_method_13_code
def yX6_leaning : MethodName := ⟨RX6, "leaning", "(I)I"⟩
abbrev cX6_pushes : ByteArray := prog_8_method_14_code
def yX6_pushes : MethodName := ⟨RX6, "pushes", "(I)I"⟩
abbrev cX6_push : ByteArray := prog_8_method_15_code
def yX6_push : MethodName := ⟨RX6, "push", "()I"⟩
abbrev cX6_taken : ByteArray := prog_8_method_16_code
def yX6_taken : MethodName := ⟨RX6, "taken", "()I"⟩
abbrev cX6_kerf : ByteArray := prog_8_method_17_code
def yX6_kerf : MethodName := ⟨RX6, "kerf", "()I"⟩
abbrev cX6_countMarks : ByteArray := prog_8_method_18_code
def yX6_countMarks : MethodName := ⟨RX6, "countMarks", "()I"⟩
abbrev cX6_isMarkedAhead : ByteArray := prog_8_method_19_code
def yX6_isMarkedAhead : MethodName := ⟨RX6, "isMarkedAhead", "(I)Z"⟩
abbrev cX6_whichLeave : ByteArray := prog_8_method_20_code
def yX6_whichLeave : MethodName := ⟨RX6, "whichLeave", "(II)I"⟩
abbrev cX6_mendBy : ByteArray := prog_8_method_21_code
def yX6_mendBy : MethodName := ⟨RX6, "mendBy", "(II)Z"⟩
abbrev cX6_fileIt : ByteArray := prog_8_method_22_code
def yX6_fileIt : MethodName := ⟨RX6, "fileIt", "(I)Z"⟩
abbrev cX6_bendBy : ByteArray := prog_8_method_23_code
def yX6_bendBy : MethodName := ⟨RX6, "bendBy", "(II)Z"⟩
abbrev cX6_breakOff : ByteArray := prog_8_method_24_code
def yX6_breakOff : MethodName := ⟨RX6, "breakOff", "(I)Z"⟩
def RX7 : String := "SawLine$Sheets"
def TX7 : u_T := fun k => match k with
  | 0 => ("SawLine$Sheets", "lanes", "[I", true)
  | 1 => ("SawLine$Sheets", "sizes", "[I", true)
  | _ => ("SawLine$Sheets", "cells", "[I", true)
def tyX7 : Nat → FieldType := fun k => match k with
  | 0 => .array .int
  | 1 => .array .int
  | _ => .array .int
abbrev wsX70 : List Cond := u_ws RX7 TX7 3
theorem nmX7 : ∀ a, a < 3 → ∀ b, b < 3 → a ≠ b → (TX7 a).2.1 ≠ (TX7 b).2.1 := by decide +kernel
theorem tyX7_ok : ∀ k, k < 3 → parseFieldDescriptor (TX7 k).2.2.1 = some (tyX7 k) := by decide +kernel
abbrev cX7_init : ByteArray := prog_9_method_1_code
def yX7_init : MethodName := ⟨RX7, "<init>", "()V"⟩
abbrev cX7_isSheet : ByteArray := prog_9_method_2_code
def yX7_isSheet : MethodName := ⟨RX7, "isSheet", "(I)Z"⟩
abbrev cX7_isLane : ByteArray := prog_9_method_3_code
def yX7_isLane : MethodName := ⟨RX7, "isLane", "(I)Z"⟩
abbrev cX7_isNothing : ByteArray := prog_9_method_4_code
def yX7_isNothing : MethodName := ⟨RX7, "isNothing", "(I)Z"⟩
abbrev cX7_areOfOneLane : ByteArray := prog_9_method_5_code
def yX7_areOfOneLane : MethodName := ⟨RX7, "areOfOneLane", "(II)Z"⟩
abbrev cX7_hasCell : ByteArray := prog_9_method_6_code
def yX7_hasCell : MethodName := ⟨RX7, "hasCell", "(II)Z"⟩
abbrev cX7_hasCells : ByteArray := prog_9_method_7_code
def yX7_hasCells : MethodName := ⟨RX7, "hasCells", "(III)Z"⟩
abbrev cX7_faultOfRow : ByteArray := prog_9_method_8_code
def yX7_faultOfRow : MethodName := ⟨RX7, "faultOfRow", "(II)I"⟩
abbrev cX7_at : ByteArray := prog_9_method_9_code
def yX7_at : MethodName := ⟨RX7, "at", "(II)I"⟩
abbrev cX7_renew : ByteArray := prog_9_method_10_code
def yX7_renew : MethodName := ⟨RX7, "renew", "(III)V"⟩
abbrev cX7_drop : ByteArray := prog_9_method_11_code
def yX7_drop : MethodName := ⟨RX7, "drop", "(I)Z"⟩
abbrev cX7_write : ByteArray := prog_9_method_12_code
def yX7_write : MethodName := ⟨RX7, "write", "(III)V"⟩
abbrev cX7_carry : ByteArray := prog_9_method_13_code
def yX7_carry : MethodName := ⟨RX7, "carry", "(IIIII)V"⟩
def RX8 : String := "SawLine$Slabs"
def TX8 : u_T := fun k => match k with
  | 0 => ("SawLine$Slabs", "cuts", "I", false)
  | 1 => ("SawLine$Slabs", "strains", "[I", true)
  | _ => ("SawLine$Slabs", "leastFrom", "[I", true)
def tyX8 : Nat → FieldType := fun k => match k with
  | 0 => .int
  | 1 => .array .int
  | _ => .array .int
abbrev wsX80 : List Cond := u_ws RX8 TX8 3
theorem nmX8 : ∀ a, a < 3 → ∀ b, b < 3 → a ≠ b → (TX8 a).2.1 ≠ (TX8 b).2.1 := by decide +kernel
theorem tyX8_ok : ∀ k, k < 3 → parseFieldDescriptor (TX8 k).2.2.1 = some (tyX8 k) := by decide +kernel
abbrev cX8_init : ByteArray := prog_10_method_1_code
def yX8_init : MethodName := ⟨RX8, "<init>", "()V"⟩
abbrev cX8_read : ByteArray := prog_10_method_2_code
def yX8_read : MethodName := ⟨RX8, "read", "(LSawLine$Sheets;III)Z"⟩
abbrev cX8_weighOrders : ByteArray := prog_10_method_3_code
def yX8_weighOrders : MethodName := ⟨RX8, "weighOrders", "()V"⟩
abbrev cX8_leastCost : ByteArray := prog_10_method_4_code
def yX8_leastCost : MethodName := ⟨RX8, "leastCost", "()I"⟩
abbrev cX8_cutOfOrder : ByteArray := prog_10_method_5_code
def yX8_cutOfOrder : MethodName := ⟨RX8, "cutOfOrder", "(I)I"⟩
abbrev cX8_lowestBest : ByteArray := prog_10_method_6_code
def yX8_lowestBest : MethodName := ⟨RX8, "lowestBest", "(I)I"⟩
abbrev cX8_isOpen : ByteArray := prog_10_method_7_code
def yX8_isOpen : MethodName := ⟨RX8, "isOpen", "(II)Z"⟩
abbrev cX8_costThrough : ByteArray := prog_10_method_8_code
def yX8_costThrough : MethodName := ⟨RX8, "costThrough", "(II)I"⟩
abbrev cX8_strainLeftOf : ByteArray := prog_10_method_9_code
def yX8_strainLeftOf : MethodName := ⟨RX8, "strainLeftOf", "(II)I"⟩
abbrev cX8_strainRightOf : ByteArray := prog_10_method_10_code
def yX8_strainRightOf : MethodName := ⟨RX8, "strainRightOf", "(II)I"⟩
def RX9 : String := "SawLine"
def TX9 : u_T := fun k => match k with
  | 0 => ("SawLine", "sheets", "LSawLine$Sheets;", true)
  | 1 => ("SawLine", "teeth", "LSawLine$Saw;", true)
  | 2 => ("SawLine", "once", "LSawLine$Saw;", true)
  | 3 => ("SawLine", "twice", "LSawLine$Saw;", true)
  | 4 => ("SawLine", "lines", "LSawLine$Board;", true)
  | 5 => ("SawLine", "grip", "LSawLine$Hand;", true)
  | 6 => ("SawLine", "otherGrip", "LSawLine$Hand;", true)
  | 7 => ("SawLine", "cut", "LSawLine$Cut;", true)
  | 8 => ("SawLine", "flaws", "LSawLine$Flaws;", true)
  | 9 => ("SawLine", "readings", "LSawLine$Readings;", true)
  | 10 => ("SawLine", "mending", "LSawLine$Mending;", true)
  | 11 => ("SawLine", "slabs", "LSawLine$Slabs;", true)
  | 12 => ("SawLine", "trail", "I", false)
  | _ => ("SawLine", "lastFault", "I", false)
def tyX9 : Nat → FieldType := fun k => match k with
  | 0 => .object "SawLine$Sheets"
  | 1 => .object "SawLine$Saw"
  | 2 => .object "SawLine$Saw"
  | 3 => .object "SawLine$Saw"
  | 4 => .object "SawLine$Board"
  | 5 => .object "SawLine$Hand"
  | 6 => .object "SawLine$Hand"
  | 7 => .object "SawLine$Cut"
  | 8 => .object "SawLine$Flaws"
  | 9 => .object "SawLine$Readings"
  | 10 => .object "SawLine$Mending"
  | 11 => .object "SawLine$Slabs"
  | 12 => .int
  | _ => .int
abbrev wsX90 : List Cond := u_ws RX9 TX9 14
theorem nmX9 : ∀ a, a < 14 → ∀ b, b < 14 → a ≠ b → (TX9 a).2.1 ≠ (TX9 b).2.1 := by decide +kernel
theorem tyX9_ok : ∀ k, k < 14 → parseFieldDescriptor (TX9 k).2.2.1 = some (tyX9 k) := by decide +kernel
abbrev cX9_init : ByteArray := prog_1_method_1_code
def yX9_init : MethodName := ⟨RX9, "<init>", "()V"⟩
abbrev cX9_saw : ByteArray := prog_1_method_2_code
def yX9_saw : MethodName := ⟨RX9, "saw", "(IIII)I"⟩
abbrev cX9_ofTooth : ByteArray := prog_1_method_3_code
def yX9_ofTooth : MethodName := ⟨RX9, "ofTooth", "(II)I"⟩
abbrev cX9_set : ByteArray := prog_1_method_4_code
def yX9_set : MethodName := ⟨RX9, "set", "(III)I"⟩
abbrev cX9_ofSaw : ByteArray := prog_1_method_5_code
def yX9_ofSaw : MethodName := ⟨RX9, "ofSaw", "(I)I"⟩
abbrev cX9_board : ByteArray := prog_1_method_6_code
def yX9_board : MethodName := ⟨RX9, "board", "(IIII)I"⟩
abbrev cX9_ofLine : ByteArray := prog_1_method_7_code
def yX9_ofLine : MethodName := ⟨RX9, "ofLine", "(II)I"⟩
abbrev cX9_hand : ByteArray := prog_1_method_8_code
def yX9_hand : MethodName := ⟨RX9, "hand", "(III)I"⟩
abbrev cX9_ofHand : ByteArray := prog_1_method_9_code
def yX9_ofHand : MethodName := ⟨RX9, "ofHand", "(I)I"⟩
abbrev cX9_fence : ByteArray := prog_1_method_10_code
def yX9_fence : MethodName := ⟨RX9, "fence", "(I)I"⟩
abbrev cX9_where : ByteArray := prog_1_method_11_code
def yX9_where : MethodName := ⟨RX9, "where", "(I)J"⟩
abbrev cX9_heading : ByteArray := prog_1_method_12_code
def yX9_heading : MethodName := ⟨RX9, "heading", "(I)J"⟩
abbrev cX9_off : ByteArray := prog_1_method_13_code
def yX9_off : MethodName := ⟨RX9, "off", "()I"⟩
abbrev cX9_pinched : ByteArray := prog_1_method_14_code
def yX9_pinched : MethodName := ⟨RX9, "pinched", "()I"⟩
abbrev cX9_marks : ByteArray := prog_1_method_15_code
def yX9_marks : MethodName := ⟨RX9, "marks", "(I)I"⟩
abbrev cX9_which : ByteArray := prog_1_method_16_code
def yX9_which : MethodName := ⟨RX9, "which", "(II)I"⟩
abbrev cX9_straightest : ByteArray := prog_1_method_17_code
def yX9_straightest : MethodName := ⟨RX9, "straightest", "(I)I"⟩
abbrev cX9_flaw : ByteArray := prog_1_method_18_code
def yX9_flaw : MethodName := ⟨RX9, "flaw", "(III)I"⟩
abbrev cX9_ofFlaw : ByteArray := prog_1_method_19_code
def yX9_ofFlaw : MethodName := ⟨RX9, "ofFlaw", "(II)I"⟩
abbrev cX9_reading : ByteArray := prog_1_method_20_code
def yX9_reading : MethodName := ⟨RX9, "reading", "(II)I"⟩
abbrev cX9_back : ByteArray := prog_1_method_21_code
def yX9_back : MethodName := ⟨RX9, "back", "(I)I"⟩
abbrev cX9_likely : ByteArray := prog_1_method_22_code
def yX9_likely : MethodName := ⟨RX9, "likely", "(I)I"⟩
abbrev cX9_each : ByteArray := prog_1_method_23_code
def yX9_each : MethodName := ⟨RX9, "each", "(I)I"⟩
abbrev cX9_act : ByteArray := prog_1_method_24_code
def yX9_act : MethodName := ⟨RX9, "act", "(II)I"⟩
abbrev cX9_mend : ByteArray := prog_1_method_25_code
def yX9_mend : MethodName := ⟨RX9, "mend", "(II)I"⟩
abbrev cX9_log : ByteArray := prog_1_method_26_code
def yX9_log : MethodName := ⟨RX9, "log", "(IIIII)I"⟩
abbrev cX9_sheet : ByteArray := prog_1_method_27_code
def yX9_sheet : MethodName := ⟨RX9, "sheet", "(III)I"⟩
abbrev cX9_lose : ByteArray := prog_1_method_28_code
def yX9_lose : MethodName := ⟨RX9, "lose", "(I)I"⟩
abbrev cX9_put : ByteArray := prog_1_method_29_code
def yX9_put : MethodName := ⟨RX9, "put", "(III)I"⟩
abbrev cX9_cell : ByteArray := prog_1_method_30_code
def yX9_cell : MethodName := ⟨RX9, "cell", "(III)J"⟩
abbrev cX9_copy : ByteArray := prog_1_method_31_code
def yX9_copy : MethodName := ⟨RX9, "copy", "(IIIII)I"⟩
abbrev cX9_tell : ByteArray := prog_1_method_32_code
def yX9_tell : MethodName := ⟨RX9, "tell", "(I)I"⟩
abbrev cX9_joint : ByteArray := prog_1_method_33_code
def yX9_joint : MethodName := ⟨RX9, "joint", "(I)I"⟩
abbrev cX9_as : ByteArray := prog_1_method_34_code
def yX9_as : MethodName := ⟨RX9, "as", "(II)I"⟩
abbrev cX9_trace : ByteArray := prog_1_method_35_code
def yX9_trace : MethodName := ⟨RX9, "trace", "()I"⟩
abbrev cX9_fault : ByteArray := prog_1_method_36_code
def yX9_fault : MethodName := ⟨RX9, "fault", "()I"⟩
abbrev cX9_many : ByteArray := prog_1_method_37_code
def yX9_many : MethodName := ⟨RX9, "many", "(I)I"⟩
abbrev cX9_isWithin : ByteArray := prog_1_method_38_code
def yX9_isWithin : MethodName := ⟨RX9, "isWithin", "(III)Z"⟩
abbrev cX9_answerOfFault : ByteArray := prog_1_method_39_code
def yX9_answerOfFault : MethodName := ⟨RX9, "answerOfFault", "(I)I"⟩
abbrev cX9_refusalOfCells : ByteArray := prog_1_method_40_code
def yX9_refusalOfCells : MethodName := ⟨RX9, "refusalOfCells", "(IIII)I"⟩
abbrev cX9_lacksSawOrBoard : ByteArray := prog_1_method_41_code
def yX9_lacksSawOrBoard : MethodName := ⟨RX9, "lacksSawOrBoard", "()Z"⟩
abbrev cX9_cutAsItIs : ByteArray := prog_1_method_42_code
def yX9_cutAsItIs : MethodName := ⟨RX9, "cutAsItIs", "()V"⟩
abbrev cX9_countStrokes : ByteArray := prog_1_method_43_code
def yX9_countStrokes : MethodName := ⟨RX9, "countStrokes", "()I"⟩
abbrev cX9_refusalOfStroke : ByteArray := prog_1_method_44_code
def yX9_refusalOfStroke : MethodName := ⟨RX9, "refusalOfStroke", "(I)I"⟩
abbrev cX9_offByLean : ByteArray := prog_1_method_45_code
def yX9_offByLean : MethodName := ⟨RX9, "offByLean", "(I)I"⟩
abbrev cX9_offBySteers : ByteArray := prog_1_method_46_code
def yX9_offBySteers : MethodName := ⟨RX9, "offBySteers", "(I)I"⟩
abbrev cX9_straightestLean : ByteArray := prog_1_method_47_code
def yX9_straightestLean : MethodName := ⟨RX9, "straightestLean", "()I"⟩
abbrev cX9_straightestSteers : ByteArray := prog_1_method_48_code
def yX9_straightestSteers : MethodName := ⟨RX9, "straightestSteers", "()I"⟩
abbrev cX9_fits : ByteArray := prog_1_method_49_code
def yX9_fits : MethodName := ⟨RX9, "fits", "(I)Z"⟩
abbrev cX9_countFitting : ByteArray := prog_1_method_50_code
def yX9_countFitting : MethodName := ⟨RX9, "countFitting", "(I)I"⟩
abbrev cX9_firstOfFewest : ByteArray := prog_1_method_51_code
def yX9_firstOfFewest : MethodName := ⟨RX9, "firstOfFewest", "()I"⟩
abbrev cX9_goesStraightEnough : ByteArray := prog_1_method_52_code
def yX9_goesStraightEnough : MethodName := ⟨RX9, "goesStraightEnough", "(LSawLine$Saw;I)Z"⟩
abbrev cX9_seekMending : ByteArray := prog_1_method_53_code
def yX9_seekMending : MethodName := ⟨RX9, "seekMending", "(I)V"⟩
abbrev cX9_seekSecondAct : ByteArray := prog_1_method_54_code
def yX9_seekSecondAct : MethodName := ⟨RX9, "seekSecondAct", "(II)V"⟩
abbrev cX9_leaveInTrail : ByteArray := prog_1_method_55_code
def yX9_leaveInTrail : MethodName := ⟨RX9, "leaveInTrail", "(I)V"⟩
abbrev cX9_tellAsTooth : ByteArray := prog_1_method_56_code
def yX9_tellAsTooth : MethodName := ⟨RX9, "tellAsTooth", "(I)I"⟩
abbrev cX9_tellAsBent : ByteArray := prog_1_method_57_code
def yX9_tellAsBent : MethodName := ⟨RX9, "tellAsBent", "(I)I"⟩
abbrev cX9_tellAsHooked : ByteArray := prog_1_method_58_code
def yX9_tellAsHooked : MethodName := ⟨RX9, "tellAsHooked", "(I)I"⟩
def RX10 : String := "SawLineModel"
def TX10 : u_T := fun k => match k with
  | 0 => ("SawLineModel", "fault", "I", false)
  | 1 => ("SawLineModel", "teeth", "I", false)
  | 2 => ("SawLineModel", "kindOf", "[I", true)
  | 3 => ("SawLineModel", "sideOf", "[I", true)
  | 4 => ("SawLineModel", "bendOf", "[I", true)
  | 5 => ("SawLineModel", "heightOf", "[I", true)
  | 6 => ("SawLineModel", "edgeOf", "[I", true)
  | 7 => ("SawLineModel", "readAt", "I", false)
  | 8 => ("SawLineModel", "readMany", "I", false)
  | 9 => ("SawLineModel", "readKind", "[I", true)
  | 10 => ("SawLineModel", "readSide", "[I", true)
  | 11 => ("SawLineModel", "readNumber", "[I", true)
  | 12 => ("SawLineModel", "lines", "I", false)
  | 13 => ("SawLineModel", "hardOf", "[I", true)
  | 14 => ("SawLineModel", "grainOf", "[I", true)
  | 15 => ("SawLineModel", "closesOf", "[I", true)
  | 16 => ("SawLineModel", "leans", "I", false)
  | 17 => ("SawLineModel", "steers", "I", false)
  | 18 => ("SawLineModel", "late", "I", false)
  | 19 => ("SawLineModel", "fenceNow", "I", false)
  | 20 => ("SawLineModel", "strokes", "I", false)
  | 21 => ("SawLineModel", "placeAt", "[I", true)
  | 22 => ("SawLineModel", "headingAt", "[I", true)
  | 23 => ("SawLineModel", "offNow", "I", false)
  | 24 => ("SawLineModel", "flaws", "I", false)
  | 25 => ("SawLineModel", "flawOn", "[I", true)
  | 26 => ("SawLineModel", "flawWhat", "[I", true)
  | 27 => ("SawLineModel", "flawTo", "[I", true)
  | 28 => ("SawLineModel", "readings", "I", false)
  | 29 => ("SawLineModel", "readingLine", "[I", true)
  | 30 => ("SawLineModel", "readingPlace", "[I", true)
  | 31 => ("SawLineModel", "manySets", "I", false)
  | 32 => ("SawLineModel", "firstSet", "I", false)
  | 33 => ("SawLineModel", "setsWith", "[I", true)
  | 34 => ("SawLineModel", "bestCost", "I", false)
  | 35 => ("SawLineModel", "bestMany", "I", false)
  | 36 => ("SawLineModel", "bestFirst", "I", false)
  | 37 => ("SawLineModel", "bestSecond", "I", false)
  | 38 => ("SawLineModel", "kept", "[I", true)
  | 39 => ("SawLineModel", "strain", "[I", true)
  | 40 => ("SawLineModel", "bestOrder", "I", false)
  | 41 => ("SawLineModel", "sheetSize", "[I", true)
  | 42 => ("SawLineModel", "sheetLane", "[I", true)
  | 43 => ("SawLineModel", "sheet", "[I", true)
  | 44 => ("SawLineModel", "hands", "[I", true)
  | _ => ("SawLineModel", "traceNow", "I", false)
def tyX10 : Nat → FieldType := fun k => match k with
  | 0 => .int
  | 1 => .int
  | 2 => .array .int
  | 3 => .array .int
  | 4 => .array .int
  | 5 => .array .int
  | 6 => .array .int
  | 7 => .int
  | 8 => .int
  | 9 => .array .int
  | 10 => .array .int
  | 11 => .array .int
  | 12 => .int
  | 13 => .array .int
  | 14 => .array .int
  | 15 => .array .int
  | 16 => .int
  | 17 => .int
  | 18 => .int
  | 19 => .int
  | 20 => .int
  | 21 => .array .int
  | 22 => .array .int
  | 23 => .int
  | 24 => .int
  | 25 => .array .int
  | 26 => .array .int
  | 27 => .array .int
  | 28 => .int
  | 29 => .array .int
  | 30 => .array .int
  | 31 => .int
  | 32 => .int
  | 33 => .array .int
  | 34 => .int
  | 35 => .int
  | 36 => .int
  | 37 => .int
  | 38 => .array .int
  | 39 => .array .int
  | 40 => .int
  | 41 => .array .int
  | 42 => .array .int
  | 43 => .array .int
  | 44 => .array .int
  | _ => .int
abbrev wsX100 : List Cond := u_ws RX10 TX10 46
theorem nmX10 : ∀ a, a < 46 → ∀ b, b < 46 → a ≠ b → (TX10 a).2.1 ≠ (TX10 b).2.1 := by decide +kernel
theorem tyX10_ok : ∀ k, k < 46 → parseFieldDescriptor (TX10 k).2.2.1 = some (tyX10 k) := by decide +kernel
abbrev cX10_init : ByteArray := prog_12_method_1_code
def yX10_init : MethodName := ⟨RX10, "<init>", "()V"⟩
abbrev cX10_in : ByteArray := prog_12_method_2_code
def yX10_in : MethodName := ⟨RX10, "in", "(JJJ)Z"⟩
abbrev cX10_lost : ByteArray := prog_12_method_3_code
def yX10_lost : MethodName := ⟨RX10, "lost", "()J"⟩
abbrev cX10_greater : ByteArray := prog_12_method_4_code
def yX10_greater : MethodName := ⟨RX10, "greater", "(II)I"⟩
abbrev cX10_size : ByteArray := prog_12_method_5_code
def yX10_size : MethodName := ⟨RX10, "size", "(I)I"⟩
abbrev cX10_refused : ByteArray := prog_12_method_6_code
def yX10_refused : MethodName := ⟨RX10, "refused", "(I)I"⟩
abbrev cX10_failed : ByteArray := prog_12_method_7_code
def yX10_failed : MethodName := ⟨RX10, "failed", "(I)I"⟩
abbrev cX10_failedLong : ByteArray := prog_12_method_8_code
def yX10_failedLong : MethodName := ⟨RX10, "failedLong", "(I)J"⟩
abbrev cX10_barred : ByteArray := prog_12_method_9_code
def yX10_barred : MethodName := ⟨RX10, "barred", "(IIIJ)I"⟩
abbrev cX10_noTooth : ByteArray := prog_12_method_10_code
def yX10_noTooth : MethodName := ⟨RX10, "noTooth", "(I)Z"⟩
abbrev cX10_sideBy : ByteArray := prog_12_method_11_code
def yX10_sideBy : MethodName := ⟨RX10, "sideBy", "(I)I"⟩
abbrev cX10_readsFigures : ByteArray := prog_12_method_12_code
def yX10_readsFigures : MethodName := ⟨RX10, "readsFigures", "(III)Z"⟩
abbrev cX10_readsSaw : ByteArray := prog_12_method_13_code
def yX10_readsSaw : MethodName := ⟨RX10, "readsSaw", "(II)Z"⟩
abbrev cX10_saw : ByteArray := prog_12_method_14_code
def yX10_saw : MethodName := ⟨RX10, "saw", "(IIII)I"⟩
abbrev cX10_takesOf : ByteArray := prog_12_method_15_code
def yX10_takesOf : MethodName := ⟨RX10, "takesOf", "(I)I"⟩
abbrev cX10_pushOf : ByteArray := prog_12_method_16_code
def yX10_pushOf : MethodName := ⟨RX10, "pushOf", "(I)I"⟩
abbrev cX10_ofTooth : ByteArray := prog_12_method_17_code
def yX10_ofTooth : MethodName := ⟨RX10, "ofTooth", "(II)I"⟩
abbrev cX10_change : ByteArray := prog_12_method_18_code
def yX10_change : MethodName := ⟨RX10, "change", "(III)I"⟩
abbrev cX10_set : ByteArray := prog_12_method_19_code
def yX10_set : MethodName := ⟨RX10, "set", "(III)I"⟩
abbrev cX10_pushNow : ByteArray := prog_12_method_20_code
def yX10_pushNow : MethodName := ⟨RX10, "pushNow", "()I"⟩
abbrev cX10_kerfNow : ByteArray := prog_12_method_21_code
def yX10_kerfNow : MethodName := ⟨RX10, "kerfNow", "()I"⟩
abbrev cX10_ofSaw : ByteArray := prog_12_method_22_code
def yX10_ofSaw : MethodName := ⟨RX10, "ofSaw", "(I)I"⟩
abbrev cX10_noLine : ByteArray := prog_12_method_23_code
def yX10_noLine : MethodName := ⟨RX10, "noLine", "(I)Z"⟩
abbrev cX10_readsBoard : ByteArray := prog_12_method_24_code
def yX10_readsBoard : MethodName := ⟨RX10, "readsBoard", "(II)Z"⟩
abbrev cX10_board : ByteArray := prog_12_method_25_code
def yX10_board : MethodName := ⟨RX10, "board", "(IIII)I"⟩
abbrev cX10_ofLine : ByteArray := prog_12_method_26_code
def yX10_ofLine : MethodName := ⟨RX10, "ofLine", "(II)I"⟩
abbrev cX10_hand : ByteArray := prog_12_method_27_code
def yX10_hand : MethodName := ⟨RX10, "hand", "(III)I"⟩
abbrev cX10_ofHand : ByteArray := prog_12_method_28_code
def yX10_ofHand : MethodName := ⟨RX10, "ofHand", "(I)I"⟩
abbrev cX10_fence : ByteArray := prog_12_method_29_code
def yX10_fence : MethodName := ⟨RX10, "fence", "(I)I"⟩
abbrev cX10_cut : ByteArray := prog_12_method_30_code
def yX10_cut : MethodName := ⟨RX10, "cut", "()V"⟩
abbrev cX10_isBare : ByteArray := prog_12_method_31_code
def yX10_isBare : MethodName := ⟨RX10, "isBare", "()Z"⟩
abbrev cX10_isUncut : ByteArray := prog_12_method_32_code
def yX10_isUncut : MethodName := ⟨RX10, "isUncut", "(I)Z"⟩
abbrev cX10_where : ByteArray := prog_12_method_33_code
def yX10_where : MethodName := ⟨RX10, "where", "(I)J"⟩
abbrev cX10_heading : ByteArray := prog_12_method_34_code
def yX10_heading : MethodName := ⟨RX10, "heading", "(I)J"⟩
abbrev cX10_off : ByteArray := prog_12_method_35_code
def yX10_off : MethodName := ⟨RX10, "off", "()I"⟩
abbrev cX10_pinched : ByteArray := prog_12_method_36_code
def yX10_pinched : MethodName := ⟨RX10, "pinched", "()I"⟩
abbrev cX10_markOf : ByteArray := prog_12_method_37_code
def yX10_markOf : MethodName := ⟨RX10, "markOf", "(II)I"⟩
abbrev cX10_marks : ByteArray := prog_12_method_38_code
def yX10_marks : MethodName := ⟨RX10, "marks", "(I)I"⟩
abbrev cX10_which : ByteArray := prog_12_method_39_code
def yX10_which : MethodName := ⟨RX10, "which", "(II)I"⟩
abbrev cX10_straightest : ByteArray := prog_12_method_40_code
def yX10_straightest : MethodName := ⟨RX10, "straightest", "(I)I"⟩
abbrev cX10_noFlaw : ByteArray := prog_12_method_41_code
def yX10_noFlaw : MethodName := ⟨RX10, "noFlaw", "(I)Z"⟩
abbrev cX10_flaw : ByteArray := prog_12_method_42_code
def yX10_flaw : MethodName := ⟨RX10, "flaw", "(III)I"⟩
abbrev cX10_ofFlaw : ByteArray := prog_12_method_43_code
def yX10_ofFlaw : MethodName := ⟨RX10, "ofFlaw", "(II)I"⟩
abbrev cX10_reading : ByteArray := prog_12_method_44_code
def yX10_reading : MethodName := ⟨RX10, "reading", "(II)I"⟩
abbrev cX10_back : ByteArray := prog_12_method_45_code
def yX10_back : MethodName := ⟨RX10, "back", "(I)I"⟩
abbrev cX10_doesFit : ByteArray := prog_12_method_46_code
def yX10_doesFit : MethodName := ⟨RX10, "doesFit", "()Z"⟩
abbrev cX10_doFit : ByteArray := prog_12_method_47_code
def yX10_doFit : MethodName := ⟨RX10, "doFit", "(II)Z"⟩
abbrev cX10_layLikely : ByteArray := prog_12_method_48_code
def yX10_layLikely : MethodName := ⟨RX10, "layLikely", "()V"⟩
abbrev cX10_likely : ByteArray := prog_12_method_49_code
def yX10_likely : MethodName := ⟨RX10, "likely", "(I)I"⟩
abbrev cX10_each : ByteArray := prog_12_method_50_code
def yX10_each : MethodName := ⟨RX10, "each", "(I)I"⟩
abbrev cX10_mayBe : ByteArray := prog_12_method_51_code
def yX10_mayBe : MethodName := ⟨RX10, "mayBe", "(II)Z"⟩
abbrev cX10_doAct : ByteArray := prog_12_method_52_code
def yX10_doAct : MethodName := ⟨RX10, "doAct", "(II)V"⟩
abbrev cX10_costOf : ByteArray := prog_12_method_53_code
def yX10_costOf : MethodName := ⟨RX10, "costOf", "(I)I"⟩
abbrev cX10_act : ByteArray := prog_12_method_54_code
def yX10_act : MethodName := ⟨RX10, "act", "(II)I"⟩
abbrev cX10_look : ByteArray := prog_12_method_55_code
def yX10_look : MethodName := ⟨RX10, "look", "(IIIII)V"⟩
abbrev cX10_keep : ByteArray := prog_12_method_56_code
def yX10_keep : MethodName := ⟨RX10, "keep", "(II)V"⟩
abbrev cX10_putBack : ByteArray := prog_12_method_57_code
def yX10_putBack : MethodName := ⟨RX10, "putBack", "(II)V"⟩
abbrev cX10_lookFurther : ByteArray := prog_12_method_58_code
def yX10_lookFurther : MethodName := ⟨RX10, "lookFurther", "(III)V"⟩
abbrev cX10_layMend : ByteArray := prog_12_method_59_code
def yX10_layMend : MethodName := ⟨RX10, "layMend", "(I)V"⟩
abbrev cX10_mend : ByteArray := prog_12_method_60_code
def yX10_mend : MethodName := ⟨RX10, "mend", "(II)I"⟩
abbrev cX10_cutIn : ByteArray := prog_12_method_61_code
def yX10_cutIn : MethodName := ⟨RX10, "cutIn", "(III)I"⟩
abbrev cX10_costOfOrder : ByteArray := prog_12_method_62_code
def yX10_costOfOrder : MethodName := ⟨RX10, "costOfOrder", "(II)I"⟩
abbrev cX10_log : ByteArray := prog_12_method_63_code
def yX10_log : MethodName := ⟨RX10, "log", "(IIIII)I"⟩
abbrev cX10_noSheet : ByteArray := prog_12_method_64_code
def yX10_noSheet : MethodName := ⟨RX10, "noSheet", "(I)Z"⟩
abbrev cX10_sheet : ByteArray := prog_12_method_65_code
def yX10_sheet : MethodName := ⟨RX10, "sheet", "(III)I"⟩
abbrev cX10_lose : ByteArray := prog_12_method_66_code
def yX10_lose : MethodName := ⟨RX10, "lose", "(I)I"⟩
abbrev cX10_noCell : ByteArray := prog_12_method_67_code
def yX10_noCell : MethodName := ⟨RX10, "noCell", "(II)I"⟩
abbrev cX10_put : ByteArray := prog_12_method_68_code
def yX10_put : MethodName := ⟨RX10, "put", "(III)I"⟩
abbrev cX10_cell : ByteArray := prog_12_method_69_code
def yX10_cell : MethodName := ⟨RX10, "cell", "(III)J"⟩
abbrev cX10_isBeyond : ByteArray := prog_12_method_70_code
def yX10_isBeyond : MethodName := ⟨RX10, "isBeyond", "(IJI)Z"⟩
abbrev cX10_copy : ByteArray := prog_12_method_71_code
def yX10_copy : MethodName := ⟨RX10, "copy", "(IIIII)I"⟩
abbrev cX10_traced : ByteArray := prog_12_method_72_code
def yX10_traced : MethodName := ⟨RX10, "traced", "(I)V"⟩
abbrev cX10_tell : ByteArray := prog_12_method_73_code
def yX10_tell : MethodName := ⟨RX10, "tell", "(I)I"⟩
abbrev cX10_joint : ByteArray := prog_12_method_74_code
def yX10_joint : MethodName := ⟨RX10, "joint", "(I)I"⟩
abbrev cX10_as : ByteArray := prog_12_method_75_code
def yX10_as : MethodName := ⟨RX10, "as", "(II)I"⟩
abbrev cX10_trace : ByteArray := prog_12_method_76_code
def yX10_trace : MethodName := ⟨RX10, "trace", "()I"⟩
abbrev cX10_fault : ByteArray := prog_12_method_77_code
def yX10_fault : MethodName := ⟨RX10, "fault", "()I"⟩
abbrev cX10_many : ByteArray := prog_12_method_78_code
def yX10_many : MethodName := ⟨RX10, "many", "(I)I"⟩
def RJ6 : String := "java/lang/Integer"
def TJ6 : u_T := fun k => match k with
  | _ => ("", "", "", false)
def tyJ6 : Nat → FieldType := fun k => match k with
  | _ => .int
abbrev wsJ60 : List Cond := u_ws RJ6 TJ6 0
theorem nmJ6 : ∀ a, a < 0 → ∀ b, b < 0 → a ≠ b → (TJ6 a).2.1 ≠ (TJ6 b).2.1 := by decide +kernel
theorem tyJ6_ok : ∀ k, k < 0 → parseFieldDescriptor (TJ6 k).2.2.1 = some (tyJ6 k) := by decide +kernel
abbrev cJ6_bitCount_0f7a4 : ByteArray := prog_13_method_49_code
def yJ6_bitCount_0f7a4 : MethodName := ⟨RJ6, "bitCount", "(I)I"⟩
def RJ9 : String := "java/lang/Math"
def TJ9 : u_T := fun k => match k with
  | _ => ("", "", "", false)
def tyJ9 : Nat → FieldType := fun k => match k with
  | _ => .int
abbrev wsJ90 : List Cond := u_ws RJ9 TJ9 0
theorem nmJ9 : ∀ a, a < 0 → ∀ b, b < 0 → a ≠ b → (TJ9 a).2.1 ≠ (TJ9 b).2.1 := by decide +kernel
theorem tyJ9_ok : ∀ k, k < 0 → parseFieldDescriptor (TJ9 k).2.2.1 = some (tyJ9 k) := by decide +kernel
abbrev cJ9_abs_0f7a4 : ByteArray := prog_14_method_59_code
def yJ9_abs_0f7a4 : MethodName := ⟨RJ9, "abs", "(I)I"⟩
abbrev cJ9_max_7cf53 : ByteArray := prog_14_method_65_code
def yJ9_max_7cf53 : MethodName := ⟨RJ9, "max", "(II)I"⟩
abbrev cJ9_min_7cf53 : ByteArray := prog_14_method_69_code
def yJ9_min_7cf53 : MethodName := ⟨RJ9, "min", "(II)I"⟩
def RJ10 : String := "java/lang/System"
def TJ10 : u_T := fun k => match k with
  | _ => ("", "", "", false)
def tyJ10 : Nat → FieldType := fun k => match k with
  | _ => .int
abbrev wsJ100 : List Cond := u_ws RJ10 TJ10 0
theorem nmJ10 : ∀ a, a < 0 → ∀ b, b < 0 → a ≠ b → (TJ10 a).2.1 ≠ (TJ10 b).2.1 := by decide +kernel
theorem tyJ10_ok : ∀ k, k < 0 → parseFieldDescriptor (TJ10 k).2.2.1 = some (tyJ10 k) := by decide +kernel
def RL : String := "SawLineLaw"
abbrev cL_law : ByteArray := code
def yL_law : MethodName := ⟨RL, "law", "([I)Z"⟩
abbrev vwCl : List vw_C := [(RX0, TX0, 4), (RX1, TX1, 5), (RX2, TX2, 4), (RX3, TX3, 4), (RX4, TX4, 4), (RX5, TX5, 3), (RX6, TX6, 4), (RX7, TX7, 3), (RX8, TX8, 3), (RX9, TX9, 14), (RX10, TX10, 46)]
set_option maxRecDepth 100000 in
theorem inX0 : ∀ w ∈ wsX00, w ∈ lw_tbl := by decide +kernel
set_option maxRecDepth 100000 in
theorem inX1 : ∀ w ∈ wsX10, w ∈ lw_tbl := by decide +kernel
set_option maxRecDepth 100000 in
theorem inX2 : ∀ w ∈ wsX20, w ∈ lw_tbl := by decide +kernel
set_option maxRecDepth 100000 in
theorem inX3 : ∀ w ∈ wsX30, w ∈ lw_tbl := by decide +kernel
set_option maxRecDepth 100000 in
theorem inX4 : ∀ w ∈ wsX40, w ∈ lw_tbl := by decide +kernel
set_option maxRecDepth 100000 in
theorem inX5 : ∀ w ∈ wsX50, w ∈ lw_tbl := by decide +kernel
set_option maxRecDepth 100000 in
theorem inX6 : ∀ w ∈ wsX60, w ∈ lw_tbl := by decide +kernel
set_option maxRecDepth 100000 in
theorem inX7 : ∀ w ∈ wsX70, w ∈ lw_tbl := by decide +kernel
set_option maxRecDepth 100000 in
theorem inX8 : ∀ w ∈ wsX80, w ∈ lw_tbl := by decide +kernel
set_option maxRecDepth 100000 in
theorem inX9 : ∀ w ∈ wsX90, w ∈ lw_tbl := by decide +kernel
set_option maxRecDepth 100000 in
theorem inX10 : ∀ w ∈ wsX100, w ∈ lw_tbl := by decide +kernel
end
section
theorem dX0_init_0 : decode cX0_init 0 = .ok (.aload_n 0, 1) := by decide +kernel
theorem dX0_init_1 : decode cX0_init 1 = .ok (.invokespecial 3, 3) := by decide +kernel
theorem dX0_init_4 : decode cX0_init 4 = .ok (.aload_n 0, 1) := by decide +kernel
theorem dX0_init_5 : decode cX0_init 5 = .ok (.iconst 0, 1) := by decide +kernel
theorem dX0_init_6 : decode cX0_init 6 = .ok (.putfield 9, 3) := by decide +kernel
theorem dX0_init_9 : decode cX0_init 9 = .ok (.aload_n 0, 1) := by decide +kernel
theorem dX0_init_10 : decode cX0_init 10 = .ok (.bipush 24, 2) := by decide +kernel
theorem dX0_init_12 : decode cX0_init 12 = .ok (.newarray .int, 2) := by decide +kernel
theorem dX0_init_14 : decode cX0_init 14 = .ok (.putfield 15, 3) := by decide +kernel
theorem dX0_init_17 : decode cX0_init 17 = .ok (.aload_n 0, 1) := by decide +kernel
theorem dX0_init_18 : decode cX0_init 18 = .ok (.bipush 24, 2) := by decide +kernel
theorem dX0_init_20 : decode cX0_init 20 = .ok (.newarray .int, 2) := by decide +kernel
theorem dX0_init_22 : decode cX0_init 22 = .ok (.putfield 19, 3) := by decide +kernel
theorem dX0_init_25 : decode cX0_init 25 = .ok (.aload_n 0, 1) := by decide +kernel
theorem dX0_init_26 : decode cX0_init 26 = .ok (.bipush 24, 2) := by decide +kernel
theorem dX0_init_28 : decode cX0_init 28 = .ok (.newarray .int, 2) := by decide +kernel
theorem dX0_init_30 : decode cX0_init 30 = .ok (.putfield 22, 3) := by decide +kernel
theorem dX0_init_33 : decode cX0_init 33 = .ok (.return_, 1) := by decide +kernel
theorem dX0_has_0 : decode cX0_has 0 = .ok (.iload_n 1, 1) := by decide +kernel
theorem dX0_has_1 : decode cX0_has 1 = .ok (.ifCond .lt 21, 3) := by decide +kernel
theorem dX0_has_4 : decode cX0_has 4 = .ok (.iload_n 1, 1) := by decide +kernel
theorem dX0_has_5 : decode cX0_has 5 = .ok (.aload_n 0, 1) := by decide +kernel
theorem dX0_has_6 : decode cX0_has 6 = .ok (.getfield 9, 3) := by decide +kernel
theorem dX0_has_9 : decode cX0_has 9 = .ok (.if_icmp .ge 13, 3) := by decide +kernel
theorem dX0_has_12 : decode cX0_has 12 = .ok (.iload_n 1, 1) := by decide +kernel
theorem dX0_has_13 : decode cX0_has 13 = .ok (.bipush 24, 2) := by decide +kernel
theorem dX0_has_15 : decode cX0_has 15 = .ok (.if_icmp .ge 7, 3) := by decide +kernel
theorem dX0_has_18 : decode cX0_has 18 = .ok (.iconst 1, 1) := by decide +kernel
theorem dX0_has_19 : decode cX0_has 19 = .ok (.goto 4, 3) := by decide +kernel
theorem dX0_has_22 : decode cX0_has 22 = .ok (.iconst 0, 1) := by decide +kernel
theorem dX0_has_23 : decode cX0_has 23 = .ok (.ireturn, 1) := by decide +kernel
theorem dX0_hardOf_0 : decode cX0_hardOf 0 = .ok (.aload_n 0, 1) := by decide +kernel
theorem dX0_hardOf_1 : decode cX0_hardOf 1 = .ok (.iload_n 1, 1) := by decide +kernel
theorem dX0_hardOf_2 : decode cX0_hardOf 2 = .ok (.invokevirtual 25, 3) := by decide +kernel
theorem dX0_hardOf_5 : decode cX0_hardOf 5 = .ok (.ifCond .eq 12, 3) := by decide +kernel
theorem dX0_hardOf_8 : decode cX0_hardOf 8 = .ok (.aload_n 0, 1) := by decide +kernel
theorem dX0_hardOf_9 : decode cX0_hardOf 9 = .ok (.getfield 15, 3) := by decide +kernel
theorem dX0_hardOf_12 : decode cX0_hardOf 12 = .ok (.iload_n 1, 1) := by decide +kernel
theorem dX0_hardOf_13 : decode cX0_hardOf 13 = .ok (.iaload, 1) := by decide +kernel
theorem dX0_hardOf_14 : decode cX0_hardOf 14 = .ok (.goto 4, 3) := by decide +kernel
theorem dX0_hardOf_17 : decode cX0_hardOf 17 = .ok (.iconst 0, 1) := by decide +kernel
theorem dX0_hardOf_18 : decode cX0_hardOf 18 = .ok (.ireturn, 1) := by decide +kernel
theorem dX0_grainOf_0 : decode cX0_grainOf 0 = .ok (.aload_n 0, 1) := by decide +kernel
theorem dX0_grainOf_1 : decode cX0_grainOf 1 = .ok (.iload_n 1, 1) := by decide +kernel
theorem dX0_grainOf_2 : decode cX0_grainOf 2 = .ok (.invokevirtual 25, 3) := by decide +kernel
theorem dX0_grainOf_5 : decode cX0_grainOf 5 = .ok (.ifCond .eq 12, 3) := by decide +kernel
theorem dX0_grainOf_8 : decode cX0_grainOf 8 = .ok (.aload_n 0, 1) := by decide +kernel
theorem dX0_grainOf_9 : decode cX0_grainOf 9 = .ok (.getfield 19, 3) := by decide +kernel
theorem dX0_grainOf_12 : decode cX0_grainOf 12 = .ok (.iload_n 1, 1) := by decide +kernel
theorem dX0_grainOf_13 : decode cX0_grainOf 13 = .ok (.iaload, 1) := by decide +kernel
theorem dX0_grainOf_14 : decode cX0_grainOf 14 = .ok (.goto 4, 3) := by decide +kernel
theorem dX0_grainOf_17 : decode cX0_grainOf 17 = .ok (.iconst 0, 1) := by decide +kernel
theorem dX0_grainOf_18 : decode cX0_grainOf 18 = .ok (.ireturn, 1) := by decide +kernel
theorem dX0_closesOf_0 : decode cX0_closesOf 0 = .ok (.aload_n 0, 1) := by decide +kernel
theorem dX0_closesOf_1 : decode cX0_closesOf 1 = .ok (.iload_n 1, 1) := by decide +kernel
theorem dX0_closesOf_2 : decode cX0_closesOf 2 = .ok (.invokevirtual 25, 3) := by decide +kernel
theorem dX0_closesOf_5 : decode cX0_closesOf 5 = .ok (.ifCond .eq 12, 3) := by decide +kernel
theorem dX0_closesOf_8 : decode cX0_closesOf 8 = .ok (.aload_n 0, 1) := by decide +kernel
theorem dX0_closesOf_9 : decode cX0_closesOf 9 = .ok (.getfield 22, 3) := by decide +kernel
theorem dX0_closesOf_12 : decode cX0_closesOf 12 = .ok (.iload_n 1, 1) := by decide +kernel
theorem dX0_closesOf_13 : decode cX0_closesOf 13 = .ok (.iaload, 1) := by decide +kernel
theorem dX0_closesOf_14 : decode cX0_closesOf 14 = .ok (.goto 4, 3) := by decide +kernel
theorem dX0_closesOf_17 : decode cX0_closesOf 17 = .ok (.iconst 0, 1) := by decide +kernel
theorem dX0_closesOf_18 : decode cX0_closesOf 18 = .ok (.ireturn, 1) := by decide +kernel
theorem dX0_firstFault_0 : decode cX0_firstFault 0 = .ok (.iconst 0, 1) := by decide +kernel
theorem dX0_firstFault_1 : decode cX0_firstFault 1 = .ok (.istore 4, 2) := by decide +kernel
theorem dX0_firstFault_3 : decode cX0_firstFault 3 = .ok (.iload 4, 2) := by decide +kernel
theorem dX0_firstFault_5 : decode cX0_firstFault 5 = .ok (.iload_n 3, 1) := by decide +kernel
theorem dX0_firstFault_6 : decode cX0_firstFault 6 = .ok (.if_icmp .ge 38, 3) := by decide +kernel
theorem dX0_firstFault_9 : decode cX0_firstFault 9 = .ok (.iload 4, 2) := by decide +kernel
theorem dX0_firstFault_11 : decode cX0_firstFault 11 = .ok (.bipush 72, 2) := by decide +kernel
theorem dX0_firstFault_13 : decode cX0_firstFault 13 = .ok (.if_icmp .ge 22, 3) := by decide +kernel
theorem dX0_firstFault_16 : decode cX0_firstFault 16 = .ok (.iload 4, 2) := by decide +kernel
theorem dX0_firstFault_18 : decode cX0_firstFault 18 = .ok (.iconst 3, 1) := by decide +kernel
theorem dX0_firstFault_19 : decode cX0_firstFault 19 = .ok (.irem, 1) := by decide +kernel
theorem dX0_firstFault_20 : decode cX0_firstFault 20 = .ok (.aload_n 0, 1) := by decide +kernel
theorem dX0_firstFault_21 : decode cX0_firstFault 21 = .ok (.iload_n 1, 1) := by decide +kernel
theorem dX0_firstFault_22 : decode cX0_firstFault 22 = .ok (.iload_n 2, 1) := by decide +kernel
theorem dX0_firstFault_23 : decode cX0_firstFault 23 = .ok (.iload 4, 2) := by decide +kernel
theorem dX0_firstFault_25 : decode cX0_firstFault 25 = .ok (.iadd, 1) := by decide +kernel
theorem dX0_firstFault_26 : decode cX0_firstFault 26 = .ok (.invokevirtual 29, 3) := by decide +kernel
theorem dX0_firstFault_29 : decode cX0_firstFault 29 = .ok (.invokestatic 35, 3) := by decide +kernel
theorem dX0_firstFault_32 : decode cX0_firstFault 32 = .ok (.ifCond .ne 6, 3) := by decide +kernel
theorem dX0_firstFault_35 : decode cX0_firstFault 35 = .ok (.iload 4, 2) := by decide +kernel
theorem dX0_firstFault_37 : decode cX0_firstFault 37 = .ok (.ireturn, 1) := by decide +kernel
theorem dX0_firstFault_38 : decode cX0_firstFault 38 = .ok (.iinc 4 1, 3) := by decide +kernel
theorem dX0_firstFault_41 : decode cX0_firstFault 41 = .ok (.goto (-38), 3) := by decide +kernel
theorem dX0_firstFault_44 : decode cX0_firstFault 44 = .ok (.iload_n 3, 1) := by decide +kernel
theorem dX0_firstFault_45 : decode cX0_firstFault 45 = .ok (.ifCond .le 13, 3) := by decide +kernel
theorem dX0_firstFault_48 : decode cX0_firstFault 48 = .ok (.iload_n 3, 1) := by decide +kernel
theorem dX0_firstFault_49 : decode cX0_firstFault 49 = .ok (.iconst 3, 1) := by decide +kernel
theorem dX0_firstFault_50 : decode cX0_firstFault 50 = .ok (.irem, 1) := by decide +kernel
theorem dX0_firstFault_51 : decode cX0_firstFault 51 = .ok (.ifCond .ne 7, 3) := by decide +kernel
theorem dX0_firstFault_54 : decode cX0_firstFault 54 = .ok (.iconst (-1), 1) := by decide +kernel
theorem dX0_firstFault_55 : decode cX0_firstFault 55 = .ok (.goto 4, 3) := by decide +kernel
theorem dX0_firstFault_58 : decode cX0_firstFault 58 = .ok (.iload_n 3, 1) := by decide +kernel
theorem dX0_firstFault_59 : decode cX0_firstFault 59 = .ok (.ireturn, 1) := by decide +kernel
theorem dX0_goesOnWith_0 : decode cX0_goesOnWith 0 = .ok (.iload_n 0, 1) := by decide +kernel
theorem dX0_goesOnWith_1 : decode cX0_goesOnWith 1 = .ok (.lookupswitch 63 #[(0, 27), (1, 45)], 27) := by decide +kernel
theorem dX0_goesOnWith_28 : decode cX0_goesOnWith 28 = .ok (.iload_n 1, 1) := by decide +kernel
theorem dX0_goesOnWith_29 : decode cX0_goesOnWith 29 = .ok (.bipush 49, 2) := by decide +kernel
theorem dX0_goesOnWith_31 : decode cX0_goesOnWith 31 = .ok (.if_icmp .lt 13, 3) := by decide +kernel
theorem dX0_goesOnWith_34 : decode cX0_goesOnWith 34 = .ok (.iload_n 1, 1) := by decide +kernel
theorem dX0_goesOnWith_35 : decode cX0_goesOnWith 35 = .ok (.bipush 57, 2) := by decide +kernel
theorem dX0_goesOnWith_37 : decode cX0_goesOnWith 37 = .ok (.if_icmp .gt 7, 3) := by decide +kernel
theorem dX0_goesOnWith_40 : decode cX0_goesOnWith 40 = .ok (.iconst 1, 1) := by decide +kernel
theorem dX0_goesOnWith_41 : decode cX0_goesOnWith 41 = .ok (.goto 4, 3) := by decide +kernel
theorem dX0_goesOnWith_44 : decode cX0_goesOnWith 44 = .ok (.iconst 0, 1) := by decide +kernel
theorem dX0_goesOnWith_45 : decode cX0_goesOnWith 45 = .ok (.ireturn, 1) := by decide +kernel
theorem dX0_goesOnWith_46 : decode cX0_goesOnWith 46 = .ok (.iload_n 1, 1) := by decide +kernel
theorem dX0_goesOnWith_47 : decode cX0_goesOnWith 47 = .ok (.bipush 48, 2) := by decide +kernel
theorem dX0_goesOnWith_49 : decode cX0_goesOnWith 49 = .ok (.if_icmp .lt 13, 3) := by decide +kernel
theorem dX0_goesOnWith_52 : decode cX0_goesOnWith 52 = .ok (.iload_n 1, 1) := by decide +kernel
theorem dX0_goesOnWith_53 : decode cX0_goesOnWith 53 = .ok (.bipush 56, 2) := by decide +kernel
theorem dX0_goesOnWith_55 : decode cX0_goesOnWith 55 = .ok (.if_icmp .gt 7, 3) := by decide +kernel
theorem dX0_goesOnWith_58 : decode cX0_goesOnWith 58 = .ok (.iconst 1, 1) := by decide +kernel
theorem dX0_goesOnWith_59 : decode cX0_goesOnWith 59 = .ok (.goto 4, 3) := by decide +kernel
theorem dX0_goesOnWith_62 : decode cX0_goesOnWith 62 = .ok (.iconst 0, 1) := by decide +kernel
theorem dX0_goesOnWith_63 : decode cX0_goesOnWith 63 = .ok (.ireturn, 1) := by decide +kernel
theorem dX0_goesOnWith_64 : decode cX0_goesOnWith 64 = .ok (.iload_n 1, 1) := by decide +kernel
theorem dX0_goesOnWith_65 : decode cX0_goesOnWith 65 = .ok (.bipush 48, 2) := by decide +kernel
theorem dX0_goesOnWith_67 : decode cX0_goesOnWith 67 = .ok (.if_icmp .lt 13, 3) := by decide +kernel
theorem dX0_goesOnWith_70 : decode cX0_goesOnWith 70 = .ok (.iload_n 1, 1) := by decide +kernel
theorem dX0_goesOnWith_71 : decode cX0_goesOnWith 71 = .ok (.bipush 57, 2) := by decide +kernel
theorem dX0_goesOnWith_73 : decode cX0_goesOnWith 73 = .ok (.if_icmp .gt 7, 3) := by decide +kernel
theorem dX0_goesOnWith_76 : decode cX0_goesOnWith 76 = .ok (.iconst 1, 1) := by decide +kernel
theorem dX0_goesOnWith_77 : decode cX0_goesOnWith 77 = .ok (.goto 4, 3) := by decide +kernel
theorem dX0_goesOnWith_80 : decode cX0_goesOnWith 80 = .ok (.iconst 0, 1) := by decide +kernel
theorem dX0_goesOnWith_81 : decode cX0_goesOnWith 81 = .ok (.ireturn, 1) := by decide +kernel
theorem dX0_read_0 : decode cX0_read 0 = .ok (.aload_n 0, 1) := by decide +kernel
theorem dX0_read_1 : decode cX0_read 1 = .ok (.iload 4, 2) := by decide +kernel
theorem dX0_read_3 : decode cX0_read 3 = .ok (.iconst 3, 1) := by decide +kernel
theorem dX0_read_4 : decode cX0_read 4 = .ok (.idiv, 1) := by decide +kernel
theorem dX0_read_5 : decode cX0_read 5 = .ok (.bipush 24, 2) := by decide +kernel
theorem dX0_read_7 : decode cX0_read 7 = .ok (.invokestatic 39, 3) := by decide +kernel
theorem dX0_read_10 : decode cX0_read 10 = .ok (.putfield 9, 3) := by decide +kernel
theorem dX0_read_13 : decode cX0_read 13 = .ok (.iconst 0, 1) := by decide +kernel
theorem dX0_read_14 : decode cX0_read 14 = .ok (.istore 5, 2) := by decide +kernel
theorem dX0_read_16 : decode cX0_read 16 = .ok (.iload 5, 2) := by decide +kernel
theorem dX0_read_18 : decode cX0_read 18 = .ok (.aload_n 0, 1) := by decide +kernel
theorem dX0_read_19 : decode cX0_read 19 = .ok (.getfield 9, 3) := by decide +kernel
theorem dX0_read_22 : decode cX0_read 22 = .ok (.if_icmp .ge 74, 3) := by decide +kernel
theorem dX0_read_25 : decode cX0_read 25 = .ok (.iload_n 3, 1) := by decide +kernel
theorem dX0_read_26 : decode cX0_read 26 = .ok (.iload 5, 2) := by decide +kernel
theorem dX0_read_28 : decode cX0_read 28 = .ok (.iconst 3, 1) := by decide +kernel
theorem dX0_read_29 : decode cX0_read 29 = .ok (.imul, 1) := by decide +kernel
theorem dX0_read_30 : decode cX0_read 30 = .ok (.iadd, 1) := by decide +kernel
theorem dX0_read_31 : decode cX0_read 31 = .ok (.istore 6, 2) := by decide +kernel
theorem dX0_read_33 : decode cX0_read 33 = .ok (.aload_n 0, 1) := by decide +kernel
theorem dX0_read_34 : decode cX0_read 34 = .ok (.getfield 15, 3) := by decide +kernel
theorem dX0_read_37 : decode cX0_read 37 = .ok (.iload 5, 2) := by decide +kernel
theorem dX0_read_39 : decode cX0_read 39 = .ok (.aload_n 1, 1) := by decide +kernel
theorem dX0_read_40 : decode cX0_read 40 = .ok (.iload_n 2, 1) := by decide +kernel
theorem dX0_read_41 : decode cX0_read 41 = .ok (.iload 6, 2) := by decide +kernel
theorem dX0_read_43 : decode cX0_read 43 = .ok (.invokevirtual 29, 3) := by decide +kernel
theorem dX0_read_46 : decode cX0_read 46 = .ok (.bipush 48, 2) := by decide +kernel
theorem dX0_read_48 : decode cX0_read 48 = .ok (.isub, 1) := by decide +kernel
theorem dX0_read_49 : decode cX0_read 49 = .ok (.iastore, 1) := by decide +kernel
theorem dX0_read_50 : decode cX0_read 50 = .ok (.aload_n 0, 1) := by decide +kernel
theorem dX0_read_51 : decode cX0_read 51 = .ok (.getfield 19, 3) := by decide +kernel
theorem dX0_read_54 : decode cX0_read 54 = .ok (.iload 5, 2) := by decide +kernel
theorem dX0_read_56 : decode cX0_read 56 = .ok (.aload_n 1, 1) := by decide +kernel
theorem dX0_read_57 : decode cX0_read 57 = .ok (.iload_n 2, 1) := by decide +kernel
theorem dX0_read_58 : decode cX0_read 58 = .ok (.iload 6, 2) := by decide +kernel
theorem dX0_read_60 : decode cX0_read 60 = .ok (.iconst 1, 1) := by decide +kernel
theorem dX0_read_61 : decode cX0_read 61 = .ok (.iadd, 1) := by decide +kernel
theorem dX0_read_62 : decode cX0_read 62 = .ok (.invokevirtual 29, 3) := by decide +kernel
theorem dX0_read_65 : decode cX0_read 65 = .ok (.bipush 48, 2) := by decide +kernel
theorem dX0_read_67 : decode cX0_read 67 = .ok (.isub, 1) := by decide +kernel
theorem dX0_read_68 : decode cX0_read 68 = .ok (.iconst 4, 1) := by decide +kernel
theorem dX0_read_69 : decode cX0_read 69 = .ok (.isub, 1) := by decide +kernel
theorem dX0_read_70 : decode cX0_read 70 = .ok (.iastore, 1) := by decide +kernel
theorem dX0_read_71 : decode cX0_read 71 = .ok (.aload_n 0, 1) := by decide +kernel
theorem dX0_read_72 : decode cX0_read 72 = .ok (.getfield 22, 3) := by decide +kernel
theorem dX0_read_75 : decode cX0_read 75 = .ok (.iload 5, 2) := by decide +kernel
theorem dX0_read_77 : decode cX0_read 77 = .ok (.aload_n 1, 1) := by decide +kernel
theorem dX0_read_78 : decode cX0_read 78 = .ok (.iload_n 2, 1) := by decide +kernel
theorem dX0_read_79 : decode cX0_read 79 = .ok (.iload 6, 2) := by decide +kernel
theorem dX0_read_81 : decode cX0_read 81 = .ok (.iconst 2, 1) := by decide +kernel
theorem dX0_read_82 : decode cX0_read 82 = .ok (.iadd, 1) := by decide +kernel
theorem dX0_read_83 : decode cX0_read 83 = .ok (.invokevirtual 29, 3) := by decide +kernel
theorem dX0_read_86 : decode cX0_read 86 = .ok (.bipush 48, 2) := by decide +kernel
theorem dX0_read_88 : decode cX0_read 88 = .ok (.isub, 1) := by decide +kernel
theorem dX0_read_89 : decode cX0_read 89 = .ok (.iastore, 1) := by decide +kernel
theorem dX0_read_90 : decode cX0_read 90 = .ok (.iinc 5 1, 3) := by decide +kernel
theorem dX0_read_93 : decode cX0_read 93 = .ok (.goto (-77), 3) := by decide +kernel
theorem dX0_read_96 : decode cX0_read 96 = .ok (.return_, 1) := by decide +kernel
theorem dX1_init_0 : decode cX1_init 0 = .ok (.aload_n 0, 1) := by decide +kernel
theorem dX1_init_1 : decode cX1_init 1 = .ok (.invokespecial 3, 3) := by decide +kernel
theorem dX1_init_4 : decode cX1_init 4 = .ok (.aload_n 0, 1) := by decide +kernel
theorem dX1_init_5 : decode cX1_init 5 = .ok (.iconst 0, 1) := by decide +kernel
theorem dX1_init_6 : decode cX1_init 6 = .ok (.putfield 9, 3) := by decide +kernel
theorem dX1_init_9 : decode cX1_init 9 = .ok (.aload_n 0, 1) := by decide +kernel
theorem dX1_init_10 : decode cX1_init 10 = .ok (.bipush (-9), 2) := by decide +kernel
theorem dX1_init_12 : decode cX1_init 12 = .ok (.putfield 15, 3) := by decide +kernel
theorem dX1_init_15 : decode cX1_init 15 = .ok (.aload_n 0, 1) := by decide +kernel
theorem dX1_init_16 : decode cX1_init 16 = .ok (.iconst 0, 1) := by decide +kernel
theorem dX1_init_17 : decode cX1_init 17 = .ok (.putfield 18, 3) := by decide +kernel
theorem dX1_init_20 : decode cX1_init 20 = .ok (.aload_n 0, 1) := by decide +kernel
theorem dX1_init_21 : decode cX1_init 21 = .ok (.bipush 24, 2) := by decide +kernel
theorem dX1_init_23 : decode cX1_init 23 = .ok (.newarray .int, 2) := by decide +kernel
theorem dX1_init_25 : decode cX1_init 25 = .ok (.putfield 23, 3) := by decide +kernel
theorem dX1_init_28 : decode cX1_init 28 = .ok (.aload_n 0, 1) := by decide +kernel
theorem dX1_init_29 : decode cX1_init 29 = .ok (.bipush 24, 2) := by decide +kernel
theorem dX1_init_31 : decode cX1_init 31 = .ok (.newarray .int, 2) := by decide +kernel
theorem dX1_init_33 : decode cX1_init 33 = .ok (.putfield 27, 3) := by decide +kernel
theorem dX1_init_36 : decode cX1_init 36 = .ok (.return_, 1) := by decide +kernel
theorem dX1_placeBehind_0 : decode cX1_placeBehind 0 = .ok (.iload_n 1, 1) := by decide +kernel
theorem dX1_placeBehind_1 : decode cX1_placeBehind 1 = .ok (.ifCond .lt 26, 3) := by decide +kernel
theorem dX1_placeBehind_4 : decode cX1_placeBehind 4 = .ok (.iload_n 1, 1) := by decide +kernel
theorem dX1_placeBehind_5 : decode cX1_placeBehind 5 = .ok (.aload_n 0, 1) := by decide +kernel
theorem dX1_placeBehind_6 : decode cX1_placeBehind 6 = .ok (.getfield 9, 3) := by decide +kernel
theorem dX1_placeBehind_9 : decode cX1_placeBehind 9 = .ok (.if_icmp .ge 18, 3) := by decide +kernel
theorem dX1_placeBehind_12 : decode cX1_placeBehind 12 = .ok (.iload_n 1, 1) := by decide +kernel
theorem dX1_placeBehind_13 : decode cX1_placeBehind 13 = .ok (.bipush 24, 2) := by decide +kernel
theorem dX1_placeBehind_15 : decode cX1_placeBehind 15 = .ok (.if_icmp .ge 12, 3) := by decide +kernel
theorem dX1_placeBehind_18 : decode cX1_placeBehind 18 = .ok (.aload_n 0, 1) := by decide +kernel
theorem dX1_placeBehind_19 : decode cX1_placeBehind 19 = .ok (.getfield 23, 3) := by decide +kernel
theorem dX1_placeBehind_22 : decode cX1_placeBehind 22 = .ok (.iload_n 1, 1) := by decide +kernel
theorem dX1_placeBehind_23 : decode cX1_placeBehind 23 = .ok (.iaload, 1) := by decide +kernel
theorem dX1_placeBehind_24 : decode cX1_placeBehind 24 = .ok (.goto 4, 3) := by decide +kernel
theorem dX1_placeBehind_27 : decode cX1_placeBehind 27 = .ok (.iconst 0, 1) := by decide +kernel
theorem dX1_placeBehind_28 : decode cX1_placeBehind 28 = .ok (.ireturn, 1) := by decide +kernel
theorem dX1_headingBehind_0 : decode cX1_headingBehind 0 = .ok (.iload_n 1, 1) := by decide +kernel
theorem dX1_headingBehind_1 : decode cX1_headingBehind 1 = .ok (.ifCond .lt 26, 3) := by decide +kernel
theorem dX1_headingBehind_4 : decode cX1_headingBehind 4 = .ok (.iload_n 1, 1) := by decide +kernel
theorem dX1_headingBehind_5 : decode cX1_headingBehind 5 = .ok (.aload_n 0, 1) := by decide +kernel
theorem dX1_headingBehind_6 : decode cX1_headingBehind 6 = .ok (.getfield 9, 3) := by decide +kernel
theorem dX1_headingBehind_9 : decode cX1_headingBehind 9 = .ok (.if_icmp .ge 18, 3) := by decide +kernel
theorem dX1_headingBehind_12 : decode cX1_headingBehind 12 = .ok (.iload_n 1, 1) := by decide +kernel
theorem dX1_headingBehind_13 : decode cX1_headingBehind 13 = .ok (.bipush 24, 2) := by decide +kernel
theorem dX1_headingBehind_15 : decode cX1_headingBehind 15 = .ok (.if_icmp .ge 12, 3) := by decide +kernel
theorem dX1_headingBehind_18 : decode cX1_headingBehind 18 = .ok (.aload_n 0, 1) := by decide +kernel
theorem dX1_headingBehind_19 : decode cX1_headingBehind 19 = .ok (.getfield 27, 3) := by decide +kernel
theorem dX1_headingBehind_22 : decode cX1_headingBehind 22 = .ok (.iload_n 1, 1) := by decide +kernel
theorem dX1_headingBehind_23 : decode cX1_headingBehind 23 = .ok (.iaload, 1) := by decide +kernel
theorem dX1_headingBehind_24 : decode cX1_headingBehind 24 = .ok (.goto 4, 3) := by decide +kernel
theorem dX1_headingBehind_27 : decode cX1_headingBehind 27 = .ok (.iconst 0, 1) := by decide +kernel
theorem dX1_headingBehind_28 : decode cX1_headingBehind 28 = .ok (.ireturn, 1) := by decide +kernel
theorem dX1_go_0 : decode cX1_go 0 = .ok (.aload_n 0, 1) := by decide +kernel
theorem dX1_go_1 : decode cX1_go 1 = .ok (.iconst 0, 1) := by decide +kernel
theorem dX1_go_2 : decode cX1_go 2 = .ok (.putfield 9, 3) := by decide +kernel
theorem dX1_go_5 : decode cX1_go 5 = .ok (.aload_n 0, 1) := by decide +kernel
theorem dX1_go_6 : decode cX1_go 6 = .ok (.bipush (-9), 2) := by decide +kernel
theorem dX1_go_8 : decode cX1_go 8 = .ok (.putfield 15, 3) := by decide +kernel
theorem dX1_go_11 : decode cX1_go 11 = .ok (.aload_n 0, 1) := by decide +kernel
theorem dX1_go_12 : decode cX1_go 12 = .ok (.iconst 0, 1) := by decide +kernel
theorem dX1_go_13 : decode cX1_go 13 = .ok (.putfield 18, 3) := by decide +kernel
theorem dX1_go_16 : decode cX1_go 16 = .ok (.aload_n 1, 1) := by decide +kernel
theorem dX1_go_17 : decode cX1_go 17 = .ok (.invokevirtual 30, 3) := by decide +kernel
theorem dX1_go_20 : decode cX1_go 20 = .ok (.istore 4, 2) := by decide +kernel
theorem dX1_go_22 : decode cX1_go 22 = .ok (.aload_n 1, 1) := by decide +kernel
theorem dX1_go_23 : decode cX1_go 23 = .ok (.invokevirtual 36, 3) := by decide +kernel
theorem dX1_go_26 : decode cX1_go 26 = .ok (.istore 5, 2) := by decide +kernel
theorem dX1_go_28 : decode cX1_go 28 = .ok (.iconst 0, 1) := by decide +kernel
theorem dX1_go_29 : decode cX1_go 29 = .ok (.istore 6, 2) := by decide +kernel
theorem dX1_go_31 : decode cX1_go 31 = .ok (.iload 6, 2) := by decide +kernel
theorem dX1_go_33 : decode cX1_go 33 = .ok (.aload_n 2, 1) := by decide +kernel
theorem dX1_go_34 : decode cX1_go 34 = .ok (.getfield 39, 3) := by decide +kernel
theorem dX1_go_37 : decode cX1_go 37 = .ok (.if_icmp .ge 113, 3) := by decide +kernel
theorem dX1_go_40 : decode cX1_go 40 = .ok (.iload 6, 2) := by decide +kernel
theorem dX1_go_42 : decode cX1_go 42 = .ok (.bipush 24, 2) := by decide +kernel
theorem dX1_go_44 : decode cX1_go 44 = .ok (.if_icmp .ge 106, 3) := by decide +kernel
theorem dX1_go_47 : decode cX1_go 47 = .ok (.aload_n 2, 1) := by decide +kernel
theorem dX1_go_48 : decode cX1_go 48 = .ok (.iload 6, 2) := by decide +kernel
theorem dX1_go_50 : decode cX1_go 50 = .ok (.invokevirtual 42, 3) := by decide +kernel
theorem dX1_go_53 : decode cX1_go 53 = .ok (.iload 5, 2) := by decide +kernel
theorem dX1_go_55 : decode cX1_go 55 = .ok (.if_icmp .le 10, 3) := by decide +kernel
theorem dX1_go_58 : decode cX1_go 58 = .ok (.aload_n 0, 1) := by decide +kernel
theorem dX1_go_59 : decode cX1_go 59 = .ok (.iload 6, 2) := by decide +kernel
theorem dX1_go_61 : decode cX1_go 61 = .ok (.putfield 15, 3) := by decide +kernel
theorem dX1_go_64 : decode cX1_go 64 = .ok (.return_, 1) := by decide +kernel
theorem dX1_go_65 : decode cX1_go 65 = .ok (.bipush 10, 2) := by decide +kernel
theorem dX1_go_67 : decode cX1_go 67 = .ok (.aload_n 2, 1) := by decide +kernel
theorem dX1_go_68 : decode cX1_go 68 = .ok (.iload 6, 2) := by decide +kernel
theorem dX1_go_70 : decode cX1_go 70 = .ok (.invokevirtual 46, 3) := by decide +kernel
theorem dX1_go_73 : decode cX1_go 73 = .ok (.imul, 1) := by decide +kernel
theorem dX1_go_74 : decode cX1_go 74 = .ok (.istore 7, 2) := by decide +kernel
theorem dX1_go_76 : decode cX1_go 76 = .ok (.iload 7, 2) := by decide +kernel
theorem dX1_go_78 : decode cX1_go 78 = .ok (.ifCond .le 11, 3) := by decide +kernel
theorem dX1_go_81 : decode cX1_go 81 = .ok (.iload 4, 2) := by decide +kernel
theorem dX1_go_83 : decode cX1_go 83 = .ok (.iload 7, 2) := by decide +kernel
theorem dX1_go_85 : decode cX1_go 85 = .ok (.idiv, 1) := by decide +kernel
theorem dX1_go_86 : decode cX1_go 86 = .ok (.goto 4, 3) := by decide +kernel
theorem dX1_go_89 : decode cX1_go 89 = .ok (.iconst 0, 1) := by decide +kernel
theorem dX1_go_90 : decode cX1_go 90 = .ok (.istore 8, 2) := by decide +kernel
theorem dX1_go_92 : decode cX1_go 92 = .ok (.aload_n 3, 1) := by decide +kernel
theorem dX1_go_93 : decode cX1_go 93 = .ok (.getfield 49, 3) := by decide +kernel
theorem dX1_go_96 : decode cX1_go 96 = .ok (.aload_n 0, 1) := by decide +kernel
theorem dX1_go_97 : decode cX1_go 97 = .ok (.iload 6, 2) := by decide +kernel
theorem dX1_go_99 : decode cX1_go 99 = .ok (.iconst 1, 1) := by decide +kernel
theorem dX1_go_100 : decode cX1_go 100 = .ok (.isub, 1) := by decide +kernel
theorem dX1_go_101 : decode cX1_go 101 = .ok (.aload_n 3, 1) := by decide +kernel
theorem dX1_go_102 : decode cX1_go 102 = .ok (.getfield 54, 3) := by decide +kernel
theorem dX1_go_105 : decode cX1_go 105 = .ok (.isub, 1) := by decide +kernel
theorem dX1_go_106 : decode cX1_go 106 = .ok (.invokevirtual 57, 3) := by decide +kernel
theorem dX1_go_109 : decode cX1_go 109 = .ok (.imul, 1) := by decide +kernel
theorem dX1_go_110 : decode cX1_go 110 = .ok (.bipush 8, 2) := by decide +kernel
theorem dX1_go_112 : decode cX1_go 112 = .ok (.idiv, 1) := by decide +kernel
theorem dX1_go_113 : decode cX1_go 113 = .ok (.istore 9, 2) := by decide +kernel
theorem dX1_go_115 : decode cX1_go 115 = .ok (.iload 8, 2) := by decide +kernel
theorem dX1_go_117 : decode cX1_go 117 = .ok (.aload_n 2, 1) := by decide +kernel
theorem dX1_go_118 : decode cX1_go 118 = .ok (.iload 6, 2) := by decide +kernel
theorem dX1_go_120 : decode cX1_go 120 = .ok (.invokevirtual 60, 3) := by decide +kernel
theorem dX1_go_123 : decode cX1_go 123 = .ok (.iadd, 1) := by decide +kernel
theorem dX1_go_124 : decode cX1_go 124 = .ok (.aload_n 3, 1) := by decide +kernel
theorem dX1_go_125 : decode cX1_go 125 = .ok (.getfield 63, 3) := by decide +kernel
theorem dX1_go_128 : decode cX1_go 128 = .ok (.iadd, 1) := by decide +kernel
theorem dX1_go_129 : decode cX1_go 129 = .ok (.iload 9, 2) := by decide +kernel
theorem dX1_go_131 : decode cX1_go 131 = .ok (.isub, 1) := by decide +kernel
theorem dX1_go_132 : decode cX1_go 132 = .ok (.istore 10, 2) := by decide +kernel
theorem dX1_go_134 : decode cX1_go 134 = .ok (.aload_n 0, 1) := by decide +kernel
theorem dX1_go_135 : decode cX1_go 135 = .ok (.iload 10, 2) := by decide +kernel
theorem dX1_go_137 : decode cX1_go 137 = .ok (.aload_n 3, 1) := by decide +kernel
theorem dX1_go_138 : decode cX1_go 138 = .ok (.getfield 66, 3) := by decide +kernel
theorem dX1_go_141 : decode cX1_go 141 = .ok (.invokevirtual 69, 3) := by decide +kernel
theorem dX1_go_144 : decode cX1_go 144 = .ok (.iinc 6 1, 3) := by decide +kernel
theorem dX1_go_147 : decode cX1_go 147 = .ok (.goto (-116), 3) := by decide +kernel
theorem dX1_go_150 : decode cX1_go 150 = .ok (.return_, 1) := by decide +kernel
theorem dX1_stroke_0 : decode cX1_stroke 0 = .ok (.aload_n 0, 1) := by decide +kernel
theorem dX1_stroke_1 : decode cX1_stroke 1 = .ok (.getfield 9, 3) := by decide +kernel
theorem dX1_stroke_4 : decode cX1_stroke 4 = .ok (.istore_n 3, 1) := by decide +kernel
theorem dX1_stroke_5 : decode cX1_stroke 5 = .ok (.iload_n 3, 1) := by decide +kernel
theorem dX1_stroke_6 : decode cX1_stroke 6 = .ok (.ifCond .lt 9, 3) := by decide +kernel
theorem dX1_stroke_9 : decode cX1_stroke 9 = .ok (.iload_n 3, 1) := by decide +kernel
theorem dX1_stroke_10 : decode cX1_stroke 10 = .ok (.bipush 24, 2) := by decide +kernel
theorem dX1_stroke_12 : decode cX1_stroke 12 = .ok (.if_icmp .lt 4, 3) := by decide +kernel
theorem dX1_stroke_15 : decode cX1_stroke 15 = .ok (.return_, 1) := by decide +kernel
theorem dX1_stroke_16 : decode cX1_stroke 16 = .ok (.aload_n 0, 1) := by decide +kernel
theorem dX1_stroke_17 : decode cX1_stroke 17 = .ok (.iload_n 3, 1) := by decide +kernel
theorem dX1_stroke_18 : decode cX1_stroke 18 = .ok (.iconst 1, 1) := by decide +kernel
theorem dX1_stroke_19 : decode cX1_stroke 19 = .ok (.isub, 1) := by decide +kernel
theorem dX1_stroke_20 : decode cX1_stroke 20 = .ok (.invokevirtual 73, 3) := by decide +kernel
theorem dX1_stroke_23 : decode cX1_stroke 23 = .ok (.iload_n 1, 1) := by decide +kernel
theorem dX1_stroke_24 : decode cX1_stroke 24 = .ok (.iadd, 1) := by decide +kernel
theorem dX1_stroke_25 : decode cX1_stroke 25 = .ok (.istore 4, 2) := by decide +kernel
theorem dX1_stroke_27 : decode cX1_stroke 27 = .ok (.bipush (-99), 2) := by decide +kernel
theorem dX1_stroke_29 : decode cX1_stroke 29 = .ok (.bipush 99, 2) := by decide +kernel
theorem dX1_stroke_31 : decode cX1_stroke 31 = .ok (.iload 4, 2) := by decide +kernel
theorem dX1_stroke_33 : decode cX1_stroke 33 = .ok (.invokestatic 76, 3) := by decide +kernel
theorem dX1_stroke_36 : decode cX1_stroke 36 = .ok (.invokestatic 82, 3) := by decide +kernel
theorem dX1_stroke_39 : decode cX1_stroke 39 = .ok (.istore 4, 2) := by decide +kernel
theorem dX1_stroke_41 : decode cX1_stroke 41 = .ok (.aload_n 0, 1) := by decide +kernel
theorem dX1_stroke_42 : decode cX1_stroke 42 = .ok (.iload_n 3, 1) := by decide +kernel
theorem dX1_stroke_43 : decode cX1_stroke 43 = .ok (.iconst 1, 1) := by decide +kernel
theorem dX1_stroke_44 : decode cX1_stroke 44 = .ok (.isub, 1) := by decide +kernel
theorem dX1_stroke_45 : decode cX1_stroke 45 = .ok (.invokevirtual 57, 3) := by decide +kernel
theorem dX1_stroke_48 : decode cX1_stroke 48 = .ok (.iload 4, 2) := by decide +kernel
theorem dX1_stroke_50 : decode cX1_stroke 50 = .ok (.iadd, 1) := by decide +kernel
theorem dX1_stroke_51 : decode cX1_stroke 51 = .ok (.istore 5, 2) := by decide +kernel
theorem dX1_stroke_53 : decode cX1_stroke 53 = .ok (.iload_n 2, 1) := by decide +kernel
theorem dX1_stroke_54 : decode cX1_stroke 54 = .ok (.ifCond .le 28, 3) := by decide +kernel
theorem dX1_stroke_57 : decode cX1_stroke 57 = .ok (.iload 5, 2) := by decide +kernel
theorem dX1_stroke_59 : decode cX1_stroke 59 = .ok (.invokestatic 85, 3) := by decide +kernel
theorem dX1_stroke_62 : decode cX1_stroke 62 = .ok (.iload_n 2, 1) := by decide +kernel
theorem dX1_stroke_63 : decode cX1_stroke 63 = .ok (.if_icmp .le 19, 3) := by decide +kernel
theorem dX1_stroke_66 : decode cX1_stroke 66 = .ok (.iload 5, 2) := by decide +kernel
theorem dX1_stroke_68 : decode cX1_stroke 68 = .ok (.ifCond .le 7, 3) := by decide +kernel
theorem dX1_stroke_71 : decode cX1_stroke 71 = .ok (.iload_n 2, 1) := by decide +kernel
theorem dX1_stroke_72 : decode cX1_stroke 72 = .ok (.goto 5, 3) := by decide +kernel
theorem dX1_stroke_75 : decode cX1_stroke 75 = .ok (.iload_n 2, 1) := by decide +kernel
theorem dX1_stroke_76 : decode cX1_stroke 76 = .ok (.ineg, 1) := by decide +kernel
theorem dX1_stroke_77 : decode cX1_stroke 77 = .ok (.istore 5, 2) := by decide +kernel
theorem dX1_stroke_79 : decode cX1_stroke 79 = .ok (.iconst 0, 1) := by decide +kernel
theorem dX1_stroke_80 : decode cX1_stroke 80 = .ok (.istore 4, 2) := by decide +kernel
theorem dX1_stroke_82 : decode cX1_stroke 82 = .ok (.aload_n 0, 1) := by decide +kernel
theorem dX1_stroke_83 : decode cX1_stroke 83 = .ok (.getfield 23, 3) := by decide +kernel
theorem dX1_stroke_86 : decode cX1_stroke 86 = .ok (.iload_n 3, 1) := by decide +kernel
theorem dX1_stroke_87 : decode cX1_stroke 87 = .ok (.iload 5, 2) := by decide +kernel
theorem dX1_stroke_89 : decode cX1_stroke 89 = .ok (.iastore, 1) := by decide +kernel
theorem dX1_stroke_90 : decode cX1_stroke 90 = .ok (.aload_n 0, 1) := by decide +kernel
theorem dX1_stroke_91 : decode cX1_stroke 91 = .ok (.getfield 27, 3) := by decide +kernel
theorem dX1_stroke_94 : decode cX1_stroke 94 = .ok (.iload_n 3, 1) := by decide +kernel
theorem dX1_stroke_95 : decode cX1_stroke 95 = .ok (.iload 4, 2) := by decide +kernel
theorem dX1_stroke_97 : decode cX1_stroke 97 = .ok (.iastore, 1) := by decide +kernel
theorem dX1_stroke_98 : decode cX1_stroke 98 = .ok (.aload_n 0, 1) := by decide +kernel
theorem dX1_stroke_99 : decode cX1_stroke 99 = .ok (.iload_n 3, 1) := by decide +kernel
theorem dX1_stroke_100 : decode cX1_stroke 100 = .ok (.iconst 1, 1) := by decide +kernel
theorem dX1_stroke_101 : decode cX1_stroke 101 = .ok (.iadd, 1) := by decide +kernel
theorem dX1_stroke_102 : decode cX1_stroke 102 = .ok (.putfield 9, 3) := by decide +kernel
theorem dX1_stroke_105 : decode cX1_stroke 105 = .ok (.aload_n 0, 1) := by decide +kernel
theorem dX1_stroke_106 : decode cX1_stroke 106 = .ok (.aload_n 0, 1) := by decide +kernel
theorem dX1_stroke_107 : decode cX1_stroke 107 = .ok (.getfield 18, 3) := by decide +kernel
theorem dX1_stroke_110 : decode cX1_stroke 110 = .ok (.iload 5, 2) := by decide +kernel
theorem dX1_stroke_112 : decode cX1_stroke 112 = .ok (.invokestatic 85, 3) := by decide +kernel
theorem dX1_stroke_115 : decode cX1_stroke 115 = .ok (.invokestatic 82, 3) := by decide +kernel
theorem dX1_stroke_118 : decode cX1_stroke 118 = .ok (.putfield 18, 3) := by decide +kernel
theorem dX1_stroke_121 : decode cX1_stroke 121 = .ok (.return_, 1) := by decide +kernel
theorem dX2_init_0 : decode cX2_init 0 = .ok (.aload_n 0, 1) := by decide +kernel
theorem dX2_init_1 : decode cX2_init 1 = .ok (.invokespecial 3, 3) := by decide +kernel
theorem dX2_init_4 : decode cX2_init 4 = .ok (.aload_n 0, 1) := by decide +kernel
theorem dX2_init_5 : decode cX2_init 5 = .ok (.iconst 0, 1) := by decide +kernel
theorem dX2_init_6 : decode cX2_init 6 = .ok (.putfield 9, 3) := by decide +kernel
theorem dX2_init_9 : decode cX2_init 9 = .ok (.aload_n 0, 1) := by decide +kernel
theorem dX2_init_10 : decode cX2_init 10 = .ok (.bipush 6, 2) := by decide +kernel
theorem dX2_init_12 : decode cX2_init 12 = .ok (.newarray .int, 2) := by decide +kernel
theorem dX2_init_14 : decode cX2_init 14 = .ok (.putfield 15, 3) := by decide +kernel
theorem dX2_init_17 : decode cX2_init 17 = .ok (.aload_n 0, 1) := by decide +kernel
theorem dX2_init_18 : decode cX2_init 18 = .ok (.bipush 6, 2) := by decide +kernel
theorem dX2_init_20 : decode cX2_init 20 = .ok (.newarray .int, 2) := by decide +kernel
theorem dX2_init_22 : decode cX2_init 22 = .ok (.putfield 19, 3) := by decide +kernel
theorem dX2_init_25 : decode cX2_init 25 = .ok (.aload_n 0, 1) := by decide +kernel
theorem dX2_init_26 : decode cX2_init 26 = .ok (.bipush 6, 2) := by decide +kernel
theorem dX2_init_28 : decode cX2_init 28 = .ok (.newarray .int, 2) := by decide +kernel
theorem dX2_init_30 : decode cX2_init 30 = .ok (.putfield 22, 3) := by decide +kernel
theorem dX2_init_33 : decode cX2_init 33 = .ok (.return_, 1) := by decide +kernel
theorem dX2_has_0 : decode cX2_has 0 = .ok (.iload_n 1, 1) := by decide +kernel
theorem dX2_has_1 : decode cX2_has 1 = .ok (.ifCond .lt 21, 3) := by decide +kernel
theorem dX2_has_4 : decode cX2_has 4 = .ok (.iload_n 1, 1) := by decide +kernel
theorem dX2_has_5 : decode cX2_has 5 = .ok (.aload_n 0, 1) := by decide +kernel
theorem dX2_has_6 : decode cX2_has 6 = .ok (.getfield 9, 3) := by decide +kernel
theorem dX2_has_9 : decode cX2_has 9 = .ok (.if_icmp .ge 13, 3) := by decide +kernel
theorem dX2_has_12 : decode cX2_has 12 = .ok (.iload_n 1, 1) := by decide +kernel
theorem dX2_has_13 : decode cX2_has 13 = .ok (.bipush 6, 2) := by decide +kernel
theorem dX2_has_15 : decode cX2_has 15 = .ok (.if_icmp .ge 7, 3) := by decide +kernel
theorem dX2_has_18 : decode cX2_has 18 = .ok (.iconst 1, 1) := by decide +kernel
theorem dX2_has_19 : decode cX2_has 19 = .ok (.goto 4, 3) := by decide +kernel
theorem dX2_has_22 : decode cX2_has 22 = .ok (.iconst 0, 1) := by decide +kernel
theorem dX2_has_23 : decode cX2_has 23 = .ok (.ireturn, 1) := by decide +kernel
theorem dX2_toothOf_0 : decode cX2_toothOf 0 = .ok (.aload_n 0, 1) := by decide +kernel
theorem dX2_toothOf_1 : decode cX2_toothOf 1 = .ok (.iload_n 1, 1) := by decide +kernel
theorem dX2_toothOf_2 : decode cX2_toothOf 2 = .ok (.invokevirtual 25, 3) := by decide +kernel
theorem dX2_toothOf_5 : decode cX2_toothOf 5 = .ok (.ifCond .eq 12, 3) := by decide +kernel
theorem dX2_toothOf_8 : decode cX2_toothOf 8 = .ok (.aload_n 0, 1) := by decide +kernel
theorem dX2_toothOf_9 : decode cX2_toothOf 9 = .ok (.getfield 15, 3) := by decide +kernel
theorem dX2_toothOf_12 : decode cX2_toothOf 12 = .ok (.iload_n 1, 1) := by decide +kernel
theorem dX2_toothOf_13 : decode cX2_toothOf 13 = .ok (.iaload, 1) := by decide +kernel
theorem dX2_toothOf_14 : decode cX2_toothOf 14 = .ok (.goto 4, 3) := by decide +kernel
theorem dX2_toothOf_17 : decode cX2_toothOf 17 = .ok (.iconst 0, 1) := by decide +kernel
theorem dX2_toothOf_18 : decode cX2_toothOf 18 = .ok (.ireturn, 1) := by decide +kernel
theorem dX2_whatOf_0 : decode cX2_whatOf 0 = .ok (.aload_n 0, 1) := by decide +kernel
theorem dX2_whatOf_1 : decode cX2_whatOf 1 = .ok (.iload_n 1, 1) := by decide +kernel
theorem dX2_whatOf_2 : decode cX2_whatOf 2 = .ok (.invokevirtual 25, 3) := by decide +kernel
theorem dX2_whatOf_5 : decode cX2_whatOf 5 = .ok (.ifCond .eq 12, 3) := by decide +kernel
theorem dX2_whatOf_8 : decode cX2_whatOf 8 = .ok (.aload_n 0, 1) := by decide +kernel
theorem dX2_whatOf_9 : decode cX2_whatOf 9 = .ok (.getfield 19, 3) := by decide +kernel
theorem dX2_whatOf_12 : decode cX2_whatOf 12 = .ok (.iload_n 1, 1) := by decide +kernel
theorem dX2_whatOf_13 : decode cX2_whatOf 13 = .ok (.iaload, 1) := by decide +kernel
theorem dX2_whatOf_14 : decode cX2_whatOf 14 = .ok (.goto 4, 3) := by decide +kernel
theorem dX2_whatOf_17 : decode cX2_whatOf 17 = .ok (.iconst 0, 1) := by decide +kernel
theorem dX2_whatOf_18 : decode cX2_whatOf 18 = .ok (.ireturn, 1) := by decide +kernel
theorem dX2_valueOf_0 : decode cX2_valueOf 0 = .ok (.aload_n 0, 1) := by decide +kernel
theorem dX2_valueOf_1 : decode cX2_valueOf 1 = .ok (.iload_n 1, 1) := by decide +kernel
theorem dX2_valueOf_2 : decode cX2_valueOf 2 = .ok (.invokevirtual 25, 3) := by decide +kernel
theorem dX2_valueOf_5 : decode cX2_valueOf 5 = .ok (.ifCond .eq 12, 3) := by decide +kernel
theorem dX2_valueOf_8 : decode cX2_valueOf 8 = .ok (.aload_n 0, 1) := by decide +kernel
theorem dX2_valueOf_9 : decode cX2_valueOf 9 = .ok (.getfield 22, 3) := by decide +kernel
theorem dX2_valueOf_12 : decode cX2_valueOf 12 = .ok (.iload_n 1, 1) := by decide +kernel
theorem dX2_valueOf_13 : decode cX2_valueOf 13 = .ok (.iaload, 1) := by decide +kernel
theorem dX2_valueOf_14 : decode cX2_valueOf 14 = .ok (.goto 4, 3) := by decide +kernel
theorem dX2_valueOf_17 : decode cX2_valueOf 17 = .ok (.iconst 0, 1) := by decide +kernel
theorem dX2_valueOf_18 : decode cX2_valueOf 18 = .ok (.ireturn, 1) := by decide +kernel
theorem dX2_add_0 : decode cX2_add 0 = .ok (.aload_n 0, 1) := by decide +kernel
theorem dX2_add_1 : decode cX2_add 1 = .ok (.getfield 9, 3) := by decide +kernel
theorem dX2_add_4 : decode cX2_add 4 = .ok (.ifCond .lt 12, 3) := by decide +kernel
theorem dX2_add_7 : decode cX2_add 7 = .ok (.aload_n 0, 1) := by decide +kernel
theorem dX2_add_8 : decode cX2_add 8 = .ok (.getfield 9, 3) := by decide +kernel
theorem dX2_add_11 : decode cX2_add 11 = .ok (.bipush 6, 2) := by decide +kernel
theorem dX2_add_13 : decode cX2_add 13 = .ok (.if_icmp .lt 6, 3) := by decide +kernel
theorem dX2_add_16 : decode cX2_add 16 = .ok (.bipush (-4), 2) := by decide +kernel
theorem dX2_add_18 : decode cX2_add 18 = .ok (.ireturn, 1) := by decide +kernel
theorem dX2_add_19 : decode cX2_add 19 = .ok (.aload_n 0, 1) := by decide +kernel
theorem dX2_add_20 : decode cX2_add 20 = .ok (.getfield 15, 3) := by decide +kernel
theorem dX2_add_23 : decode cX2_add 23 = .ok (.aload_n 0, 1) := by decide +kernel
theorem dX2_add_24 : decode cX2_add 24 = .ok (.getfield 9, 3) := by decide +kernel
theorem dX2_add_27 : decode cX2_add 27 = .ok (.iload_n 1, 1) := by decide +kernel
theorem dX2_add_28 : decode cX2_add 28 = .ok (.iastore, 1) := by decide +kernel
theorem dX2_add_29 : decode cX2_add 29 = .ok (.aload_n 0, 1) := by decide +kernel
theorem dX2_add_30 : decode cX2_add 30 = .ok (.getfield 19, 3) := by decide +kernel
theorem dX2_add_33 : decode cX2_add 33 = .ok (.aload_n 0, 1) := by decide +kernel
theorem dX2_add_34 : decode cX2_add 34 = .ok (.getfield 9, 3) := by decide +kernel
theorem dX2_add_37 : decode cX2_add 37 = .ok (.iload_n 2, 1) := by decide +kernel
theorem dX2_add_38 : decode cX2_add 38 = .ok (.iastore, 1) := by decide +kernel
theorem dX2_add_39 : decode cX2_add 39 = .ok (.aload_n 0, 1) := by decide +kernel
theorem dX2_add_40 : decode cX2_add 40 = .ok (.getfield 22, 3) := by decide +kernel
theorem dX2_add_43 : decode cX2_add 43 = .ok (.aload_n 0, 1) := by decide +kernel
theorem dX2_add_44 : decode cX2_add 44 = .ok (.getfield 9, 3) := by decide +kernel
theorem dX2_add_47 : decode cX2_add 47 = .ok (.iload_n 3, 1) := by decide +kernel
theorem dX2_add_48 : decode cX2_add 48 = .ok (.iastore, 1) := by decide +kernel
theorem dX2_add_49 : decode cX2_add 49 = .ok (.aload_n 0, 1) := by decide +kernel
theorem dX2_add_50 : decode cX2_add 50 = .ok (.dup, 1) := by decide +kernel
theorem dX2_add_51 : decode cX2_add 51 = .ok (.getfield 9, 3) := by decide +kernel
theorem dX2_add_54 : decode cX2_add 54 = .ok (.iconst 1, 1) := by decide +kernel
theorem dX2_add_55 : decode cX2_add 55 = .ok (.iadd, 1) := by decide +kernel
theorem dX2_add_56 : decode cX2_add 56 = .ok (.putfield 9, 3) := by decide +kernel
theorem dX2_add_59 : decode cX2_add 59 = .ok (.aload_n 0, 1) := by decide +kernel
theorem dX2_add_60 : decode cX2_add 60 = .ok (.getfield 9, 3) := by decide +kernel
theorem dX2_add_63 : decode cX2_add 63 = .ok (.iconst 1, 1) := by decide +kernel
theorem dX2_add_64 : decode cX2_add 64 = .ok (.isub, 1) := by decide +kernel
theorem dX2_add_65 : decode cX2_add 65 = .ok (.ireturn, 1) := by decide +kernel
theorem dX2_applyTo_0 : decode cX2_applyTo 0 = .ok (.iconst 0, 1) := by decide +kernel
theorem dX2_applyTo_1 : decode cX2_applyTo 1 = .ok (.istore_n 3, 1) := by decide +kernel
theorem dX2_applyTo_2 : decode cX2_applyTo 2 = .ok (.iload_n 3, 1) := by decide +kernel
theorem dX2_applyTo_3 : decode cX2_applyTo 3 = .ok (.aload_n 0, 1) := by decide +kernel
theorem dX2_applyTo_4 : decode cX2_applyTo 4 = .ok (.getfield 9, 3) := by decide +kernel
theorem dX2_applyTo_7 : decode cX2_applyTo 7 = .ok (.if_icmp .ge 37, 3) := by decide +kernel
theorem dX2_applyTo_10 : decode cX2_applyTo 10 = .ok (.iload_n 2, 1) := by decide +kernel
theorem dX2_applyTo_11 : decode cX2_applyTo 11 = .ok (.iload_n 3, 1) := by decide +kernel
theorem dX2_applyTo_12 : decode cX2_applyTo 12 = .ok (.ishr, 1) := by decide +kernel
theorem dX2_applyTo_13 : decode cX2_applyTo 13 = .ok (.iconst 1, 1) := by decide +kernel
theorem dX2_applyTo_14 : decode cX2_applyTo 14 = .ok (.iand, 1) := by decide +kernel
theorem dX2_applyTo_15 : decode cX2_applyTo 15 = .ok (.iconst 1, 1) := by decide +kernel
theorem dX2_applyTo_16 : decode cX2_applyTo 16 = .ok (.if_icmp .ne 22, 3) := by decide +kernel
theorem dX2_applyTo_19 : decode cX2_applyTo 19 = .ok (.aload_n 1, 1) := by decide +kernel
theorem dX2_applyTo_20 : decode cX2_applyTo 20 = .ok (.aload_n 0, 1) := by decide +kernel
theorem dX2_applyTo_21 : decode cX2_applyTo 21 = .ok (.iload_n 3, 1) := by decide +kernel
theorem dX2_applyTo_22 : decode cX2_applyTo 22 = .ok (.invokevirtual 29, 3) := by decide +kernel
theorem dX2_applyTo_25 : decode cX2_applyTo 25 = .ok (.aload_n 0, 1) := by decide +kernel
theorem dX2_applyTo_26 : decode cX2_applyTo 26 = .ok (.iload_n 3, 1) := by decide +kernel
theorem dX2_applyTo_27 : decode cX2_applyTo 27 = .ok (.invokevirtual 33, 3) := by decide +kernel
theorem dX2_applyTo_30 : decode cX2_applyTo 30 = .ok (.aload_n 0, 1) := by decide +kernel
theorem dX2_applyTo_31 : decode cX2_applyTo 31 = .ok (.iload_n 3, 1) := by decide +kernel
theorem dX2_applyTo_32 : decode cX2_applyTo 32 = .ok (.invokevirtual 36, 3) := by decide +kernel
theorem dX2_applyTo_35 : decode cX2_applyTo 35 = .ok (.invokevirtual 39, 3) := by decide +kernel
theorem dX2_applyTo_38 : decode cX2_applyTo 38 = .ok (.iinc 3 1, 3) := by decide +kernel
theorem dX2_applyTo_41 : decode cX2_applyTo 41 = .ok (.goto (-39), 3) := by decide +kernel
theorem dX2_applyTo_44 : decode cX2_applyTo 44 = .ok (.return_, 1) := by decide +kernel
theorem dX3_init_0 : decode cX3_init 0 = .ok (.aload_n 0, 1) := by decide +kernel
theorem dX3_init_1 : decode cX3_init 1 = .ok (.invokespecial 1, 3) := by decide +kernel
theorem dX3_init_4 : decode cX3_init 4 = .ok (.aload_n 0, 1) := by decide +kernel
theorem dX3_init_5 : decode cX3_init 5 = .ok (.iconst 0, 1) := by decide +kernel
theorem dX3_init_6 : decode cX3_init 6 = .ok (.putfield 7, 3) := by decide +kernel
theorem dX3_init_9 : decode cX3_init 9 = .ok (.aload_n 0, 1) := by decide +kernel
theorem dX3_init_10 : decode cX3_init 10 = .ok (.iconst 0, 1) := by decide +kernel
theorem dX3_init_11 : decode cX3_init 11 = .ok (.putfield 13, 3) := by decide +kernel
theorem dX3_init_14 : decode cX3_init 14 = .ok (.aload_n 0, 1) := by decide +kernel
theorem dX3_init_15 : decode cX3_init 15 = .ok (.iconst 0, 1) := by decide +kernel
theorem dX3_init_16 : decode cX3_init 16 = .ok (.putfield 16, 3) := by decide +kernel
theorem dX3_init_19 : decode cX3_init 19 = .ok (.aload_n 0, 1) := by decide +kernel
theorem dX3_init_20 : decode cX3_init 20 = .ok (.iconst 0, 1) := by decide +kernel
theorem dX3_init_21 : decode cX3_init 21 = .ok (.putfield 19, 3) := by decide +kernel
theorem dX3_init_24 : decode cX3_init 24 = .ok (.return_, 1) := by decide +kernel
theorem dX3_become_0 : decode cX3_become 0 = .ok (.aload_n 0, 1) := by decide +kernel
theorem dX3_become_1 : decode cX3_become 1 = .ok (.aload_n 1, 1) := by decide +kernel
theorem dX3_become_2 : decode cX3_become 2 = .ok (.getfield 7, 3) := by decide +kernel
theorem dX3_become_5 : decode cX3_become 5 = .ok (.putfield 7, 3) := by decide +kernel
theorem dX3_become_8 : decode cX3_become 8 = .ok (.aload_n 0, 1) := by decide +kernel
theorem dX3_become_9 : decode cX3_become 9 = .ok (.aload_n 1, 1) := by decide +kernel
theorem dX3_become_10 : decode cX3_become 10 = .ok (.getfield 13, 3) := by decide +kernel
theorem dX3_become_13 : decode cX3_become 13 = .ok (.putfield 13, 3) := by decide +kernel
theorem dX3_become_16 : decode cX3_become 16 = .ok (.aload_n 0, 1) := by decide +kernel
theorem dX3_become_17 : decode cX3_become 17 = .ok (.aload_n 1, 1) := by decide +kernel
theorem dX3_become_18 : decode cX3_become 18 = .ok (.getfield 16, 3) := by decide +kernel
theorem dX3_become_21 : decode cX3_become 21 = .ok (.putfield 16, 3) := by decide +kernel
theorem dX3_become_24 : decode cX3_become 24 = .ok (.aload_n 0, 1) := by decide +kernel
theorem dX3_become_25 : decode cX3_become 25 = .ok (.aload_n 1, 1) := by decide +kernel
theorem dX3_become_26 : decode cX3_become 26 = .ok (.getfield 19, 3) := by decide +kernel
theorem dX3_become_29 : decode cX3_become 29 = .ok (.putfield 19, 3) := by decide +kernel
theorem dX3_become_32 : decode cX3_become 32 = .ok (.return_, 1) := by decide +kernel
theorem dX4_init_0 : decode cX4_init 0 = .ok (.aload_n 0, 1) := by decide +kernel
theorem dX4_init_1 : decode cX4_init 1 = .ok (.invokespecial 3, 3) := by decide +kernel
theorem dX4_init_4 : decode cX4_init 4 = .ok (.aload_n 0, 1) := by decide +kernel
theorem dX4_init_5 : decode cX4_init 5 = .ok (.bipush (-9), 2) := by decide +kernel
theorem dX4_init_7 : decode cX4_init 7 = .ok (.putfield 9, 3) := by decide +kernel
theorem dX4_init_10 : decode cX4_init 10 = .ok (.aload_n 0, 1) := by decide +kernel
theorem dX4_init_11 : decode cX4_init 11 = .ok (.bipush (-9), 2) := by decide +kernel
theorem dX4_init_13 : decode cX4_init 13 = .ok (.putfield 15, 3) := by decide +kernel
theorem dX4_init_16 : decode cX4_init 16 = .ok (.aload_n 0, 1) := by decide +kernel
theorem dX4_init_17 : decode cX4_init 17 = .ok (.bipush (-9), 2) := by decide +kernel
theorem dX4_init_19 : decode cX4_init 19 = .ok (.putfield 18, 3) := by decide +kernel
theorem dX4_init_22 : decode cX4_init 22 = .ok (.aload_n 0, 1) := by decide +kernel
theorem dX4_init_23 : decode cX4_init 23 = .ok (.bipush (-9), 2) := by decide +kernel
theorem dX4_init_25 : decode cX4_init 25 = .ok (.putfield 21, 3) := by decide +kernel
theorem dX4_init_28 : decode cX4_init 28 = .ok (.return_, 1) := by decide +kernel
theorem dX4_costOf_0 : decode cX4_costOf 0 = .ok (.iload_n 0, 1) := by decide +kernel
theorem dX4_costOf_1 : decode cX4_costOf 1 = .ok (.iconst 4, 1) := by decide +kernel
theorem dX4_costOf_2 : decode cX4_costOf 2 = .ok (.irem, 1) := by decide +kernel
theorem dX4_costOf_3 : decode cX4_costOf 3 = .ok (.lookupswitch 29 #[(0, 25), (3, 27)], 25) := by decide +kernel
theorem dX4_costOf_28 : decode cX4_costOf 28 = .ok (.iconst 2, 1) := by decide +kernel
theorem dX4_costOf_29 : decode cX4_costOf 29 = .ok (.ireturn, 1) := by decide +kernel
theorem dX4_costOf_30 : decode cX4_costOf 30 = .ok (.iconst 4, 1) := by decide +kernel
theorem dX4_costOf_31 : decode cX4_costOf 31 = .ok (.ireturn, 1) := by decide +kernel
theorem dX4_costOf_32 : decode cX4_costOf 32 = .ok (.iconst 1, 1) := by decide +kernel
theorem dX4_costOf_33 : decode cX4_costOf 33 = .ok (.ireturn, 1) := by decide +kernel
theorem dX4_toldNumber_0 : decode cX4_toldNumber 0 = .ok (.bipush 10, 2) := by decide +kernel
theorem dX4_toldNumber_2 : decode cX4_toldNumber 2 = .ok (.iload_n 0, 1) := by decide +kernel
theorem dX4_toldNumber_3 : decode cX4_toldNumber 3 = .ok (.iconst 4, 1) := by decide +kernel
theorem dX4_toldNumber_4 : decode cX4_toldNumber 4 = .ok (.idiv, 1) := by decide +kernel
theorem dX4_toldNumber_5 : decode cX4_toldNumber 5 = .ok (.imul, 1) := by decide +kernel
theorem dX4_toldNumber_6 : decode cX4_toldNumber 6 = .ok (.iload_n 0, 1) := by decide +kernel
theorem dX4_toldNumber_7 : decode cX4_toldNumber 7 = .ok (.iconst 4, 1) := by decide +kernel
theorem dX4_toldNumber_8 : decode cX4_toldNumber 8 = .ok (.irem, 1) := by decide +kernel
theorem dX4_toldNumber_9 : decode cX4_toldNumber 9 = .ok (.iadd, 1) := by decide +kernel
theorem dX4_toldNumber_10 : decode cX4_toldNumber 10 = .ok (.ireturn, 1) := by decide +kernel
theorem dX4_forget_0 : decode cX4_forget 0 = .ok (.aload_n 0, 1) := by decide +kernel
theorem dX4_forget_1 : decode cX4_forget 1 = .ok (.bipush (-9), 2) := by decide +kernel
theorem dX4_forget_3 : decode cX4_forget 3 = .ok (.putfield 9, 3) := by decide +kernel
theorem dX4_forget_6 : decode cX4_forget 6 = .ok (.aload_n 0, 1) := by decide +kernel
theorem dX4_forget_7 : decode cX4_forget 7 = .ok (.bipush (-9), 2) := by decide +kernel
theorem dX4_forget_9 : decode cX4_forget 9 = .ok (.putfield 15, 3) := by decide +kernel
theorem dX4_forget_12 : decode cX4_forget 12 = .ok (.aload_n 0, 1) := by decide +kernel
theorem dX4_forget_13 : decode cX4_forget 13 = .ok (.bipush (-9), 2) := by decide +kernel
theorem dX4_forget_15 : decode cX4_forget 15 = .ok (.putfield 18, 3) := by decide +kernel
theorem dX4_forget_18 : decode cX4_forget 18 = .ok (.aload_n 0, 1) := by decide +kernel
theorem dX4_forget_19 : decode cX4_forget 19 = .ok (.bipush (-9), 2) := by decide +kernel
theorem dX4_forget_21 : decode cX4_forget 21 = .ok (.putfield 21, 3) := by decide +kernel
theorem dX4_forget_24 : decode cX4_forget 24 = .ok (.return_, 1) := by decide +kernel
theorem dX4_isCheaper_0 : decode cX4_isCheaper 0 = .ok (.aload_n 0, 1) := by decide +kernel
theorem dX4_isCheaper_1 : decode cX4_isCheaper 1 = .ok (.getfield 15, 3) := by decide +kernel
theorem dX4_isCheaper_4 : decode cX4_isCheaper 4 = .ok (.bipush (-9), 2) := by decide +kernel
theorem dX4_isCheaper_6 : decode cX4_isCheaper 6 = .ok (.if_icmp .eq 11, 3) := by decide +kernel
theorem dX4_isCheaper_9 : decode cX4_isCheaper 9 = .ok (.iload_n 1, 1) := by decide +kernel
theorem dX4_isCheaper_10 : decode cX4_isCheaper 10 = .ok (.aload_n 0, 1) := by decide +kernel
theorem dX4_isCheaper_11 : decode cX4_isCheaper 11 = .ok (.getfield 15, 3) := by decide +kernel
theorem dX4_isCheaper_14 : decode cX4_isCheaper 14 = .ok (.if_icmp .ge 7, 3) := by decide +kernel
theorem dX4_isCheaper_17 : decode cX4_isCheaper 17 = .ok (.iconst 1, 1) := by decide +kernel
theorem dX4_isCheaper_18 : decode cX4_isCheaper 18 = .ok (.goto 4, 3) := by decide +kernel
theorem dX4_isCheaper_21 : decode cX4_isCheaper 21 = .ok (.iconst 0, 1) := by decide +kernel
theorem dX4_isCheaper_22 : decode cX4_isCheaper 22 = .ok (.ireturn, 1) := by decide +kernel
theorem dX4_keepNoAct_0 : decode cX4_keepNoAct 0 = .ok (.aload_n 0, 1) := by decide +kernel
theorem dX4_keepNoAct_1 : decode cX4_keepNoAct 1 = .ok (.iconst 0, 1) := by decide +kernel
theorem dX4_keepNoAct_2 : decode cX4_keepNoAct 2 = .ok (.putfield 9, 3) := by decide +kernel
theorem dX4_keepNoAct_5 : decode cX4_keepNoAct 5 = .ok (.aload_n 0, 1) := by decide +kernel
theorem dX4_keepNoAct_6 : decode cX4_keepNoAct 6 = .ok (.iconst 0, 1) := by decide +kernel
theorem dX4_keepNoAct_7 : decode cX4_keepNoAct 7 = .ok (.putfield 15, 3) := by decide +kernel
theorem dX4_keepNoAct_10 : decode cX4_keepNoAct 10 = .ok (.return_, 1) := by decide +kernel
theorem dX4_keepOneAct_0 : decode cX4_keepOneAct 0 = .ok (.aload_n 0, 1) := by decide +kernel
theorem dX4_keepOneAct_1 : decode cX4_keepOneAct 1 = .ok (.iconst 1, 1) := by decide +kernel
theorem dX4_keepOneAct_2 : decode cX4_keepOneAct 2 = .ok (.putfield 9, 3) := by decide +kernel
theorem dX4_keepOneAct_5 : decode cX4_keepOneAct 5 = .ok (.aload_n 0, 1) := by decide +kernel
theorem dX4_keepOneAct_6 : decode cX4_keepOneAct 6 = .ok (.iload_n 1, 1) := by decide +kernel
theorem dX4_keepOneAct_7 : decode cX4_keepOneAct 7 = .ok (.invokestatic 24, 3) := by decide +kernel
theorem dX4_keepOneAct_10 : decode cX4_keepOneAct 10 = .ok (.putfield 15, 3) := by decide +kernel
theorem dX4_keepOneAct_13 : decode cX4_keepOneAct 13 = .ok (.aload_n 0, 1) := by decide +kernel
theorem dX4_keepOneAct_14 : decode cX4_keepOneAct 14 = .ok (.iload_n 1, 1) := by decide +kernel
theorem dX4_keepOneAct_15 : decode cX4_keepOneAct 15 = .ok (.invokestatic 28, 3) := by decide +kernel
theorem dX4_keepOneAct_18 : decode cX4_keepOneAct 18 = .ok (.putfield 18, 3) := by decide +kernel
theorem dX4_keepOneAct_21 : decode cX4_keepOneAct 21 = .ok (.return_, 1) := by decide +kernel
theorem dX4_keepTwoActs_0 : decode cX4_keepTwoActs 0 = .ok (.aload_n 0, 1) := by decide +kernel
theorem dX4_keepTwoActs_1 : decode cX4_keepTwoActs 1 = .ok (.iconst 2, 1) := by decide +kernel
theorem dX4_keepTwoActs_2 : decode cX4_keepTwoActs 2 = .ok (.putfield 9, 3) := by decide +kernel
theorem dX4_keepTwoActs_5 : decode cX4_keepTwoActs 5 = .ok (.aload_n 0, 1) := by decide +kernel
theorem dX4_keepTwoActs_6 : decode cX4_keepTwoActs 6 = .ok (.iload_n 1, 1) := by decide +kernel
theorem dX4_keepTwoActs_7 : decode cX4_keepTwoActs 7 = .ok (.invokestatic 24, 3) := by decide +kernel
theorem dX4_keepTwoActs_10 : decode cX4_keepTwoActs 10 = .ok (.iload_n 2, 1) := by decide +kernel
theorem dX4_keepTwoActs_11 : decode cX4_keepTwoActs 11 = .ok (.invokestatic 24, 3) := by decide +kernel
theorem dX4_keepTwoActs_14 : decode cX4_keepTwoActs 14 = .ok (.iadd, 1) := by decide +kernel
theorem dX4_keepTwoActs_15 : decode cX4_keepTwoActs 15 = .ok (.putfield 15, 3) := by decide +kernel
theorem dX4_keepTwoActs_18 : decode cX4_keepTwoActs 18 = .ok (.aload_n 0, 1) := by decide +kernel
theorem dX4_keepTwoActs_19 : decode cX4_keepTwoActs 19 = .ok (.iload_n 1, 1) := by decide +kernel
theorem dX4_keepTwoActs_20 : decode cX4_keepTwoActs 20 = .ok (.invokestatic 28, 3) := by decide +kernel
theorem dX4_keepTwoActs_23 : decode cX4_keepTwoActs 23 = .ok (.putfield 18, 3) := by decide +kernel
theorem dX4_keepTwoActs_26 : decode cX4_keepTwoActs 26 = .ok (.aload_n 0, 1) := by decide +kernel
theorem dX4_keepTwoActs_27 : decode cX4_keepTwoActs 27 = .ok (.iload_n 2, 1) := by decide +kernel
theorem dX4_keepTwoActs_28 : decode cX4_keepTwoActs 28 = .ok (.invokestatic 28, 3) := by decide +kernel
theorem dX4_keepTwoActs_31 : decode cX4_keepTwoActs 31 = .ok (.putfield 21, 3) := by decide +kernel
theorem dX4_keepTwoActs_34 : decode cX4_keepTwoActs 34 = .ok (.return_, 1) := by decide +kernel
theorem dX5_init_0 : decode cX5_init 0 = .ok (.aload_n 0, 1) := by decide +kernel
theorem dX5_init_1 : decode cX5_init 1 = .ok (.invokespecial 3, 3) := by decide +kernel
theorem dX5_init_4 : decode cX5_init 4 = .ok (.aload_n 0, 1) := by decide +kernel
theorem dX5_init_5 : decode cX5_init 5 = .ok (.iconst 0, 1) := by decide +kernel
theorem dX5_init_6 : decode cX5_init 6 = .ok (.putfield 9, 3) := by decide +kernel
theorem dX5_init_9 : decode cX5_init 9 = .ok (.aload_n 0, 1) := by decide +kernel
theorem dX5_init_10 : decode cX5_init 10 = .ok (.bipush 8, 2) := by decide +kernel
theorem dX5_init_12 : decode cX5_init 12 = .ok (.newarray .int, 2) := by decide +kernel
theorem dX5_init_14 : decode cX5_init 14 = .ok (.putfield 15, 3) := by decide +kernel
theorem dX5_init_17 : decode cX5_init 17 = .ok (.aload_n 0, 1) := by decide +kernel
theorem dX5_init_18 : decode cX5_init 18 = .ok (.bipush 8, 2) := by decide +kernel
theorem dX5_init_20 : decode cX5_init 20 = .ok (.newarray .int, 2) := by decide +kernel
theorem dX5_init_22 : decode cX5_init 22 = .ok (.putfield 19, 3) := by decide +kernel
theorem dX5_init_25 : decode cX5_init 25 = .ok (.return_, 1) := by decide +kernel
theorem dX5_add_0 : decode cX5_add 0 = .ok (.aload_n 0, 1) := by decide +kernel
theorem dX5_add_1 : decode cX5_add 1 = .ok (.getfield 9, 3) := by decide +kernel
theorem dX5_add_4 : decode cX5_add 4 = .ok (.ifCond .lt 12, 3) := by decide +kernel
theorem dX5_add_7 : decode cX5_add 7 = .ok (.aload_n 0, 1) := by decide +kernel
theorem dX5_add_8 : decode cX5_add 8 = .ok (.getfield 9, 3) := by decide +kernel
theorem dX5_add_11 : decode cX5_add 11 = .ok (.bipush 8, 2) := by decide +kernel
theorem dX5_add_13 : decode cX5_add 13 = .ok (.if_icmp .lt 6, 3) := by decide +kernel
theorem dX5_add_16 : decode cX5_add 16 = .ok (.bipush (-4), 2) := by decide +kernel
theorem dX5_add_18 : decode cX5_add 18 = .ok (.ireturn, 1) := by decide +kernel
theorem dX5_add_19 : decode cX5_add 19 = .ok (.aload_n 0, 1) := by decide +kernel
theorem dX5_add_20 : decode cX5_add 20 = .ok (.getfield 15, 3) := by decide +kernel
theorem dX5_add_23 : decode cX5_add 23 = .ok (.aload_n 0, 1) := by decide +kernel
theorem dX5_add_24 : decode cX5_add 24 = .ok (.getfield 9, 3) := by decide +kernel
theorem dX5_add_27 : decode cX5_add 27 = .ok (.iload_n 1, 1) := by decide +kernel
theorem dX5_add_28 : decode cX5_add 28 = .ok (.iastore, 1) := by decide +kernel
theorem dX5_add_29 : decode cX5_add 29 = .ok (.aload_n 0, 1) := by decide +kernel
theorem dX5_add_30 : decode cX5_add 30 = .ok (.getfield 19, 3) := by decide +kernel
theorem dX5_add_33 : decode cX5_add 33 = .ok (.aload_n 0, 1) := by decide +kernel
theorem dX5_add_34 : decode cX5_add 34 = .ok (.getfield 9, 3) := by decide +kernel
theorem dX5_add_37 : decode cX5_add 37 = .ok (.iload_n 2, 1) := by decide +kernel
theorem dX5_add_38 : decode cX5_add 38 = .ok (.iastore, 1) := by decide +kernel
theorem dX5_add_39 : decode cX5_add 39 = .ok (.aload_n 0, 1) := by decide +kernel
theorem dX5_add_40 : decode cX5_add 40 = .ok (.dup, 1) := by decide +kernel
theorem dX5_add_41 : decode cX5_add 41 = .ok (.getfield 9, 3) := by decide +kernel
theorem dX5_add_44 : decode cX5_add 44 = .ok (.iconst 1, 1) := by decide +kernel
theorem dX5_add_45 : decode cX5_add 45 = .ok (.iadd, 1) := by decide +kernel
theorem dX5_add_46 : decode cX5_add 46 = .ok (.putfield 9, 3) := by decide +kernel
theorem dX5_add_49 : decode cX5_add 49 = .ok (.aload_n 0, 1) := by decide +kernel
theorem dX5_add_50 : decode cX5_add 50 = .ok (.getfield 9, 3) := by decide +kernel
theorem dX5_add_53 : decode cX5_add 53 = .ok (.iconst 1, 1) := by decide +kernel
theorem dX5_add_54 : decode cX5_add 54 = .ok (.isub, 1) := by decide +kernel
theorem dX5_add_55 : decode cX5_add 55 = .ok (.ireturn, 1) := by decide +kernel
theorem dX5_areSo_0 : decode cX5_areSo 0 = .ok (.iconst 0, 1) := by decide +kernel
theorem dX5_areSo_1 : decode cX5_areSo 1 = .ok (.istore_n 2, 1) := by decide +kernel
theorem dX5_areSo_2 : decode cX5_areSo 2 = .ok (.iload_n 2, 1) := by decide +kernel
theorem dX5_areSo_3 : decode cX5_areSo 3 = .ok (.aload_n 0, 1) := by decide +kernel
theorem dX5_areSo_4 : decode cX5_areSo 4 = .ok (.getfield 9, 3) := by decide +kernel
theorem dX5_areSo_7 : decode cX5_areSo 7 = .ok (.if_icmp .ge 46, 3) := by decide +kernel
theorem dX5_areSo_10 : decode cX5_areSo 10 = .ok (.iload_n 2, 1) := by decide +kernel
theorem dX5_areSo_11 : decode cX5_areSo 11 = .ok (.bipush 8, 2) := by decide +kernel
theorem dX5_areSo_13 : decode cX5_areSo 13 = .ok (.if_icmp .ge 40, 3) := by decide +kernel
theorem dX5_areSo_16 : decode cX5_areSo 16 = .ok (.aload_n 0, 1) := by decide +kernel
theorem dX5_areSo_17 : decode cX5_areSo 17 = .ok (.getfield 15, 3) := by decide +kernel
theorem dX5_areSo_20 : decode cX5_areSo 20 = .ok (.iload_n 2, 1) := by decide +kernel
theorem dX5_areSo_21 : decode cX5_areSo 21 = .ok (.iaload, 1) := by decide +kernel
theorem dX5_areSo_22 : decode cX5_areSo 22 = .ok (.istore_n 3, 1) := by decide +kernel
theorem dX5_areSo_23 : decode cX5_areSo 23 = .ok (.iload_n 3, 1) := by decide +kernel
theorem dX5_areSo_24 : decode cX5_areSo 24 = .ok (.aload_n 1, 1) := by decide +kernel
theorem dX5_areSo_25 : decode cX5_areSo 25 = .ok (.getfield 22, 3) := by decide +kernel
theorem dX5_areSo_28 : decode cX5_areSo 28 = .ok (.if_icmp .ge 17, 3) := by decide +kernel
theorem dX5_areSo_31 : decode cX5_areSo 31 = .ok (.aload_n 1, 1) := by decide +kernel
theorem dX5_areSo_32 : decode cX5_areSo 32 = .ok (.iload_n 3, 1) := by decide +kernel
theorem dX5_areSo_33 : decode cX5_areSo 33 = .ok (.invokevirtual 27, 3) := by decide +kernel
theorem dX5_areSo_36 : decode cX5_areSo 36 = .ok (.aload_n 0, 1) := by decide +kernel
theorem dX5_areSo_37 : decode cX5_areSo 37 = .ok (.getfield 19, 3) := by decide +kernel
theorem dX5_areSo_40 : decode cX5_areSo 40 = .ok (.iload_n 2, 1) := by decide +kernel
theorem dX5_areSo_41 : decode cX5_areSo 41 = .ok (.iaload, 1) := by decide +kernel
theorem dX5_areSo_42 : decode cX5_areSo 42 = .ok (.if_icmp .eq 5, 3) := by decide +kernel
theorem dX5_areSo_45 : decode cX5_areSo 45 = .ok (.iconst 0, 1) := by decide +kernel
theorem dX5_areSo_46 : decode cX5_areSo 46 = .ok (.ireturn, 1) := by decide +kernel
theorem dX5_areSo_47 : decode cX5_areSo 47 = .ok (.iinc 2 1, 3) := by decide +kernel
theorem dX5_areSo_50 : decode cX5_areSo 50 = .ok (.goto (-48), 3) := by decide +kernel
theorem dX5_areSo_53 : decode cX5_areSo 53 = .ok (.iconst 1, 1) := by decide +kernel
theorem dX5_areSo_54 : decode cX5_areSo 54 = .ok (.ireturn, 1) := by decide +kernel
theorem dX6_init_0 : decode cX6_init 0 = .ok (.aload_n 0, 1) := by decide +kernel
theorem dX6_init_1 : decode cX6_init 1 = .ok (.invokespecial 3, 3) := by decide +kernel
theorem dX6_init_4 : decode cX6_init 4 = .ok (.aload_n 0, 1) := by decide +kernel
theorem dX6_init_5 : decode cX6_init 5 = .ok (.iconst 0, 1) := by decide +kernel
theorem dX6_init_6 : decode cX6_init 6 = .ok (.putfield 9, 3) := by decide +kernel
theorem dX6_init_9 : decode cX6_init 9 = .ok (.aload_n 0, 1) := by decide +kernel
theorem dX6_init_10 : decode cX6_init 10 = .ok (.bipush 8, 2) := by decide +kernel
theorem dX6_init_12 : decode cX6_init 12 = .ok (.newarray .int, 2) := by decide +kernel
theorem dX6_init_14 : decode cX6_init 14 = .ok (.putfield 15, 3) := by decide +kernel
theorem dX6_init_17 : decode cX6_init 17 = .ok (.aload_n 0, 1) := by decide +kernel
theorem dX6_init_18 : decode cX6_init 18 = .ok (.bipush 8, 2) := by decide +kernel
theorem dX6_init_20 : decode cX6_init 20 = .ok (.newarray .int, 2) := by decide +kernel
theorem dX6_init_22 : decode cX6_init 22 = .ok (.putfield 19, 3) := by decide +kernel
theorem dX6_init_25 : decode cX6_init 25 = .ok (.aload_n 0, 1) := by decide +kernel
theorem dX6_init_26 : decode cX6_init 26 = .ok (.bipush 24, 2) := by decide +kernel
theorem dX6_init_28 : decode cX6_init 28 = .ok (.newarray .int, 2) := by decide +kernel
theorem dX6_init_30 : decode cX6_init 30 = .ok (.putfield 22, 3) := by decide +kernel
theorem dX6_init_33 : decode cX6_init 33 = .ok (.return_, 1) := by decide +kernel
theorem dX6_isSize_0 : decode cX6_isSize 0 = .ok (.iload_n 0, 1) := by decide +kernel
theorem dX6_isSize_1 : decode cX6_isSize 1 = .ok (.ifCond .lt 12, 3) := by decide +kernel
theorem dX6_isSize_4 : decode cX6_isSize 4 = .ok (.iload_n 0, 1) := by decide +kernel
theorem dX6_isSize_5 : decode cX6_isSize 5 = .ok (.iconst 2, 1) := by decide +kernel
theorem dX6_isSize_6 : decode cX6_isSize 6 = .ok (.if_icmp .gt 7, 3) := by decide +kernel
theorem dX6_isSize_9 : decode cX6_isSize 9 = .ok (.iconst 1, 1) := by decide +kernel
theorem dX6_isSize_10 : decode cX6_isSize 10 = .ok (.goto 4, 3) := by decide +kernel
theorem dX6_isSize_13 : decode cX6_isSize 13 = .ok (.iconst 0, 1) := by decide +kernel
theorem dX6_isSize_14 : decode cX6_isSize 14 = .ok (.ireturn, 1) := by decide +kernel
theorem dX6_has_0 : decode cX6_has 0 = .ok (.iload_n 1, 1) := by decide +kernel
theorem dX6_has_1 : decode cX6_has 1 = .ok (.ifCond .lt 21, 3) := by decide +kernel
theorem dX6_has_4 : decode cX6_has 4 = .ok (.iload_n 1, 1) := by decide +kernel
theorem dX6_has_5 : decode cX6_has 5 = .ok (.aload_n 0, 1) := by decide +kernel
theorem dX6_has_6 : decode cX6_has 6 = .ok (.getfield 9, 3) := by decide +kernel
theorem dX6_has_9 : decode cX6_has 9 = .ok (.if_icmp .ge 13, 3) := by decide +kernel
theorem dX6_has_12 : decode cX6_has 12 = .ok (.iload_n 1, 1) := by decide +kernel
theorem dX6_has_13 : decode cX6_has 13 = .ok (.bipush 8, 2) := by decide +kernel
theorem dX6_has_15 : decode cX6_has 15 = .ok (.if_icmp .ge 7, 3) := by decide +kernel
theorem dX6_has_18 : decode cX6_has 18 = .ok (.iconst 1, 1) := by decide +kernel
theorem dX6_has_19 : decode cX6_has 19 = .ok (.goto 4, 3) := by decide +kernel
theorem dX6_has_22 : decode cX6_has 22 = .ok (.iconst 0, 1) := by decide +kernel
theorem dX6_has_23 : decode cX6_has 23 = .ok (.ireturn, 1) := by decide +kernel
theorem dX6_kindOf_0 : decode cX6_kindOf 0 = .ok (.aload_n 0, 1) := by decide +kernel
theorem dX6_kindOf_1 : decode cX6_kindOf 1 = .ok (.iload_n 1, 1) := by decide +kernel
theorem dX6_kindOf_2 : decode cX6_kindOf 2 = .ok (.invokevirtual 25, 3) := by decide +kernel
theorem dX6_kindOf_5 : decode cX6_kindOf 5 = .ok (.ifCond .eq 12, 3) := by decide +kernel
theorem dX6_kindOf_8 : decode cX6_kindOf 8 = .ok (.aload_n 0, 1) := by decide +kernel
theorem dX6_kindOf_9 : decode cX6_kindOf 9 = .ok (.getfield 15, 3) := by decide +kernel
theorem dX6_kindOf_12 : decode cX6_kindOf 12 = .ok (.iload_n 1, 1) := by decide +kernel
theorem dX6_kindOf_13 : decode cX6_kindOf 13 = .ok (.iaload, 1) := by decide +kernel
theorem dX6_kindOf_14 : decode cX6_kindOf 14 = .ok (.goto 4, 3) := by decide +kernel
theorem dX6_kindOf_17 : decode cX6_kindOf 17 = .ok (.iconst 0, 1) := by decide +kernel
theorem dX6_kindOf_18 : decode cX6_kindOf 18 = .ok (.ireturn, 1) := by decide +kernel
theorem dX6_sideOf_0 : decode cX6_sideOf 0 = .ok (.aload_n 0, 1) := by decide +kernel
theorem dX6_sideOf_1 : decode cX6_sideOf 1 = .ok (.iload_n 1, 1) := by decide +kernel
theorem dX6_sideOf_2 : decode cX6_sideOf 2 = .ok (.invokevirtual 25, 3) := by decide +kernel
theorem dX6_sideOf_5 : decode cX6_sideOf 5 = .ok (.ifCond .eq 12, 3) := by decide +kernel
theorem dX6_sideOf_8 : decode cX6_sideOf 8 = .ok (.aload_n 0, 1) := by decide +kernel
theorem dX6_sideOf_9 : decode cX6_sideOf 9 = .ok (.getfield 19, 3) := by decide +kernel
theorem dX6_sideOf_12 : decode cX6_sideOf 12 = .ok (.iload_n 1, 1) := by decide +kernel
theorem dX6_sideOf_13 : decode cX6_sideOf 13 = .ok (.iaload, 1) := by decide +kernel
theorem dX6_sideOf_14 : decode cX6_sideOf 14 = .ok (.goto 4, 3) := by decide +kernel
theorem dX6_sideOf_17 : decode cX6_sideOf 17 = .ok (.iconst 0, 1) := by decide +kernel
theorem dX6_sideOf_18 : decode cX6_sideOf 18 = .ok (.ireturn, 1) := by decide +kernel
theorem dX6_sizeOf_0 : decode cX6_sizeOf 0 = .ok (.aload_n 0, 1) := by decide +kernel
theorem dX6_sizeOf_1 : decode cX6_sizeOf 1 = .ok (.iload_n 1, 1) := by decide +kernel
theorem dX6_sizeOf_2 : decode cX6_sizeOf 2 = .ok (.invokevirtual 25, 3) := by decide +kernel
theorem dX6_sizeOf_5 : decode cX6_sizeOf 5 = .ok (.ifCond .eq 23, 3) := by decide +kernel
theorem dX6_sizeOf_8 : decode cX6_sizeOf 8 = .ok (.iload_n 2, 1) := by decide +kernel
theorem dX6_sizeOf_9 : decode cX6_sizeOf 9 = .ok (.invokestatic 29, 3) := by decide +kernel
theorem dX6_sizeOf_12 : decode cX6_sizeOf 12 = .ok (.ifCond .eq 16, 3) := by decide +kernel
theorem dX6_sizeOf_15 : decode cX6_sizeOf 15 = .ok (.aload_n 0, 1) := by decide +kernel
theorem dX6_sizeOf_16 : decode cX6_sizeOf 16 = .ok (.getfield 22, 3) := by decide +kernel
theorem dX6_sizeOf_19 : decode cX6_sizeOf 19 = .ok (.iload_n 1, 1) := by decide +kernel
theorem dX6_sizeOf_20 : decode cX6_sizeOf 20 = .ok (.iconst 3, 1) := by decide +kernel
theorem dX6_sizeOf_21 : decode cX6_sizeOf 21 = .ok (.imul, 1) := by decide +kernel
theorem dX6_sizeOf_22 : decode cX6_sizeOf 22 = .ok (.iload_n 2, 1) := by decide +kernel
theorem dX6_sizeOf_23 : decode cX6_sizeOf 23 = .ok (.iadd, 1) := by decide +kernel
theorem dX6_sizeOf_24 : decode cX6_sizeOf 24 = .ok (.iaload, 1) := by decide +kernel
theorem dX6_sizeOf_25 : decode cX6_sizeOf 25 = .ok (.goto 4, 3) := by decide +kernel
theorem dX6_sizeOf_28 : decode cX6_sizeOf 28 = .ok (.iconst 0, 1) := by decide +kernel
theorem dX6_sizeOf_29 : decode cX6_sizeOf 29 = .ok (.ireturn, 1) := by decide +kernel
theorem dX6_change_0 : decode cX6_change 0 = .ok (.aload_n 0, 1) := by decide +kernel
theorem dX6_change_1 : decode cX6_change 1 = .ok (.iload_n 1, 1) := by decide +kernel
theorem dX6_change_2 : decode cX6_change 2 = .ok (.invokevirtual 25, 3) := by decide +kernel
theorem dX6_change_5 : decode cX6_change 5 = .ok (.ifCond .eq 21, 3) := by decide +kernel
theorem dX6_change_8 : decode cX6_change 8 = .ok (.iload_n 2, 1) := by decide +kernel
theorem dX6_change_9 : decode cX6_change 9 = .ok (.invokestatic 29, 3) := by decide +kernel
theorem dX6_change_12 : decode cX6_change 12 = .ok (.ifCond .eq 14, 3) := by decide +kernel
theorem dX6_change_15 : decode cX6_change 15 = .ok (.aload_n 0, 1) := by decide +kernel
theorem dX6_change_16 : decode cX6_change 16 = .ok (.getfield 22, 3) := by decide +kernel
theorem dX6_change_19 : decode cX6_change 19 = .ok (.iload_n 1, 1) := by decide +kernel
theorem dX6_change_20 : decode cX6_change 20 = .ok (.iconst 3, 1) := by decide +kernel
theorem dX6_change_21 : decode cX6_change 21 = .ok (.imul, 1) := by decide +kernel
theorem dX6_change_22 : decode cX6_change 22 = .ok (.iload_n 2, 1) := by decide +kernel
theorem dX6_change_23 : decode cX6_change 23 = .ok (.iadd, 1) := by decide +kernel
theorem dX6_change_24 : decode cX6_change 24 = .ok (.iload_n 3, 1) := by decide +kernel
theorem dX6_change_25 : decode cX6_change 25 = .ok (.iastore, 1) := by decide +kernel
theorem dX6_change_26 : decode cX6_change 26 = .ok (.return_, 1) := by decide +kernel
theorem dX6_become_0 : decode cX6_become 0 = .ok (.aload_n 0, 1) := by decide +kernel
theorem dX6_become_1 : decode cX6_become 1 = .ok (.aload_n 1, 1) := by decide +kernel
theorem dX6_become_2 : decode cX6_become 2 = .ok (.getfield 9, 3) := by decide +kernel
theorem dX6_become_5 : decode cX6_become 5 = .ok (.putfield 9, 3) := by decide +kernel
theorem dX6_become_8 : decode cX6_become 8 = .ok (.aload_n 1, 1) := by decide +kernel
theorem dX6_become_9 : decode cX6_become 9 = .ok (.getfield 15, 3) := by decide +kernel
theorem dX6_become_12 : decode cX6_become 12 = .ok (.iconst 0, 1) := by decide +kernel
theorem dX6_become_13 : decode cX6_become 13 = .ok (.aload_n 0, 1) := by decide +kernel
theorem dX6_become_14 : decode cX6_become 14 = .ok (.getfield 15, 3) := by decide +kernel
theorem dX6_become_17 : decode cX6_become 17 = .ok (.iconst 0, 1) := by decide +kernel
theorem dX6_become_18 : decode cX6_become 18 = .ok (.bipush 8, 2) := by decide +kernel
theorem dX6_become_20 : decode cX6_become 20 = .ok (.invokestatic 32, 3) := by decide +kernel
theorem dX6_become_23 : decode cX6_become 23 = .ok (.aload_n 1, 1) := by decide +kernel
theorem dX6_become_24 : decode cX6_become 24 = .ok (.getfield 19, 3) := by decide +kernel
theorem dX6_become_27 : decode cX6_become 27 = .ok (.iconst 0, 1) := by decide +kernel
theorem dX6_become_28 : decode cX6_become 28 = .ok (.aload_n 0, 1) := by decide +kernel
theorem dX6_become_29 : decode cX6_become 29 = .ok (.getfield 19, 3) := by decide +kernel
theorem dX6_become_32 : decode cX6_become 32 = .ok (.iconst 0, 1) := by decide +kernel
theorem dX6_become_33 : decode cX6_become 33 = .ok (.bipush 8, 2) := by decide +kernel
theorem dX6_become_35 : decode cX6_become 35 = .ok (.invokestatic 32, 3) := by decide +kernel
theorem dX6_become_38 : decode cX6_become 38 = .ok (.aload_n 1, 1) := by decide +kernel
theorem dX6_become_39 : decode cX6_become 39 = .ok (.getfield 22, 3) := by decide +kernel
theorem dX6_become_42 : decode cX6_become 42 = .ok (.iconst 0, 1) := by decide +kernel
theorem dX6_become_43 : decode cX6_become 43 = .ok (.aload_n 0, 1) := by decide +kernel
theorem dX6_become_44 : decode cX6_become 44 = .ok (.getfield 22, 3) := by decide +kernel
theorem dX6_become_47 : decode cX6_become 47 = .ok (.iconst 0, 1) := by decide +kernel
theorem dX6_become_48 : decode cX6_become 48 = .ok (.bipush 24, 2) := by decide +kernel
theorem dX6_become_50 : decode cX6_become 50 = .ok (.invokestatic 32, 3) := by decide +kernel
theorem dX6_become_53 : decode cX6_become 53 = .ok (.return_, 1) := by decide +kernel
theorem dX6_read_0 : decode cX6_read 0 = .ok (.aload_n 0, 1) := by decide +kernel
theorem dX6_read_1 : decode cX6_read 1 = .ok (.iconst 0, 1) := by decide +kernel
theorem dX6_read_2 : decode cX6_read 2 = .ok (.putfield 9, 3) := by decide +kernel
theorem dX6_read_5 : decode cX6_read 5 = .ok (.iconst 0, 1) := by decide +kernel
theorem dX6_read_6 : decode cX6_read 6 = .ok (.istore 5, 2) := by decide +kernel
theorem dX6_read_8 : decode cX6_read 8 = .ok (.iconst 0, 1) := by decide +kernel
theorem dX6_read_9 : decode cX6_read 9 = .ok (.istore 6, 2) := by decide +kernel
theorem dX6_read_11 : decode cX6_read 11 = .ok (.iload 6, 2) := by decide +kernel
theorem dX6_read_13 : decode cX6_read 13 = .ok (.iload 4, 2) := by decide +kernel
theorem dX6_read_15 : decode cX6_read 15 = .ok (.if_icmp .ge 35, 3) := by decide +kernel
theorem dX6_read_18 : decode cX6_read 18 = .ok (.aload_n 0, 1) := by decide +kernel
theorem dX6_read_19 : decode cX6_read 19 = .ok (.iload 5, 2) := by decide +kernel
theorem dX6_read_21 : decode cX6_read 21 = .ok (.aload_n 1, 1) := by decide +kernel
theorem dX6_read_22 : decode cX6_read 22 = .ok (.iload_n 2, 1) := by decide +kernel
theorem dX6_read_23 : decode cX6_read 23 = .ok (.iload_n 3, 1) := by decide +kernel
theorem dX6_read_24 : decode cX6_read 24 = .ok (.iload 6, 2) := by decide +kernel
theorem dX6_read_26 : decode cX6_read 26 = .ok (.iadd, 1) := by decide +kernel
theorem dX6_read_27 : decode cX6_read 27 = .ok (.invokevirtual 38, 3) := by decide +kernel
theorem dX6_read_30 : decode cX6_read 30 = .ok (.invokevirtual 44, 3) := by decide +kernel
theorem dX6_read_33 : decode cX6_read 33 = .ok (.istore 5, 2) := by decide +kernel
theorem dX6_read_35 : decode cX6_read 35 = .ok (.iload 5, 2) := by decide +kernel
theorem dX6_read_37 : decode cX6_read 37 = .ok (.iconst (-1), 1) := by decide +kernel
theorem dX6_read_38 : decode cX6_read 38 = .ok (.if_icmp .ne 6, 3) := by decide +kernel
theorem dX6_read_41 : decode cX6_read 41 = .ok (.iload 6, 2) := by decide +kernel
theorem dX6_read_43 : decode cX6_read 43 = .ok (.ireturn, 1) := by decide +kernel
theorem dX6_read_44 : decode cX6_read 44 = .ok (.iinc 6 1, 3) := by decide +kernel
theorem dX6_read_47 : decode cX6_read 47 = .ok (.goto (-36), 3) := by decide +kernel
theorem dX6_read_50 : decode cX6_read 50 = .ok (.iload 5, 2) := by decide +kernel
theorem dX6_read_52 : decode cX6_read 52 = .ok (.iconst 4, 1) := by decide +kernel
theorem dX6_read_53 : decode cX6_read 53 = .ok (.if_icmp .eq 9, 3) := by decide +kernel
theorem dX6_read_56 : decode cX6_read 56 = .ok (.iload 5, 2) := by decide +kernel
theorem dX6_read_58 : decode cX6_read 58 = .ok (.iconst 5, 1) := by decide +kernel
theorem dX6_read_59 : decode cX6_read 59 = .ok (.if_icmp .ne 7, 3) := by decide +kernel
theorem dX6_read_62 : decode cX6_read 62 = .ok (.iconst (-1), 1) := by decide +kernel
theorem dX6_read_63 : decode cX6_read 63 = .ok (.goto 5, 3) := by decide +kernel
theorem dX6_read_66 : decode cX6_read 66 = .ok (.iload 4, 2) := by decide +kernel
theorem dX6_read_68 : decode cX6_read 68 = .ok (.ireturn, 1) := by decide +kernel
theorem dX6_readCode_0 : decode cX6_readCode 0 = .ok (.iload_n 1, 1) := by decide +kernel
theorem dX6_readCode_1 : decode cX6_readCode 1 = .ok (.ifCond .ne 19, 3) := by decide +kernel
theorem dX6_readCode_4 : decode cX6_readCode 4 = .ok (.aload_n 0, 1) := by decide +kernel
theorem dX6_readCode_5 : decode cX6_readCode 5 = .ok (.iload_n 2, 1) := by decide +kernel
theorem dX6_readCode_6 : decode cX6_readCode 6 = .ok (.invokevirtual 47, 3) := by decide +kernel
theorem dX6_readCode_9 : decode cX6_readCode 9 = .ok (.ifCond .eq 9, 3) := by decide +kernel
theorem dX6_readCode_12 : decode cX6_readCode 12 = .ok (.iload_n 1, 1) := by decide +kernel
theorem dX6_readCode_13 : decode cX6_readCode 13 = .ok (.iconst 1, 1) := by decide +kernel
theorem dX6_readCode_14 : decode cX6_readCode 14 = .ok (.iadd, 1) := by decide +kernel
theorem dX6_readCode_15 : decode cX6_readCode 15 = .ok (.goto 4, 3) := by decide +kernel
theorem dX6_readCode_18 : decode cX6_readCode 18 = .ok (.iconst (-1), 1) := by decide +kernel
theorem dX6_readCode_19 : decode cX6_readCode 19 = .ok (.ireturn, 1) := by decide +kernel
theorem dX6_readCode_20 : decode cX6_readCode 20 = .ok (.iload_n 1, 1) := by decide +kernel
theorem dX6_readCode_21 : decode cX6_readCode 21 = .ok (.iconst 3, 1) := by decide +kernel
theorem dX6_readCode_22 : decode cX6_readCode 22 = .ok (.if_icmp .gt 38, 3) := by decide +kernel
theorem dX6_readCode_25 : decode cX6_readCode 25 = .ok (.iload_n 2, 1) := by decide +kernel
theorem dX6_readCode_26 : decode cX6_readCode 26 = .ok (.bipush 48, 2) := by decide +kernel
theorem dX6_readCode_28 : decode cX6_readCode 28 = .ok (.if_icmp .lt 9, 3) := by decide +kernel
theorem dX6_readCode_31 : decode cX6_readCode 31 = .ok (.iload_n 2, 1) := by decide +kernel
theorem dX6_readCode_32 : decode cX6_readCode 32 = .ok (.bipush 57, 2) := by decide +kernel
theorem dX6_readCode_34 : decode cX6_readCode 34 = .ok (.if_icmp .le 5, 3) := by decide +kernel
theorem dX6_readCode_37 : decode cX6_readCode 37 = .ok (.iconst (-1), 1) := by decide +kernel
theorem dX6_readCode_38 : decode cX6_readCode 38 = .ok (.ireturn, 1) := by decide +kernel
theorem dX6_readCode_39 : decode cX6_readCode 39 = .ok (.aload_n 0, 1) := by decide +kernel
theorem dX6_readCode_40 : decode cX6_readCode 40 = .ok (.aload_n 0, 1) := by decide +kernel
theorem dX6_readCode_41 : decode cX6_readCode 41 = .ok (.getfield 9, 3) := by decide +kernel
theorem dX6_readCode_44 : decode cX6_readCode 44 = .ok (.iconst 1, 1) := by decide +kernel
theorem dX6_readCode_45 : decode cX6_readCode 45 = .ok (.isub, 1) := by decide +kernel
theorem dX6_readCode_46 : decode cX6_readCode 46 = .ok (.iload_n 1, 1) := by decide +kernel
theorem dX6_readCode_47 : decode cX6_readCode 47 = .ok (.iconst 1, 1) := by decide +kernel
theorem dX6_readCode_48 : decode cX6_readCode 48 = .ok (.isub, 1) := by decide +kernel
theorem dX6_readCode_49 : decode cX6_readCode 49 = .ok (.iload_n 2, 1) := by decide +kernel
theorem dX6_readCode_50 : decode cX6_readCode 50 = .ok (.bipush 48, 2) := by decide +kernel
theorem dX6_readCode_52 : decode cX6_readCode 52 = .ok (.isub, 1) := by decide +kernel
theorem dX6_readCode_53 : decode cX6_readCode 53 = .ok (.invokevirtual 50, 3) := by decide +kernel
theorem dX6_readCode_56 : decode cX6_readCode 56 = .ok (.iload_n 1, 1) := by decide +kernel
theorem dX6_readCode_57 : decode cX6_readCode 57 = .ok (.iconst 1, 1) := by decide +kernel
theorem dX6_readCode_58 : decode cX6_readCode 58 = .ok (.iadd, 1) := by decide +kernel
theorem dX6_readCode_59 : decode cX6_readCode 59 = .ok (.ireturn, 1) := by decide +kernel
theorem dX6_readCode_60 : decode cX6_readCode 60 = .ok (.iload_n 2, 1) := by decide +kernel
theorem dX6_readCode_61 : decode cX6_readCode 61 = .ok (.bipush 59, 2) := by decide +kernel
theorem dX6_readCode_63 : decode cX6_readCode 63 = .ok (.if_icmp .ne 18, 3) := by decide +kernel
theorem dX6_readCode_66 : decode cX6_readCode 66 = .ok (.aload_n 0, 1) := by decide +kernel
theorem dX6_readCode_67 : decode cX6_readCode 67 = .ok (.getfield 9, 3) := by decide +kernel
theorem dX6_readCode_70 : decode cX6_readCode 70 = .ok (.bipush 8, 2) := by decide +kernel
theorem dX6_readCode_72 : decode cX6_readCode 72 = .ok (.if_icmp .ge 7, 3) := by decide +kernel
theorem dX6_readCode_75 : decode cX6_readCode 75 = .ok (.iconst 0, 1) := by decide +kernel
theorem dX6_readCode_76 : decode cX6_readCode 76 = .ok (.goto 4, 3) := by decide +kernel
theorem dX6_readCode_79 : decode cX6_readCode 79 = .ok (.iconst (-1), 1) := by decide +kernel
theorem dX6_readCode_80 : decode cX6_readCode 80 = .ok (.ireturn, 1) := by decide +kernel
theorem dX6_readCode_81 : decode cX6_readCode 81 = .ok (.iload_n 2, 1) := by decide +kernel
theorem dX6_readCode_82 : decode cX6_readCode 82 = .ok (.bipush 104, 2) := by decide +kernel
theorem dX6_readCode_84 : decode cX6_readCode 84 = .ok (.if_icmp .ne 36, 3) := by decide +kernel
theorem dX6_readCode_87 : decode cX6_readCode 87 = .ok (.iload_n 1, 1) := by decide +kernel
theorem dX6_readCode_88 : decode cX6_readCode 88 = .ok (.iconst 4, 1) := by decide +kernel
theorem dX6_readCode_89 : decode cX6_readCode 89 = .ok (.if_icmp .ne 31, 3) := by decide +kernel
theorem dX6_readCode_92 : decode cX6_readCode 92 = .ok (.aload_n 0, 1) := by decide +kernel
theorem dX6_readCode_93 : decode cX6_readCode 93 = .ok (.aload_n 0, 1) := by decide +kernel
theorem dX6_readCode_94 : decode cX6_readCode 94 = .ok (.getfield 9, 3) := by decide +kernel
theorem dX6_readCode_97 : decode cX6_readCode 97 = .ok (.iconst 1, 1) := by decide +kernel
theorem dX6_readCode_98 : decode cX6_readCode 98 = .ok (.isub, 1) := by decide +kernel
theorem dX6_readCode_99 : decode cX6_readCode 99 = .ok (.invokevirtual 54, 3) := by decide +kernel
theorem dX6_readCode_102 : decode cX6_readCode 102 = .ok (.iconst 1, 1) := by decide +kernel
theorem dX6_readCode_103 : decode cX6_readCode 103 = .ok (.if_icmp .ne 17, 3) := by decide +kernel
theorem dX6_readCode_106 : decode cX6_readCode 106 = .ok (.aload_n 0, 1) := by decide +kernel
theorem dX6_readCode_107 : decode cX6_readCode 107 = .ok (.getfield 15, 3) := by decide +kernel
theorem dX6_readCode_110 : decode cX6_readCode 110 = .ok (.aload_n 0, 1) := by decide +kernel
theorem dX6_readCode_111 : decode cX6_readCode 111 = .ok (.getfield 9, 3) := by decide +kernel
theorem dX6_readCode_114 : decode cX6_readCode 114 = .ok (.iconst 1, 1) := by decide +kernel
theorem dX6_readCode_115 : decode cX6_readCode 115 = .ok (.isub, 1) := by decide +kernel
theorem dX6_readCode_116 : decode cX6_readCode 116 = .ok (.iconst 2, 1) := by decide +kernel
theorem dX6_readCode_117 : decode cX6_readCode 117 = .ok (.iastore, 1) := by decide +kernel
theorem dX6_readCode_118 : decode cX6_readCode 118 = .ok (.iconst 5, 1) := by decide +kernel
theorem dX6_readCode_119 : decode cX6_readCode 119 = .ok (.ireturn, 1) := by decide +kernel
theorem dX6_readCode_120 : decode cX6_readCode 120 = .ok (.iconst (-1), 1) := by decide +kernel
theorem dX6_readCode_121 : decode cX6_readCode 121 = .ok (.ireturn, 1) := by decide +kernel
theorem dX6_beginTooth_0 : decode cX6_beginTooth 0 = .ok (.aload_n 0, 1) := by decide +kernel
theorem dX6_beginTooth_1 : decode cX6_beginTooth 1 = .ok (.getfield 9, 3) := by decide +kernel
theorem dX6_beginTooth_4 : decode cX6_beginTooth 4 = .ok (.bipush 8, 2) := by decide +kernel
theorem dX6_beginTooth_6 : decode cX6_beginTooth 6 = .ok (.if_icmp .ge 21, 3) := by decide +kernel
theorem dX6_beginTooth_9 : decode cX6_beginTooth 9 = .ok (.iload_n 1, 1) := by decide +kernel
theorem dX6_beginTooth_10 : decode cX6_beginTooth 10 = .ok (.bipush 108, 2) := by decide +kernel
theorem dX6_beginTooth_12 : decode cX6_beginTooth 12 = .ok (.if_icmp .eq 17, 3) := by decide +kernel
theorem dX6_beginTooth_15 : decode cX6_beginTooth 15 = .ok (.iload_n 1, 1) := by decide +kernel
theorem dX6_beginTooth_16 : decode cX6_beginTooth 16 = .ok (.bipush 99, 2) := by decide +kernel
theorem dX6_beginTooth_18 : decode cX6_beginTooth 18 = .ok (.if_icmp .eq 11, 3) := by decide +kernel
theorem dX6_beginTooth_21 : decode cX6_beginTooth 21 = .ok (.iload_n 1, 1) := by decide +kernel
theorem dX6_beginTooth_22 : decode cX6_beginTooth 22 = .ok (.bipush 114, 2) := by decide +kernel
theorem dX6_beginTooth_24 : decode cX6_beginTooth 24 = .ok (.if_icmp .eq 5, 3) := by decide +kernel
theorem dX6_beginTooth_27 : decode cX6_beginTooth 27 = .ok (.iconst 0, 1) := by decide +kernel
theorem dX6_beginTooth_28 : decode cX6_beginTooth 28 = .ok (.ireturn, 1) := by decide +kernel
theorem dX6_beginTooth_29 : decode cX6_beginTooth 29 = .ok (.aload_n 0, 1) := by decide +kernel
theorem dX6_beginTooth_30 : decode cX6_beginTooth 30 = .ok (.getfield 15, 3) := by decide +kernel
theorem dX6_beginTooth_33 : decode cX6_beginTooth 33 = .ok (.aload_n 0, 1) := by decide +kernel
theorem dX6_beginTooth_34 : decode cX6_beginTooth 34 = .ok (.getfield 9, 3) := by decide +kernel
theorem dX6_beginTooth_37 : decode cX6_beginTooth 37 = .ok (.iload_n 1, 1) := by decide +kernel
theorem dX6_beginTooth_38 : decode cX6_beginTooth 38 = .ok (.bipush 99, 2) := by decide +kernel
theorem dX6_beginTooth_40 : decode cX6_beginTooth 40 = .ok (.if_icmp .ne 7, 3) := by decide +kernel
theorem dX6_beginTooth_43 : decode cX6_beginTooth 43 = .ok (.iconst 0, 1) := by decide +kernel
theorem dX6_beginTooth_44 : decode cX6_beginTooth 44 = .ok (.goto 4, 3) := by decide +kernel
theorem dX6_beginTooth_47 : decode cX6_beginTooth 47 = .ok (.iconst 1, 1) := by decide +kernel
theorem dX6_beginTooth_48 : decode cX6_beginTooth 48 = .ok (.iastore, 1) := by decide +kernel
theorem dX6_beginTooth_49 : decode cX6_beginTooth 49 = .ok (.aload_n 0, 1) := by decide +kernel
theorem dX6_beginTooth_50 : decode cX6_beginTooth 50 = .ok (.getfield 19, 3) := by decide +kernel
theorem dX6_beginTooth_53 : decode cX6_beginTooth 53 = .ok (.aload_n 0, 1) := by decide +kernel
theorem dX6_beginTooth_54 : decode cX6_beginTooth 54 = .ok (.getfield 9, 3) := by decide +kernel
theorem dX6_beginTooth_57 : decode cX6_beginTooth 57 = .ok (.iload_n 1, 1) := by decide +kernel
theorem dX6_beginTooth_58 : decode cX6_beginTooth 58 = .ok (.bipush 108, 2) := by decide +kernel
theorem dX6_beginTooth_60 : decode cX6_beginTooth 60 = .ok (.if_icmp .ne 7, 3) := by decide +kernel
theorem dX6_beginTooth_63 : decode cX6_beginTooth 63 = .ok (.iconst (-1), 1) := by decide +kernel
theorem dX6_beginTooth_64 : decode cX6_beginTooth 64 = .ok (.goto 14, 3) := by decide +kernel
theorem dX6_beginTooth_67 : decode cX6_beginTooth 67 = .ok (.iload_n 1, 1) := by decide +kernel
theorem dX6_beginTooth_68 : decode cX6_beginTooth 68 = .ok (.bipush 114, 2) := by decide +kernel
theorem dX6_beginTooth_70 : decode cX6_beginTooth 70 = .ok (.if_icmp .ne 7, 3) := by decide +kernel
theorem dX6_beginTooth_73 : decode cX6_beginTooth 73 = .ok (.iconst 1, 1) := by decide +kernel
theorem dX6_beginTooth_74 : decode cX6_beginTooth 74 = .ok (.goto 4, 3) := by decide +kernel
theorem dX6_beginTooth_77 : decode cX6_beginTooth 77 = .ok (.iconst 0, 1) := by decide +kernel
theorem dX6_beginTooth_78 : decode cX6_beginTooth 78 = .ok (.iastore, 1) := by decide +kernel
theorem dX6_beginTooth_79 : decode cX6_beginTooth 79 = .ok (.aload_n 0, 1) := by decide +kernel
theorem dX6_beginTooth_80 : decode cX6_beginTooth 80 = .ok (.dup, 1) := by decide +kernel
theorem dX6_beginTooth_81 : decode cX6_beginTooth 81 = .ok (.getfield 9, 3) := by decide +kernel
theorem dX6_beginTooth_84 : decode cX6_beginTooth 84 = .ok (.iconst 1, 1) := by decide +kernel
theorem dX6_beginTooth_85 : decode cX6_beginTooth 85 = .ok (.iadd, 1) := by decide +kernel
theorem dX6_beginTooth_86 : decode cX6_beginTooth 86 = .ok (.putfield 9, 3) := by decide +kernel
theorem dX6_beginTooth_89 : decode cX6_beginTooth 89 = .ok (.iconst 1, 1) := by decide +kernel
theorem dX6_beginTooth_90 : decode cX6_beginTooth 90 = .ok (.ireturn, 1) := by decide +kernel
theorem dX6_takes_0 : decode cX6_takes 0 = .ok (.iload_n 1, 1) := by decide +kernel
theorem dX6_takes_1 : decode cX6_takes 1 = .ok (.ifCond .lt 9, 3) := by decide +kernel
theorem dX6_takes_4 : decode cX6_takes 4 = .ok (.iload_n 1, 1) := by decide +kernel
theorem dX6_takes_5 : decode cX6_takes 5 = .ok (.bipush 8, 2) := by decide +kernel
theorem dX6_takes_7 : decode cX6_takes 7 = .ok (.if_icmp .lt 5, 3) := by decide +kernel
theorem dX6_takes_10 : decode cX6_takes 10 = .ok (.iconst 0, 1) := by decide +kernel
theorem dX6_takes_11 : decode cX6_takes 11 = .ok (.ireturn, 1) := by decide +kernel
theorem dX6_takes_12 : decode cX6_takes 12 = .ok (.aload_n 0, 1) := by decide +kernel
theorem dX6_takes_13 : decode cX6_takes 13 = .ok (.getfield 22, 3) := by decide +kernel
theorem dX6_takes_16 : decode cX6_takes 16 = .ok (.iload_n 1, 1) := by decide +kernel
theorem dX6_takes_17 : decode cX6_takes 17 = .ok (.iconst 3, 1) := by decide +kernel
theorem dX6_takes_18 : decode cX6_takes 18 = .ok (.imul, 1) := by decide +kernel
theorem dX6_takes_19 : decode cX6_takes 19 = .ok (.iconst 1, 1) := by decide +kernel
theorem dX6_takes_20 : decode cX6_takes 20 = .ok (.iadd, 1) := by decide +kernel
theorem dX6_takes_21 : decode cX6_takes 21 = .ok (.iaload, 1) := by decide +kernel
theorem dX6_takes_22 : decode cX6_takes 22 = .ok (.aload_n 0, 1) := by decide +kernel
theorem dX6_takes_23 : decode cX6_takes 23 = .ok (.getfield 22, 3) := by decide +kernel
theorem dX6_takes_26 : decode cX6_takes 26 = .ok (.iload_n 1, 1) := by decide +kernel
theorem dX6_takes_27 : decode cX6_takes 27 = .ok (.iconst 3, 1) := by decide +kernel
theorem dX6_takes_28 : decode cX6_takes 28 = .ok (.imul, 1) := by decide +kernel
theorem dX6_takes_29 : decode cX6_takes 29 = .ok (.iconst 2, 1) := by decide +kernel
theorem dX6_takes_30 : decode cX6_takes 30 = .ok (.iadd, 1) := by decide +kernel
theorem dX6_takes_31 : decode cX6_takes 31 = .ok (.iaload, 1) := by decide +kernel
theorem dX6_takes_32 : decode cX6_takes 32 = .ok (.imul, 1) := by decide +kernel
theorem dX6_takes_33 : decode cX6_takes 33 = .ok (.istore_n 2, 1) := by decide +kernel
theorem dX6_takes_34 : decode cX6_takes 34 = .ok (.iload_n 2, 1) := by decide +kernel
theorem dX6_takes_35 : decode cX6_takes 35 = .ok (.ifCond .le 19, 3) := by decide +kernel
theorem dX6_takes_38 : decode cX6_takes 38 = .ok (.aload_n 0, 1) := by decide +kernel
theorem dX6_takes_39 : decode cX6_takes 39 = .ok (.getfield 15, 3) := by decide +kernel
theorem dX6_takes_42 : decode cX6_takes 42 = .ok (.iload_n 1, 1) := by decide +kernel
theorem dX6_takes_43 : decode cX6_takes 43 = .ok (.iaload, 1) := by decide +kernel
theorem dX6_takes_44 : decode cX6_takes 44 = .ok (.iconst 2, 1) := by decide +kernel
theorem dX6_takes_45 : decode cX6_takes 45 = .ok (.if_icmp .ne 9, 3) := by decide +kernel
theorem dX6_takes_48 : decode cX6_takes 48 = .ok (.iload_n 2, 1) := by decide +kernel
theorem dX6_takes_49 : decode cX6_takes 49 = .ok (.iconst 2, 1) := by decide +kernel
theorem dX6_takes_50 : decode cX6_takes 50 = .ok (.iadd, 1) := by decide +kernel
theorem dX6_takes_51 : decode cX6_takes 51 = .ok (.goto 4, 3) := by decide +kernel
theorem dX6_takes_54 : decode cX6_takes 54 = .ok (.iload_n 2, 1) := by decide +kernel
theorem dX6_takes_55 : decode cX6_takes 55 = .ok (.ireturn, 1) := by decide +kernel
theorem dX6_leaning_0 : decode cX6_leaning 0 = .ok (.iload_n 1, 1) := by decide +kernel
theorem dX6_leaning_1 : decode cX6_leaning 1 = .ok (.ifCond .lt 9, 3) := by decide +kernel
theorem dX6_leaning_4 : decode cX6_leaning 4 = .ok (.iload_n 1, 1) := by decide +kernel
theorem dX6_leaning_5 : decode cX6_leaning 5 = .ok (.bipush 8, 2) := by decide +kernel
theorem dX6_leaning_7 : decode cX6_leaning 7 = .ok (.if_icmp .lt 5, 3) := by decide +kernel
theorem dX6_leaning_10 : decode cX6_leaning 10 = .ok (.iconst 0, 1) := by decide +kernel
theorem dX6_leaning_11 : decode cX6_leaning 11 = .ok (.ireturn, 1) := by decide +kernel
theorem dX6_leaning_12 : decode cX6_leaning 12 = .ok (.aload_n 0, 1) := by decide +kernel
theorem dX6_leaning_13 : decode cX6_leaning 13 = .ok (.getfield 19, 3) := by decide +kernel
theorem dX6_leaning_16 : decode cX6_leaning 16 = .ok (.iload_n 1, 1) := by decide +kernel
theorem dX6_leaning_17 : decode cX6_leaning 17 = .ok (.iaload, 1) := by decide +kernel
theorem dX6_leaning_18 : decode cX6_leaning 18 = .ok (.aload_n 0, 1) := by decide +kernel
theorem dX6_leaning_19 : decode cX6_leaning 19 = .ok (.getfield 22, 3) := by decide +kernel
theorem dX6_leaning_22 : decode cX6_leaning 22 = .ok (.iload_n 1, 1) := by decide +kernel
theorem dX6_leaning_23 : decode cX6_leaning 23 = .ok (.iconst 3, 1) := by decide +kernel
theorem dX6_leaning_24 : decode cX6_leaning 24 = .ok (.imul, 1) := by decide +kernel
theorem dX6_leaning_25 : decode cX6_leaning 25 = .ok (.iconst 0, 1) := by decide +kernel
theorem dX6_leaning_26 : decode cX6_leaning 26 = .ok (.iadd, 1) := by decide +kernel
theorem dX6_leaning_27 : decode cX6_leaning 27 = .ok (.iaload, 1) := by decide +kernel
theorem dX6_leaning_28 : decode cX6_leaning 28 = .ok (.imul, 1) := by decide +kernel
theorem dX6_leaning_29 : decode cX6_leaning 29 = .ok (.ireturn, 1) := by decide +kernel
theorem dX6_pushes_0 : decode cX6_pushes 0 = .ok (.aload_n 0, 1) := by decide +kernel
theorem dX6_pushes_1 : decode cX6_pushes 1 = .ok (.iload_n 1, 1) := by decide +kernel
theorem dX6_pushes_2 : decode cX6_pushes 2 = .ok (.invokevirtual 58, 3) := by decide +kernel
theorem dX6_pushes_5 : decode cX6_pushes 5 = .ok (.aload_n 0, 1) := by decide +kernel
theorem dX6_pushes_6 : decode cX6_pushes 6 = .ok (.iload_n 1, 1) := by decide +kernel
theorem dX6_pushes_7 : decode cX6_pushes 7 = .ok (.invokevirtual 61, 3) := by decide +kernel
theorem dX6_pushes_10 : decode cX6_pushes 10 = .ok (.imul, 1) := by decide +kernel
theorem dX6_pushes_11 : decode cX6_pushes 11 = .ok (.ireturn, 1) := by decide +kernel
theorem dX6_push_0 : decode cX6_push 0 = .ok (.iconst 0, 1) := by decide +kernel
theorem dX6_push_1 : decode cX6_push 1 = .ok (.istore_n 1, 1) := by decide +kernel
theorem dX6_push_2 : decode cX6_push 2 = .ok (.iconst 0, 1) := by decide +kernel
theorem dX6_push_3 : decode cX6_push 3 = .ok (.istore_n 2, 1) := by decide +kernel
theorem dX6_push_4 : decode cX6_push 4 = .ok (.iload_n 2, 1) := by decide +kernel
theorem dX6_push_5 : decode cX6_push 5 = .ok (.aload_n 0, 1) := by decide +kernel
theorem dX6_push_6 : decode cX6_push 6 = .ok (.getfield 9, 3) := by decide +kernel
theorem dX6_push_9 : decode cX6_push 9 = .ok (.if_icmp .ge 23, 3) := by decide +kernel
theorem dX6_push_12 : decode cX6_push 12 = .ok (.iload_n 1, 1) := by decide +kernel
theorem dX6_push_13 : decode cX6_push 13 = .ok (.aload_n 0, 1) := by decide +kernel
theorem dX6_push_14 : decode cX6_push 14 = .ok (.iload_n 2, 1) := by decide +kernel
theorem dX6_push_15 : decode cX6_push 15 = .ok (.invokevirtual 58, 3) := by decide +kernel
theorem dX6_push_18 : decode cX6_push 18 = .ok (.aload_n 0, 1) := by decide +kernel
theorem dX6_push_19 : decode cX6_push 19 = .ok (.iload_n 2, 1) := by decide +kernel
theorem dX6_push_20 : decode cX6_push 20 = .ok (.invokevirtual 61, 3) := by decide +kernel
theorem dX6_push_23 : decode cX6_push 23 = .ok (.imul, 1) := by decide +kernel
theorem dX6_push_24 : decode cX6_push 24 = .ok (.iadd, 1) := by decide +kernel
theorem dX6_push_25 : decode cX6_push 25 = .ok (.istore_n 1, 1) := by decide +kernel
theorem dX6_push_26 : decode cX6_push 26 = .ok (.iinc 2 1, 3) := by decide +kernel
theorem dX6_push_29 : decode cX6_push 29 = .ok (.goto (-25), 3) := by decide +kernel
theorem dX6_push_32 : decode cX6_push 32 = .ok (.iload_n 1, 1) := by decide +kernel
theorem dX6_push_33 : decode cX6_push 33 = .ok (.ireturn, 1) := by decide +kernel
theorem dX6_taken_0 : decode cX6_taken 0 = .ok (.iconst 0, 1) := by decide +kernel
theorem dX6_taken_1 : decode cX6_taken 1 = .ok (.istore_n 1, 1) := by decide +kernel
theorem dX6_taken_2 : decode cX6_taken 2 = .ok (.iconst 0, 1) := by decide +kernel
theorem dX6_taken_3 : decode cX6_taken 3 = .ok (.istore_n 2, 1) := by decide +kernel
theorem dX6_taken_4 : decode cX6_taken 4 = .ok (.iload_n 2, 1) := by decide +kernel
theorem dX6_taken_5 : decode cX6_taken 5 = .ok (.aload_n 0, 1) := by decide +kernel
theorem dX6_taken_6 : decode cX6_taken 6 = .ok (.getfield 9, 3) := by decide +kernel
theorem dX6_taken_9 : decode cX6_taken 9 = .ok (.if_icmp .ge 17, 3) := by decide +kernel
theorem dX6_taken_12 : decode cX6_taken 12 = .ok (.iload_n 1, 1) := by decide +kernel
theorem dX6_taken_13 : decode cX6_taken 13 = .ok (.aload_n 0, 1) := by decide +kernel
theorem dX6_taken_14 : decode cX6_taken 14 = .ok (.iload_n 2, 1) := by decide +kernel
theorem dX6_taken_15 : decode cX6_taken 15 = .ok (.invokevirtual 58, 3) := by decide +kernel
theorem dX6_taken_18 : decode cX6_taken 18 = .ok (.iadd, 1) := by decide +kernel
theorem dX6_taken_19 : decode cX6_taken 19 = .ok (.istore_n 1, 1) := by decide +kernel
theorem dX6_taken_20 : decode cX6_taken 20 = .ok (.iinc 2 1, 3) := by decide +kernel
theorem dX6_taken_23 : decode cX6_taken 23 = .ok (.goto (-19), 3) := by decide +kernel
theorem dX6_taken_26 : decode cX6_taken 26 = .ok (.iload_n 1, 1) := by decide +kernel
theorem dX6_taken_27 : decode cX6_taken 27 = .ok (.ireturn, 1) := by decide +kernel
theorem dX6_kerf_0 : decode cX6_kerf 0 = .ok (.iconst 0, 1) := by decide +kernel
theorem dX6_kerf_1 : decode cX6_kerf 1 = .ok (.istore_n 1, 1) := by decide +kernel
theorem dX6_kerf_2 : decode cX6_kerf 2 = .ok (.iconst 0, 1) := by decide +kernel
theorem dX6_kerf_3 : decode cX6_kerf 3 = .ok (.istore_n 2, 1) := by decide +kernel
theorem dX6_kerf_4 : decode cX6_kerf 4 = .ok (.iconst 0, 1) := by decide +kernel
theorem dX6_kerf_5 : decode cX6_kerf 5 = .ok (.istore_n 3, 1) := by decide +kernel
theorem dX6_kerf_6 : decode cX6_kerf 6 = .ok (.iload_n 3, 1) := by decide +kernel
theorem dX6_kerf_7 : decode cX6_kerf 7 = .ok (.aload_n 0, 1) := by decide +kernel
theorem dX6_kerf_8 : decode cX6_kerf 8 = .ok (.getfield 9, 3) := by decide +kernel
theorem dX6_kerf_11 : decode cX6_kerf 11 = .ok (.if_icmp .ge 38, 3) := by decide +kernel
theorem dX6_kerf_14 : decode cX6_kerf 14 = .ok (.aload_n 0, 1) := by decide +kernel
theorem dX6_kerf_15 : decode cX6_kerf 15 = .ok (.iload_n 3, 1) := by decide +kernel
theorem dX6_kerf_16 : decode cX6_kerf 16 = .ok (.invokevirtual 58, 3) := by decide +kernel
theorem dX6_kerf_19 : decode cX6_kerf 19 = .ok (.ifCond .le 24, 3) := by decide +kernel
theorem dX6_kerf_22 : decode cX6_kerf 22 = .ok (.iload_n 1, 1) := by decide +kernel
theorem dX6_kerf_23 : decode cX6_kerf 23 = .ok (.aload_n 0, 1) := by decide +kernel
theorem dX6_kerf_24 : decode cX6_kerf 24 = .ok (.iload_n 3, 1) := by decide +kernel
theorem dX6_kerf_25 : decode cX6_kerf 25 = .ok (.invokevirtual 61, 3) := by decide +kernel
theorem dX6_kerf_28 : decode cX6_kerf 28 = .ok (.ineg, 1) := by decide +kernel
theorem dX6_kerf_29 : decode cX6_kerf 29 = .ok (.invokestatic 64, 3) := by decide +kernel
theorem dX6_kerf_32 : decode cX6_kerf 32 = .ok (.istore_n 1, 1) := by decide +kernel
theorem dX6_kerf_33 : decode cX6_kerf 33 = .ok (.iload_n 2, 1) := by decide +kernel
theorem dX6_kerf_34 : decode cX6_kerf 34 = .ok (.aload_n 0, 1) := by decide +kernel
theorem dX6_kerf_35 : decode cX6_kerf 35 = .ok (.iload_n 3, 1) := by decide +kernel
theorem dX6_kerf_36 : decode cX6_kerf 36 = .ok (.invokevirtual 61, 3) := by decide +kernel
theorem dX6_kerf_39 : decode cX6_kerf 39 = .ok (.invokestatic 64, 3) := by decide +kernel
theorem dX6_kerf_42 : decode cX6_kerf 42 = .ok (.istore_n 2, 1) := by decide +kernel
theorem dX6_kerf_43 : decode cX6_kerf 43 = .ok (.iinc 3 1, 3) := by decide +kernel
theorem dX6_kerf_46 : decode cX6_kerf 46 = .ok (.goto (-40), 3) := by decide +kernel
theorem dX6_kerf_49 : decode cX6_kerf 49 = .ok (.iconst 1, 1) := by decide +kernel
theorem dX6_kerf_50 : decode cX6_kerf 50 = .ok (.iload_n 1, 1) := by decide +kernel
theorem dX6_kerf_51 : decode cX6_kerf 51 = .ok (.iadd, 1) := by decide +kernel
theorem dX6_kerf_52 : decode cX6_kerf 52 = .ok (.iload_n 2, 1) := by decide +kernel
theorem dX6_kerf_53 : decode cX6_kerf 53 = .ok (.iadd, 1) := by decide +kernel
theorem dX6_kerf_54 : decode cX6_kerf 54 = .ok (.ireturn, 1) := by decide +kernel
theorem dX6_countMarks_0 : decode cX6_countMarks 0 = .ok (.iconst 0, 1) := by decide +kernel
theorem dX6_countMarks_1 : decode cX6_countMarks 1 = .ok (.istore_n 1, 1) := by decide +kernel
theorem dX6_countMarks_2 : decode cX6_countMarks 2 = .ok (.iconst 0, 1) := by decide +kernel
theorem dX6_countMarks_3 : decode cX6_countMarks 3 = .ok (.istore_n 2, 1) := by decide +kernel
theorem dX6_countMarks_4 : decode cX6_countMarks 4 = .ok (.iload_n 2, 1) := by decide +kernel
theorem dX6_countMarks_5 : decode cX6_countMarks 5 = .ok (.aload_n 0, 1) := by decide +kernel
theorem dX6_countMarks_6 : decode cX6_countMarks 6 = .ok (.getfield 9, 3) := by decide +kernel
theorem dX6_countMarks_9 : decode cX6_countMarks 9 = .ok (.if_icmp .ge 28, 3) := by decide +kernel
theorem dX6_countMarks_12 : decode cX6_countMarks 12 = .ok (.aload_n 0, 1) := by decide +kernel
theorem dX6_countMarks_13 : decode cX6_countMarks 13 = .ok (.iload_n 2, 1) := by decide +kernel
theorem dX6_countMarks_14 : decode cX6_countMarks 14 = .ok (.invokevirtual 58, 3) := by decide +kernel
theorem dX6_countMarks_17 : decode cX6_countMarks 17 = .ok (.ifCond .le 14, 3) := by decide +kernel
theorem dX6_countMarks_20 : decode cX6_countMarks 20 = .ok (.aload_n 0, 1) := by decide +kernel
theorem dX6_countMarks_21 : decode cX6_countMarks 21 = .ok (.iload_n 2, 1) := by decide +kernel
theorem dX6_countMarks_22 : decode cX6_countMarks 22 = .ok (.invokevirtual 69, 3) := by decide +kernel
theorem dX6_countMarks_25 : decode cX6_countMarks 25 = .ok (.ifCond .ne 6, 3) := by decide +kernel
theorem dX6_countMarks_28 : decode cX6_countMarks 28 = .ok (.iinc 1 1, 3) := by decide +kernel
theorem dX6_countMarks_31 : decode cX6_countMarks 31 = .ok (.iinc 2 1, 3) := by decide +kernel
theorem dX6_countMarks_34 : decode cX6_countMarks 34 = .ok (.goto (-30), 3) := by decide +kernel
theorem dX6_countMarks_37 : decode cX6_countMarks 37 = .ok (.iload_n 1, 1) := by decide +kernel
theorem dX6_countMarks_38 : decode cX6_countMarks 38 = .ok (.ireturn, 1) := by decide +kernel
theorem dX6_isMarkedAhead_0 : decode cX6_isMarkedAhead 0 = .ok (.iconst 0, 1) := by decide +kernel
theorem dX6_isMarkedAhead_1 : decode cX6_isMarkedAhead 1 = .ok (.istore_n 2, 1) := by decide +kernel
theorem dX6_isMarkedAhead_2 : decode cX6_isMarkedAhead 2 = .ok (.iload_n 2, 1) := by decide +kernel
theorem dX6_isMarkedAhead_3 : decode cX6_isMarkedAhead 3 = .ok (.iload_n 1, 1) := by decide +kernel
theorem dX6_isMarkedAhead_4 : decode cX6_isMarkedAhead 4 = .ok (.if_icmp .ge 32, 3) := by decide +kernel
theorem dX6_isMarkedAhead_7 : decode cX6_isMarkedAhead 7 = .ok (.aload_n 0, 1) := by decide +kernel
theorem dX6_isMarkedAhead_8 : decode cX6_isMarkedAhead 8 = .ok (.iload_n 2, 1) := by decide +kernel
theorem dX6_isMarkedAhead_9 : decode cX6_isMarkedAhead 9 = .ok (.invokevirtual 58, 3) := by decide +kernel
theorem dX6_isMarkedAhead_12 : decode cX6_isMarkedAhead 12 = .ok (.ifCond .le 18, 3) := by decide +kernel
theorem dX6_isMarkedAhead_15 : decode cX6_isMarkedAhead 15 = .ok (.aload_n 0, 1) := by decide +kernel
theorem dX6_isMarkedAhead_16 : decode cX6_isMarkedAhead 16 = .ok (.iload_n 2, 1) := by decide +kernel
theorem dX6_isMarkedAhead_17 : decode cX6_isMarkedAhead 17 = .ok (.invokevirtual 61, 3) := by decide +kernel
theorem dX6_isMarkedAhead_20 : decode cX6_isMarkedAhead 20 = .ok (.aload_n 0, 1) := by decide +kernel
theorem dX6_isMarkedAhead_21 : decode cX6_isMarkedAhead 21 = .ok (.iload_n 1, 1) := by decide +kernel
theorem dX6_isMarkedAhead_22 : decode cX6_isMarkedAhead 22 = .ok (.invokevirtual 61, 3) := by decide +kernel
theorem dX6_isMarkedAhead_25 : decode cX6_isMarkedAhead 25 = .ok (.if_icmp .ne 5, 3) := by decide +kernel
theorem dX6_isMarkedAhead_28 : decode cX6_isMarkedAhead 28 = .ok (.iconst 1, 1) := by decide +kernel
theorem dX6_isMarkedAhead_29 : decode cX6_isMarkedAhead 29 = .ok (.ireturn, 1) := by decide +kernel
theorem dX6_isMarkedAhead_30 : decode cX6_isMarkedAhead 30 = .ok (.iinc 2 1, 3) := by decide +kernel
theorem dX6_isMarkedAhead_33 : decode cX6_isMarkedAhead 33 = .ok (.goto (-31), 3) := by decide +kernel
theorem dX6_isMarkedAhead_36 : decode cX6_isMarkedAhead 36 = .ok (.iconst 0, 1) := by decide +kernel
theorem dX6_isMarkedAhead_37 : decode cX6_isMarkedAhead 37 = .ok (.ireturn, 1) := by decide +kernel
theorem dX6_whichLeave_0 : decode cX6_whichLeave 0 = .ok (.iconst 0, 1) := by decide +kernel
theorem dX6_whichLeave_1 : decode cX6_whichLeave 1 = .ok (.istore_n 3, 1) := by decide +kernel
theorem dX6_whichLeave_2 : decode cX6_whichLeave 2 = .ok (.iconst 0, 1) := by decide +kernel
theorem dX6_whichLeave_3 : decode cX6_whichLeave 3 = .ok (.istore 4, 2) := by decide +kernel
theorem dX6_whichLeave_5 : decode cX6_whichLeave 5 = .ok (.iload 4, 2) := by decide +kernel
theorem dX6_whichLeave_7 : decode cX6_whichLeave 7 = .ok (.aload_n 0, 1) := by decide +kernel
theorem dX6_whichLeave_8 : decode cX6_whichLeave 8 = .ok (.getfield 9, 3) := by decide +kernel
theorem dX6_whichLeave_11 : decode cX6_whichLeave 11 = .ok (.if_icmp .ge 37, 3) := by decide +kernel
theorem dX6_whichLeave_14 : decode cX6_whichLeave 14 = .ok (.aload_n 0, 1) := by decide +kernel
theorem dX6_whichLeave_15 : decode cX6_whichLeave 15 = .ok (.iload 4, 2) := by decide +kernel
theorem dX6_whichLeave_17 : decode cX6_whichLeave 17 = .ok (.invokevirtual 58, 3) := by decide +kernel
theorem dX6_whichLeave_20 : decode cX6_whichLeave 20 = .ok (.ifCond .le 22, 3) := by decide +kernel
theorem dX6_whichLeave_23 : decode cX6_whichLeave 23 = .ok (.iload_n 1, 1) := by decide +kernel
theorem dX6_whichLeave_24 : decode cX6_whichLeave 24 = .ok (.aload_n 0, 1) := by decide +kernel
theorem dX6_whichLeave_25 : decode cX6_whichLeave 25 = .ok (.iload 4, 2) := by decide +kernel
theorem dX6_whichLeave_27 : decode cX6_whichLeave 27 = .ok (.invokevirtual 61, 3) := by decide +kernel
theorem dX6_whichLeave_30 : decode cX6_whichLeave 30 = .ok (.iadd, 1) := by decide +kernel
theorem dX6_whichLeave_31 : decode cX6_whichLeave 31 = .ok (.iload_n 2, 1) := by decide +kernel
theorem dX6_whichLeave_32 : decode cX6_whichLeave 32 = .ok (.if_icmp .ne 10, 3) := by decide +kernel
theorem dX6_whichLeave_35 : decode cX6_whichLeave 35 = .ok (.iload_n 3, 1) := by decide +kernel
theorem dX6_whichLeave_36 : decode cX6_whichLeave 36 = .ok (.iconst 1, 1) := by decide +kernel
theorem dX6_whichLeave_37 : decode cX6_whichLeave 37 = .ok (.iload 4, 2) := by decide +kernel
theorem dX6_whichLeave_39 : decode cX6_whichLeave 39 = .ok (.ishl, 1) := by decide +kernel
theorem dX6_whichLeave_40 : decode cX6_whichLeave 40 = .ok (.ior, 1) := by decide +kernel
theorem dX6_whichLeave_41 : decode cX6_whichLeave 41 = .ok (.istore_n 3, 1) := by decide +kernel
theorem dX6_whichLeave_42 : decode cX6_whichLeave 42 = .ok (.iinc 4 1, 3) := by decide +kernel
theorem dX6_whichLeave_45 : decode cX6_whichLeave 45 = .ok (.goto (-40), 3) := by decide +kernel
theorem dX6_whichLeave_48 : decode cX6_whichLeave 48 = .ok (.iload_n 3, 1) := by decide +kernel
theorem dX6_whichLeave_49 : decode cX6_whichLeave 49 = .ok (.ireturn, 1) := by decide +kernel
theorem dX6_mendBy_0 : decode cX6_mendBy 0 = .ok (.iload_n 2, 1) := by decide +kernel
theorem dX6_mendBy_1 : decode cX6_mendBy 1 = .ok (.tableswitch 57 0 3 #[31, 37, 44, 51], 31) := by decide +kernel
theorem dX6_mendBy_32 : decode cX6_mendBy 32 = .ok (.aload_n 0, 1) := by decide +kernel
theorem dX6_mendBy_33 : decode cX6_mendBy 33 = .ok (.iload_n 1, 1) := by decide +kernel
theorem dX6_mendBy_34 : decode cX6_mendBy 34 = .ok (.invokevirtual 72, 3) := by decide +kernel
theorem dX6_mendBy_37 : decode cX6_mendBy 37 = .ok (.ireturn, 1) := by decide +kernel
theorem dX6_mendBy_38 : decode cX6_mendBy 38 = .ok (.aload_n 0, 1) := by decide +kernel
theorem dX6_mendBy_39 : decode cX6_mendBy 39 = .ok (.iload_n 1, 1) := by decide +kernel
theorem dX6_mendBy_40 : decode cX6_mendBy 40 = .ok (.iconst (-1), 1) := by decide +kernel
theorem dX6_mendBy_41 : decode cX6_mendBy 41 = .ok (.invokevirtual 75, 3) := by decide +kernel
theorem dX6_mendBy_44 : decode cX6_mendBy 44 = .ok (.ireturn, 1) := by decide +kernel
theorem dX6_mendBy_45 : decode cX6_mendBy 45 = .ok (.aload_n 0, 1) := by decide +kernel
theorem dX6_mendBy_46 : decode cX6_mendBy 46 = .ok (.iload_n 1, 1) := by decide +kernel
theorem dX6_mendBy_47 : decode cX6_mendBy 47 = .ok (.iconst 1, 1) := by decide +kernel
theorem dX6_mendBy_48 : decode cX6_mendBy 48 = .ok (.invokevirtual 75, 3) := by decide +kernel
theorem dX6_mendBy_51 : decode cX6_mendBy 51 = .ok (.ireturn, 1) := by decide +kernel
theorem dX6_mendBy_52 : decode cX6_mendBy 52 = .ok (.aload_n 0, 1) := by decide +kernel
theorem dX6_mendBy_53 : decode cX6_mendBy 53 = .ok (.iload_n 1, 1) := by decide +kernel
theorem dX6_mendBy_54 : decode cX6_mendBy 54 = .ok (.invokevirtual 79, 3) := by decide +kernel
theorem dX6_mendBy_57 : decode cX6_mendBy 57 = .ok (.ireturn, 1) := by decide +kernel
theorem dX6_mendBy_58 : decode cX6_mendBy 58 = .ok (.iconst 0, 1) := by decide +kernel
theorem dX6_mendBy_59 : decode cX6_mendBy 59 = .ok (.ireturn, 1) := by decide +kernel
theorem dX6_fileIt_0 : decode cX6_fileIt 0 = .ok (.aload_n 0, 1) := by decide +kernel
theorem dX6_fileIt_1 : decode cX6_fileIt 1 = .ok (.iload_n 1, 1) := by decide +kernel
theorem dX6_fileIt_2 : decode cX6_fileIt 2 = .ok (.iconst 2, 1) := by decide +kernel
theorem dX6_fileIt_3 : decode cX6_fileIt 3 = .ok (.invokevirtual 82, 3) := by decide +kernel
theorem dX6_fileIt_6 : decode cX6_fileIt 6 = .ok (.iconst 2, 1) := by decide +kernel
theorem dX6_fileIt_7 : decode cX6_fileIt 7 = .ok (.iadd, 1) := by decide +kernel
theorem dX6_fileIt_8 : decode cX6_fileIt 8 = .ok (.istore_n 2, 1) := by decide +kernel
theorem dX6_fileIt_9 : decode cX6_fileIt 9 = .ok (.aload_n 0, 1) := by decide +kernel
theorem dX6_fileIt_10 : decode cX6_fileIt 10 = .ok (.iload_n 1, 1) := by decide +kernel
theorem dX6_fileIt_11 : decode cX6_fileIt 11 = .ok (.iconst 1, 1) := by decide +kernel
theorem dX6_fileIt_12 : decode cX6_fileIt 12 = .ok (.invokevirtual 82, 3) := by decide +kernel
theorem dX6_fileIt_15 : decode cX6_fileIt 15 = .ok (.iconst 1, 1) := by decide +kernel
theorem dX6_fileIt_16 : decode cX6_fileIt 16 = .ok (.isub, 1) := by decide +kernel
theorem dX6_fileIt_17 : decode cX6_fileIt 17 = .ok (.istore_n 3, 1) := by decide +kernel
theorem dX6_fileIt_18 : decode cX6_fileIt 18 = .ok (.iload_n 2, 1) := by decide +kernel
theorem dX6_fileIt_19 : decode cX6_fileIt 19 = .ok (.bipush 9, 2) := by decide +kernel
theorem dX6_fileIt_21 : decode cX6_fileIt 21 = .ok (.if_icmp .gt 7, 3) := by decide +kernel
theorem dX6_fileIt_24 : decode cX6_fileIt 24 = .ok (.iload_n 3, 1) := by decide +kernel
theorem dX6_fileIt_25 : decode cX6_fileIt 25 = .ok (.ifCond .ge 5, 3) := by decide +kernel
theorem dX6_fileIt_28 : decode cX6_fileIt 28 = .ok (.iconst 0, 1) := by decide +kernel
theorem dX6_fileIt_29 : decode cX6_fileIt 29 = .ok (.ireturn, 1) := by decide +kernel
theorem dX6_fileIt_30 : decode cX6_fileIt 30 = .ok (.aload_n 0, 1) := by decide +kernel
theorem dX6_fileIt_31 : decode cX6_fileIt 31 = .ok (.iload_n 1, 1) := by decide +kernel
theorem dX6_fileIt_32 : decode cX6_fileIt 32 = .ok (.iconst 2, 1) := by decide +kernel
theorem dX6_fileIt_33 : decode cX6_fileIt 33 = .ok (.iload_n 2, 1) := by decide +kernel
theorem dX6_fileIt_34 : decode cX6_fileIt 34 = .ok (.invokevirtual 50, 3) := by decide +kernel
theorem dX6_fileIt_37 : decode cX6_fileIt 37 = .ok (.aload_n 0, 1) := by decide +kernel
theorem dX6_fileIt_38 : decode cX6_fileIt 38 = .ok (.iload_n 1, 1) := by decide +kernel
theorem dX6_fileIt_39 : decode cX6_fileIt 39 = .ok (.iconst 1, 1) := by decide +kernel
theorem dX6_fileIt_40 : decode cX6_fileIt 40 = .ok (.iload_n 3, 1) := by decide +kernel
theorem dX6_fileIt_41 : decode cX6_fileIt 41 = .ok (.invokevirtual 50, 3) := by decide +kernel
theorem dX6_fileIt_44 : decode cX6_fileIt 44 = .ok (.iconst 1, 1) := by decide +kernel
theorem dX6_fileIt_45 : decode cX6_fileIt 45 = .ok (.ireturn, 1) := by decide +kernel
theorem dX6_bendBy_0 : decode cX6_bendBy 0 = .ok (.aload_n 0, 1) := by decide +kernel
theorem dX6_bendBy_1 : decode cX6_bendBy 1 = .ok (.iload_n 1, 1) := by decide +kernel
theorem dX6_bendBy_2 : decode cX6_bendBy 2 = .ok (.iconst 0, 1) := by decide +kernel
theorem dX6_bendBy_3 : decode cX6_bendBy 3 = .ok (.invokevirtual 82, 3) := by decide +kernel
theorem dX6_bendBy_6 : decode cX6_bendBy 6 = .ok (.iload_n 2, 1) := by decide +kernel
theorem dX6_bendBy_7 : decode cX6_bendBy 7 = .ok (.iadd, 1) := by decide +kernel
theorem dX6_bendBy_8 : decode cX6_bendBy 8 = .ok (.istore_n 3, 1) := by decide +kernel
theorem dX6_bendBy_9 : decode cX6_bendBy 9 = .ok (.aload_n 0, 1) := by decide +kernel
theorem dX6_bendBy_10 : decode cX6_bendBy 10 = .ok (.iload_n 1, 1) := by decide +kernel
theorem dX6_bendBy_11 : decode cX6_bendBy 11 = .ok (.invokevirtual 54, 3) := by decide +kernel
theorem dX6_bendBy_14 : decode cX6_bendBy 14 = .ok (.ifCond .eq 13, 3) := by decide +kernel
theorem dX6_bendBy_17 : decode cX6_bendBy 17 = .ok (.iload_n 3, 1) := by decide +kernel
theorem dX6_bendBy_18 : decode cX6_bendBy 18 = .ok (.ifCond .lt 9, 3) := by decide +kernel
theorem dX6_bendBy_21 : decode cX6_bendBy 21 = .ok (.iload_n 3, 1) := by decide +kernel
theorem dX6_bendBy_22 : decode cX6_bendBy 22 = .ok (.bipush 9, 2) := by decide +kernel
theorem dX6_bendBy_24 : decode cX6_bendBy 24 = .ok (.if_icmp .le 5, 3) := by decide +kernel
theorem dX6_bendBy_27 : decode cX6_bendBy 27 = .ok (.iconst 0, 1) := by decide +kernel
theorem dX6_bendBy_28 : decode cX6_bendBy 28 = .ok (.ireturn, 1) := by decide +kernel
theorem dX6_bendBy_29 : decode cX6_bendBy 29 = .ok (.aload_n 0, 1) := by decide +kernel
theorem dX6_bendBy_30 : decode cX6_bendBy 30 = .ok (.iload_n 1, 1) := by decide +kernel
theorem dX6_bendBy_31 : decode cX6_bendBy 31 = .ok (.iconst 0, 1) := by decide +kernel
theorem dX6_bendBy_32 : decode cX6_bendBy 32 = .ok (.iload_n 3, 1) := by decide +kernel
theorem dX6_bendBy_33 : decode cX6_bendBy 33 = .ok (.invokevirtual 50, 3) := by decide +kernel
theorem dX6_bendBy_36 : decode cX6_bendBy 36 = .ok (.iconst 1, 1) := by decide +kernel
theorem dX6_bendBy_37 : decode cX6_bendBy 37 = .ok (.ireturn, 1) := by decide +kernel
theorem dX6_breakOff_0 : decode cX6_breakOff 0 = .ok (.aload_n 0, 1) := by decide +kernel
theorem dX6_breakOff_1 : decode cX6_breakOff 1 = .ok (.iload_n 1, 1) := by decide +kernel
theorem dX6_breakOff_2 : decode cX6_breakOff 2 = .ok (.iconst 1, 1) := by decide +kernel
theorem dX6_breakOff_3 : decode cX6_breakOff 3 = .ok (.invokevirtual 82, 3) := by decide +kernel
theorem dX6_breakOff_6 : decode cX6_breakOff 6 = .ok (.ifCond .ne 5, 3) := by decide +kernel
theorem dX6_breakOff_9 : decode cX6_breakOff 9 = .ok (.iconst 0, 1) := by decide +kernel
theorem dX6_breakOff_10 : decode cX6_breakOff 10 = .ok (.ireturn, 1) := by decide +kernel
theorem dX6_breakOff_11 : decode cX6_breakOff 11 = .ok (.aload_n 0, 1) := by decide +kernel
theorem dX6_breakOff_12 : decode cX6_breakOff 12 = .ok (.iload_n 1, 1) := by decide +kernel
theorem dX6_breakOff_13 : decode cX6_breakOff 13 = .ok (.iconst 1, 1) := by decide +kernel
theorem dX6_breakOff_14 : decode cX6_breakOff 14 = .ok (.iconst 0, 1) := by decide +kernel
theorem dX6_breakOff_15 : decode cX6_breakOff 15 = .ok (.invokevirtual 50, 3) := by decide +kernel
theorem dX6_breakOff_18 : decode cX6_breakOff 18 = .ok (.iconst 1, 1) := by decide +kernel
theorem dX6_breakOff_19 : decode cX6_breakOff 19 = .ok (.ireturn, 1) := by decide +kernel
theorem dX7_init_0 : decode cX7_init 0 = .ok (.aload_n 0, 1) := by decide +kernel
theorem dX7_init_1 : decode cX7_init 1 = .ok (.invokespecial 3, 3) := by decide +kernel
theorem dX7_init_4 : decode cX7_init 4 = .ok (.aload_n 0, 1) := by decide +kernel
theorem dX7_init_5 : decode cX7_init 5 = .ok (.iconst 4, 1) := by decide +kernel
theorem dX7_init_6 : decode cX7_init 6 = .ok (.newarray .int, 2) := by decide +kernel
theorem dX7_init_8 : decode cX7_init 8 = .ok (.putfield 11, 3) := by decide +kernel
theorem dX7_init_11 : decode cX7_init 11 = .ok (.aload_n 0, 1) := by decide +kernel
theorem dX7_init_12 : decode cX7_init 12 = .ok (.iconst 4, 1) := by decide +kernel
theorem dX7_init_13 : decode cX7_init 13 = .ok (.newarray .int, 2) := by decide +kernel
theorem dX7_init_15 : decode cX7_init 15 = .ok (.putfield 15, 3) := by decide +kernel
theorem dX7_init_18 : decode cX7_init 18 = .ok (.aload_n 0, 1) := by decide +kernel
theorem dX7_init_19 : decode cX7_init 19 = .ok (.sipush 320, 3) := by decide +kernel
theorem dX7_init_22 : decode cX7_init 22 = .ok (.newarray .int, 2) := by decide +kernel
theorem dX7_init_24 : decode cX7_init 24 = .ok (.putfield 18, 3) := by decide +kernel
theorem dX7_init_27 : decode cX7_init 27 = .ok (.iconst 0, 1) := by decide +kernel
theorem dX7_init_28 : decode cX7_init 28 = .ok (.istore_n 1, 1) := by decide +kernel
theorem dX7_init_29 : decode cX7_init 29 = .ok (.iload_n 1, 1) := by decide +kernel
theorem dX7_init_30 : decode cX7_init 30 = .ok (.iconst 4, 1) := by decide +kernel
theorem dX7_init_31 : decode cX7_init 31 = .ok (.if_icmp .ge 16, 3) := by decide +kernel
theorem dX7_init_34 : decode cX7_init 34 = .ok (.aload_n 0, 1) := by decide +kernel
theorem dX7_init_35 : decode cX7_init 35 = .ok (.getfield 11, 3) := by decide +kernel
theorem dX7_init_38 : decode cX7_init 38 = .ok (.iload_n 1, 1) := by decide +kernel
theorem dX7_init_39 : decode cX7_init 39 = .ok (.iconst (-1), 1) := by decide +kernel
theorem dX7_init_40 : decode cX7_init 40 = .ok (.iastore, 1) := by decide +kernel
theorem dX7_init_41 : decode cX7_init 41 = .ok (.iinc 1 1, 3) := by decide +kernel
theorem dX7_init_44 : decode cX7_init 44 = .ok (.goto (-15), 3) := by decide +kernel
theorem dX7_init_47 : decode cX7_init 47 = .ok (.return_, 1) := by decide +kernel
theorem dX7_isSheet_0 : decode cX7_isSheet 0 = .ok (.iload_n 0, 1) := by decide +kernel
theorem dX7_isSheet_1 : decode cX7_isSheet 1 = .ok (.ifCond .lt 12, 3) := by decide +kernel
theorem dX7_isSheet_4 : decode cX7_isSheet 4 = .ok (.iload_n 0, 1) := by decide +kernel
theorem dX7_isSheet_5 : decode cX7_isSheet 5 = .ok (.iconst 4, 1) := by decide +kernel
theorem dX7_isSheet_6 : decode cX7_isSheet 6 = .ok (.if_icmp .ge 7, 3) := by decide +kernel
theorem dX7_isSheet_9 : decode cX7_isSheet 9 = .ok (.iconst 1, 1) := by decide +kernel
theorem dX7_isSheet_10 : decode cX7_isSheet 10 = .ok (.goto 4, 3) := by decide +kernel
theorem dX7_isSheet_13 : decode cX7_isSheet 13 = .ok (.iconst 0, 1) := by decide +kernel
theorem dX7_isSheet_14 : decode cX7_isSheet 14 = .ok (.ireturn, 1) := by decide +kernel
theorem dX7_isLane_0 : decode cX7_isLane 0 = .ok (.iload_n 0, 1) := by decide +kernel
theorem dX7_isLane_1 : decode cX7_isLane 1 = .ok (.ifCond .lt 12, 3) := by decide +kernel
theorem dX7_isLane_4 : decode cX7_isLane 4 = .ok (.iload_n 0, 1) := by decide +kernel
theorem dX7_isLane_5 : decode cX7_isLane 5 = .ok (.iconst 2, 1) := by decide +kernel
theorem dX7_isLane_6 : decode cX7_isLane 6 = .ok (.if_icmp .gt 7, 3) := by decide +kernel
theorem dX7_isLane_9 : decode cX7_isLane 9 = .ok (.iconst 1, 1) := by decide +kernel
theorem dX7_isLane_10 : decode cX7_isLane 10 = .ok (.goto 4, 3) := by decide +kernel
theorem dX7_isLane_13 : decode cX7_isLane 13 = .ok (.iconst 0, 1) := by decide +kernel
theorem dX7_isLane_14 : decode cX7_isLane 14 = .ok (.ireturn, 1) := by decide +kernel
theorem dX7_isNothing_0 : decode cX7_isNothing 0 = .ok (.iload_n 1, 1) := by decide +kernel
theorem dX7_isNothing_1 : decode cX7_isNothing 1 = .ok (.invokestatic 21, 3) := by decide +kernel
theorem dX7_isNothing_4 : decode cX7_isNothing 4 = .ok (.ifCond .eq 13, 3) := by decide +kernel
theorem dX7_isNothing_7 : decode cX7_isNothing 7 = .ok (.aload_n 0, 1) := by decide +kernel
theorem dX7_isNothing_8 : decode cX7_isNothing 8 = .ok (.getfield 11, 3) := by decide +kernel
theorem dX7_isNothing_11 : decode cX7_isNothing 11 = .ok (.iload_n 1, 1) := by decide +kernel
theorem dX7_isNothing_12 : decode cX7_isNothing 12 = .ok (.iaload, 1) := by decide +kernel
theorem dX7_isNothing_13 : decode cX7_isNothing 13 = .ok (.iconst (-1), 1) := by decide +kernel
theorem dX7_isNothing_14 : decode cX7_isNothing 14 = .ok (.if_icmp .ne 7, 3) := by decide +kernel
theorem dX7_isNothing_17 : decode cX7_isNothing 17 = .ok (.iconst 1, 1) := by decide +kernel
theorem dX7_isNothing_18 : decode cX7_isNothing 18 = .ok (.goto 4, 3) := by decide +kernel
theorem dX7_isNothing_21 : decode cX7_isNothing 21 = .ok (.iconst 0, 1) := by decide +kernel
theorem dX7_isNothing_22 : decode cX7_isNothing 22 = .ok (.ireturn, 1) := by decide +kernel
theorem dX7_areOfOneLane_0 : decode cX7_areOfOneLane 0 = .ok (.iload_n 1, 1) := by decide +kernel
theorem dX7_areOfOneLane_1 : decode cX7_areOfOneLane 1 = .ok (.invokestatic 21, 3) := by decide +kernel
theorem dX7_areOfOneLane_4 : decode cX7_areOfOneLane 4 = .ok (.ifCond .eq 29, 3) := by decide +kernel
theorem dX7_areOfOneLane_7 : decode cX7_areOfOneLane 7 = .ok (.iload_n 2, 1) := by decide +kernel
theorem dX7_areOfOneLane_8 : decode cX7_areOfOneLane 8 = .ok (.invokestatic 21, 3) := by decide +kernel
theorem dX7_areOfOneLane_11 : decode cX7_areOfOneLane 11 = .ok (.ifCond .eq 22, 3) := by decide +kernel
theorem dX7_areOfOneLane_14 : decode cX7_areOfOneLane 14 = .ok (.aload_n 0, 1) := by decide +kernel
theorem dX7_areOfOneLane_15 : decode cX7_areOfOneLane 15 = .ok (.getfield 11, 3) := by decide +kernel
theorem dX7_areOfOneLane_18 : decode cX7_areOfOneLane 18 = .ok (.iload_n 1, 1) := by decide +kernel
theorem dX7_areOfOneLane_19 : decode cX7_areOfOneLane 19 = .ok (.iaload, 1) := by decide +kernel
theorem dX7_areOfOneLane_20 : decode cX7_areOfOneLane 20 = .ok (.aload_n 0, 1) := by decide +kernel
theorem dX7_areOfOneLane_21 : decode cX7_areOfOneLane 21 = .ok (.getfield 11, 3) := by decide +kernel
theorem dX7_areOfOneLane_24 : decode cX7_areOfOneLane 24 = .ok (.iload_n 2, 1) := by decide +kernel
theorem dX7_areOfOneLane_25 : decode cX7_areOfOneLane 25 = .ok (.iaload, 1) := by decide +kernel
theorem dX7_areOfOneLane_26 : decode cX7_areOfOneLane 26 = .ok (.if_icmp .ne 7, 3) := by decide +kernel
theorem dX7_areOfOneLane_29 : decode cX7_areOfOneLane 29 = .ok (.iconst 1, 1) := by decide +kernel
theorem dX7_areOfOneLane_30 : decode cX7_areOfOneLane 30 = .ok (.goto 4, 3) := by decide +kernel
theorem dX7_areOfOneLane_33 : decode cX7_areOfOneLane 33 = .ok (.iconst 0, 1) := by decide +kernel
theorem dX7_areOfOneLane_34 : decode cX7_areOfOneLane 34 = .ok (.ireturn, 1) := by decide +kernel
theorem dX7_hasCell_0 : decode cX7_hasCell 0 = .ok (.aload_n 0, 1) := by decide +kernel
theorem dX7_hasCell_1 : decode cX7_hasCell 1 = .ok (.iload_n 1, 1) := by decide +kernel
theorem dX7_hasCell_2 : decode cX7_hasCell 2 = .ok (.invokevirtual 25, 3) := by decide +kernel
theorem dX7_hasCell_5 : decode cX7_hasCell 5 = .ok (.ifCond .ne 21, 3) := by decide +kernel
theorem dX7_hasCell_8 : decode cX7_hasCell 8 = .ok (.iload_n 2, 1) := by decide +kernel
theorem dX7_hasCell_9 : decode cX7_hasCell 9 = .ok (.ifCond .lt 17, 3) := by decide +kernel
theorem dX7_hasCell_12 : decode cX7_hasCell 12 = .ok (.iload_n 2, 1) := by decide +kernel
theorem dX7_hasCell_13 : decode cX7_hasCell 13 = .ok (.aload_n 0, 1) := by decide +kernel
theorem dX7_hasCell_14 : decode cX7_hasCell 14 = .ok (.getfield 15, 3) := by decide +kernel
theorem dX7_hasCell_17 : decode cX7_hasCell 17 = .ok (.iload_n 1, 1) := by decide +kernel
theorem dX7_hasCell_18 : decode cX7_hasCell 18 = .ok (.iaload, 1) := by decide +kernel
theorem dX7_hasCell_19 : decode cX7_hasCell 19 = .ok (.if_icmp .ge 7, 3) := by decide +kernel
theorem dX7_hasCell_22 : decode cX7_hasCell 22 = .ok (.iconst 1, 1) := by decide +kernel
theorem dX7_hasCell_23 : decode cX7_hasCell 23 = .ok (.goto 4, 3) := by decide +kernel
theorem dX7_hasCell_26 : decode cX7_hasCell 26 = .ok (.iconst 0, 1) := by decide +kernel
theorem dX7_hasCell_27 : decode cX7_hasCell 27 = .ok (.ireturn, 1) := by decide +kernel
theorem dX7_hasCells_0 : decode cX7_hasCells 0 = .ok (.aload_n 0, 1) := by decide +kernel
theorem dX7_hasCells_1 : decode cX7_hasCells 1 = .ok (.iload_n 1, 1) := by decide +kernel
theorem dX7_hasCells_2 : decode cX7_hasCells 2 = .ok (.invokevirtual 25, 3) := by decide +kernel
theorem dX7_hasCells_5 : decode cX7_hasCells 5 = .ok (.ifCond .ne 37, 3) := by decide +kernel
theorem dX7_hasCells_8 : decode cX7_hasCells 8 = .ok (.iload_n 2, 1) := by decide +kernel
theorem dX7_hasCells_9 : decode cX7_hasCells 9 = .ok (.ifCond .lt 33, 3) := by decide +kernel
theorem dX7_hasCells_12 : decode cX7_hasCells 12 = .ok (.iload_n 2, 1) := by decide +kernel
theorem dX7_hasCells_13 : decode cX7_hasCells 13 = .ok (.aload_n 0, 1) := by decide +kernel
theorem dX7_hasCells_14 : decode cX7_hasCells 14 = .ok (.getfield 15, 3) := by decide +kernel
theorem dX7_hasCells_17 : decode cX7_hasCells 17 = .ok (.iload_n 1, 1) := by decide +kernel
theorem dX7_hasCells_18 : decode cX7_hasCells 18 = .ok (.iaload, 1) := by decide +kernel
theorem dX7_hasCells_19 : decode cX7_hasCells 19 = .ok (.if_icmp .gt 23, 3) := by decide +kernel
theorem dX7_hasCells_22 : decode cX7_hasCells 22 = .ok (.iload_n 3, 1) := by decide +kernel
theorem dX7_hasCells_23 : decode cX7_hasCells 23 = .ok (.ifCond .lt 19, 3) := by decide +kernel
theorem dX7_hasCells_26 : decode cX7_hasCells 26 = .ok (.iload_n 3, 1) := by decide +kernel
theorem dX7_hasCells_27 : decode cX7_hasCells 27 = .ok (.aload_n 0, 1) := by decide +kernel
theorem dX7_hasCells_28 : decode cX7_hasCells 28 = .ok (.getfield 15, 3) := by decide +kernel
theorem dX7_hasCells_31 : decode cX7_hasCells 31 = .ok (.iload_n 1, 1) := by decide +kernel
theorem dX7_hasCells_32 : decode cX7_hasCells 32 = .ok (.iaload, 1) := by decide +kernel
theorem dX7_hasCells_33 : decode cX7_hasCells 33 = .ok (.iload_n 2, 1) := by decide +kernel
theorem dX7_hasCells_34 : decode cX7_hasCells 34 = .ok (.isub, 1) := by decide +kernel
theorem dX7_hasCells_35 : decode cX7_hasCells 35 = .ok (.if_icmp .gt 7, 3) := by decide +kernel
theorem dX7_hasCells_38 : decode cX7_hasCells 38 = .ok (.iconst 1, 1) := by decide +kernel
theorem dX7_hasCells_39 : decode cX7_hasCells 39 = .ok (.goto 4, 3) := by decide +kernel
theorem dX7_hasCells_42 : decode cX7_hasCells 42 = .ok (.iconst 0, 1) := by decide +kernel
theorem dX7_hasCells_43 : decode cX7_hasCells 43 = .ok (.ireturn, 1) := by decide +kernel
theorem dX7_faultOfRow_0 : decode cX7_faultOfRow 0 = .ok (.aload_n 0, 1) := by decide +kernel
theorem dX7_faultOfRow_1 : decode cX7_faultOfRow 1 = .ok (.iload_n 1, 1) := by decide +kernel
theorem dX7_faultOfRow_2 : decode cX7_faultOfRow 2 = .ok (.invokevirtual 25, 3) := by decide +kernel
theorem dX7_faultOfRow_5 : decode cX7_faultOfRow 5 = .ok (.ifCond .eq 5, 3) := by decide +kernel
theorem dX7_faultOfRow_8 : decode cX7_faultOfRow 8 = .ok (.iconst 1, 1) := by decide +kernel
theorem dX7_faultOfRow_9 : decode cX7_faultOfRow 9 = .ok (.ireturn, 1) := by decide +kernel
theorem dX7_faultOfRow_10 : decode cX7_faultOfRow 10 = .ok (.aload_n 0, 1) := by decide +kernel
theorem dX7_faultOfRow_11 : decode cX7_faultOfRow 11 = .ok (.getfield 11, 3) := by decide +kernel
theorem dX7_faultOfRow_14 : decode cX7_faultOfRow 14 = .ok (.iload_n 1, 1) := by decide +kernel
theorem dX7_faultOfRow_15 : decode cX7_faultOfRow 15 = .ok (.iaload, 1) := by decide +kernel
theorem dX7_faultOfRow_16 : decode cX7_faultOfRow 16 = .ok (.iload_n 2, 1) := by decide +kernel
theorem dX7_faultOfRow_17 : decode cX7_faultOfRow 17 = .ok (.if_icmp .ne 7, 3) := by decide +kernel
theorem dX7_faultOfRow_20 : decode cX7_faultOfRow 20 = .ok (.iconst 0, 1) := by decide +kernel
theorem dX7_faultOfRow_21 : decode cX7_faultOfRow 21 = .ok (.goto 4, 3) := by decide +kernel
theorem dX7_faultOfRow_24 : decode cX7_faultOfRow 24 = .ok (.iconst 2, 1) := by decide +kernel
theorem dX7_faultOfRow_25 : decode cX7_faultOfRow 25 = .ok (.ireturn, 1) := by decide +kernel
theorem dX7_at_0 : decode cX7_at 0 = .ok (.aload_n 0, 1) := by decide +kernel
theorem dX7_at_1 : decode cX7_at 1 = .ok (.iload_n 1, 1) := by decide +kernel
theorem dX7_at_2 : decode cX7_at 2 = .ok (.iload_n 2, 1) := by decide +kernel
theorem dX7_at_3 : decode cX7_at 3 = .ok (.invokevirtual 28, 3) := by decide +kernel
theorem dX7_at_6 : decode cX7_at 6 = .ok (.ifCond .eq 17, 3) := by decide +kernel
theorem dX7_at_9 : decode cX7_at 9 = .ok (.aload_n 0, 1) := by decide +kernel
theorem dX7_at_10 : decode cX7_at 10 = .ok (.getfield 18, 3) := by decide +kernel
theorem dX7_at_13 : decode cX7_at 13 = .ok (.iload_n 1, 1) := by decide +kernel
theorem dX7_at_14 : decode cX7_at 14 = .ok (.bipush 80, 2) := by decide +kernel
theorem dX7_at_16 : decode cX7_at 16 = .ok (.imul, 1) := by decide +kernel
theorem dX7_at_17 : decode cX7_at 17 = .ok (.iload_n 2, 1) := by decide +kernel
theorem dX7_at_18 : decode cX7_at 18 = .ok (.iadd, 1) := by decide +kernel
theorem dX7_at_19 : decode cX7_at 19 = .ok (.iaload, 1) := by decide +kernel
theorem dX7_at_20 : decode cX7_at 20 = .ok (.goto 4, 3) := by decide +kernel
theorem dX7_at_23 : decode cX7_at 23 = .ok (.iconst 0, 1) := by decide +kernel
theorem dX7_at_24 : decode cX7_at 24 = .ok (.ireturn, 1) := by decide +kernel
theorem dX7_renew_0 : decode cX7_renew 0 = .ok (.iload_n 1, 1) := by decide +kernel
theorem dX7_renew_1 : decode cX7_renew 1 = .ok (.invokestatic 21, 3) := by decide +kernel
theorem dX7_renew_4 : decode cX7_renew 4 = .ok (.ifCond .eq 20, 3) := by decide +kernel
theorem dX7_renew_7 : decode cX7_renew 7 = .ok (.iload_n 2, 1) := by decide +kernel
theorem dX7_renew_8 : decode cX7_renew 8 = .ok (.invokestatic 32, 3) := by decide +kernel
theorem dX7_renew_11 : decode cX7_renew 11 = .ok (.ifCond .eq 13, 3) := by decide +kernel
theorem dX7_renew_14 : decode cX7_renew 14 = .ok (.iload_n 3, 1) := by decide +kernel
theorem dX7_renew_15 : decode cX7_renew 15 = .ok (.ifCond .lt 9, 3) := by decide +kernel
theorem dX7_renew_18 : decode cX7_renew 18 = .ok (.iload_n 3, 1) := by decide +kernel
theorem dX7_renew_19 : decode cX7_renew 19 = .ok (.bipush 80, 2) := by decide +kernel
theorem dX7_renew_21 : decode cX7_renew 21 = .ok (.if_icmp .le 4, 3) := by decide +kernel
theorem dX7_renew_24 : decode cX7_renew 24 = .ok (.return_, 1) := by decide +kernel
theorem dX7_renew_25 : decode cX7_renew 25 = .ok (.aload_n 0, 1) := by decide +kernel
theorem dX7_renew_26 : decode cX7_renew 26 = .ok (.getfield 11, 3) := by decide +kernel
theorem dX7_renew_29 : decode cX7_renew 29 = .ok (.iload_n 1, 1) := by decide +kernel
theorem dX7_renew_30 : decode cX7_renew 30 = .ok (.iload_n 2, 1) := by decide +kernel
theorem dX7_renew_31 : decode cX7_renew 31 = .ok (.iastore, 1) := by decide +kernel
theorem dX7_renew_32 : decode cX7_renew 32 = .ok (.aload_n 0, 1) := by decide +kernel
theorem dX7_renew_33 : decode cX7_renew 33 = .ok (.getfield 15, 3) := by decide +kernel
theorem dX7_renew_36 : decode cX7_renew 36 = .ok (.iload_n 1, 1) := by decide +kernel
theorem dX7_renew_37 : decode cX7_renew 37 = .ok (.iload_n 3, 1) := by decide +kernel
theorem dX7_renew_38 : decode cX7_renew 38 = .ok (.iastore, 1) := by decide +kernel
theorem dX7_renew_39 : decode cX7_renew 39 = .ok (.iconst 0, 1) := by decide +kernel
theorem dX7_renew_40 : decode cX7_renew 40 = .ok (.istore 4, 2) := by decide +kernel
theorem dX7_renew_42 : decode cX7_renew 42 = .ok (.iload 4, 2) := by decide +kernel
theorem dX7_renew_44 : decode cX7_renew 44 = .ok (.iload_n 3, 1) := by decide +kernel
theorem dX7_renew_45 : decode cX7_renew 45 = .ok (.if_icmp .ge 22, 3) := by decide +kernel
theorem dX7_renew_48 : decode cX7_renew 48 = .ok (.aload_n 0, 1) := by decide +kernel
theorem dX7_renew_49 : decode cX7_renew 49 = .ok (.getfield 18, 3) := by decide +kernel
theorem dX7_renew_52 : decode cX7_renew 52 = .ok (.iload_n 1, 1) := by decide +kernel
theorem dX7_renew_53 : decode cX7_renew 53 = .ok (.bipush 80, 2) := by decide +kernel
theorem dX7_renew_55 : decode cX7_renew 55 = .ok (.imul, 1) := by decide +kernel
theorem dX7_renew_56 : decode cX7_renew 56 = .ok (.iload 4, 2) := by decide +kernel
theorem dX7_renew_58 : decode cX7_renew 58 = .ok (.iadd, 1) := by decide +kernel
theorem dX7_renew_59 : decode cX7_renew 59 = .ok (.iconst 0, 1) := by decide +kernel
theorem dX7_renew_60 : decode cX7_renew 60 = .ok (.iastore, 1) := by decide +kernel
theorem dX7_renew_61 : decode cX7_renew 61 = .ok (.iinc 4 1, 3) := by decide +kernel
theorem dX7_renew_64 : decode cX7_renew 64 = .ok (.goto (-22), 3) := by decide +kernel
theorem dX7_renew_67 : decode cX7_renew 67 = .ok (.return_, 1) := by decide +kernel
theorem dX7_drop_0 : decode cX7_drop 0 = .ok (.aload_n 0, 1) := by decide +kernel
theorem dX7_drop_1 : decode cX7_drop 1 = .ok (.iload_n 1, 1) := by decide +kernel
theorem dX7_drop_2 : decode cX7_drop 2 = .ok (.invokevirtual 25, 3) := by decide +kernel
theorem dX7_drop_5 : decode cX7_drop 5 = .ok (.ifCond .eq 5, 3) := by decide +kernel
theorem dX7_drop_8 : decode cX7_drop 8 = .ok (.iconst 0, 1) := by decide +kernel
theorem dX7_drop_9 : decode cX7_drop 9 = .ok (.ireturn, 1) := by decide +kernel
theorem dX7_drop_10 : decode cX7_drop 10 = .ok (.aload_n 0, 1) := by decide +kernel
theorem dX7_drop_11 : decode cX7_drop 11 = .ok (.getfield 11, 3) := by decide +kernel
theorem dX7_drop_14 : decode cX7_drop 14 = .ok (.iload_n 1, 1) := by decide +kernel
theorem dX7_drop_15 : decode cX7_drop 15 = .ok (.iconst (-1), 1) := by decide +kernel
theorem dX7_drop_16 : decode cX7_drop 16 = .ok (.iastore, 1) := by decide +kernel
theorem dX7_drop_17 : decode cX7_drop 17 = .ok (.aload_n 0, 1) := by decide +kernel
theorem dX7_drop_18 : decode cX7_drop 18 = .ok (.getfield 15, 3) := by decide +kernel
theorem dX7_drop_21 : decode cX7_drop 21 = .ok (.iload_n 1, 1) := by decide +kernel
theorem dX7_drop_22 : decode cX7_drop 22 = .ok (.iconst 0, 1) := by decide +kernel
theorem dX7_drop_23 : decode cX7_drop 23 = .ok (.iastore, 1) := by decide +kernel
theorem dX7_drop_24 : decode cX7_drop 24 = .ok (.iconst 1, 1) := by decide +kernel
theorem dX7_drop_25 : decode cX7_drop 25 = .ok (.ireturn, 1) := by decide +kernel
theorem dX7_write_0 : decode cX7_write 0 = .ok (.aload_n 0, 1) := by decide +kernel
theorem dX7_write_1 : decode cX7_write 1 = .ok (.iload_n 1, 1) := by decide +kernel
theorem dX7_write_2 : decode cX7_write 2 = .ok (.iload_n 2, 1) := by decide +kernel
theorem dX7_write_3 : decode cX7_write 3 = .ok (.invokevirtual 28, 3) := by decide +kernel
theorem dX7_write_6 : decode cX7_write 6 = .ok (.ifCond .ne 4, 3) := by decide +kernel
theorem dX7_write_9 : decode cX7_write 9 = .ok (.return_, 1) := by decide +kernel
theorem dX7_write_10 : decode cX7_write 10 = .ok (.iload_n 3, 1) := by decide +kernel
theorem dX7_write_11 : decode cX7_write 11 = .ok (.istore 4, 2) := by decide +kernel
theorem dX7_write_13 : decode cX7_write 13 = .ok (.aload_n 0, 1) := by decide +kernel
theorem dX7_write_14 : decode cX7_write 14 = .ok (.getfield 11, 3) := by decide +kernel
theorem dX7_write_17 : decode cX7_write 17 = .ok (.iload_n 1, 1) := by decide +kernel
theorem dX7_write_18 : decode cX7_write 18 = .ok (.iaload, 1) := by decide +kernel
theorem dX7_write_19 : decode cX7_write 19 = .ok (.ifCond .ne 10, 3) := by decide +kernel
theorem dX7_write_22 : decode cX7_write 22 = .ok (.iload_n 3, 1) := by decide +kernel
theorem dX7_write_23 : decode cX7_write 23 = .ok (.i2b, 1) := by decide +kernel
theorem dX7_write_24 : decode cX7_write 24 = .ok (.istore 4, 2) := by decide +kernel
theorem dX7_write_26 : decode cX7_write 26 = .ok (.goto 17, 3) := by decide +kernel
theorem dX7_write_29 : decode cX7_write 29 = .ok (.aload_n 0, 1) := by decide +kernel
theorem dX7_write_30 : decode cX7_write 30 = .ok (.getfield 11, 3) := by decide +kernel
theorem dX7_write_33 : decode cX7_write 33 = .ok (.iload_n 1, 1) := by decide +kernel
theorem dX7_write_34 : decode cX7_write 34 = .ok (.iaload, 1) := by decide +kernel
theorem dX7_write_35 : decode cX7_write 35 = .ok (.iconst 1, 1) := by decide +kernel
theorem dX7_write_36 : decode cX7_write 36 = .ok (.if_icmp .ne 7, 3) := by decide +kernel
theorem dX7_write_39 : decode cX7_write 39 = .ok (.iload_n 3, 1) := by decide +kernel
theorem dX7_write_40 : decode cX7_write 40 = .ok (.i2s, 1) := by decide +kernel
theorem dX7_write_41 : decode cX7_write 41 = .ok (.istore 4, 2) := by decide +kernel
theorem dX7_write_43 : decode cX7_write 43 = .ok (.aload_n 0, 1) := by decide +kernel
theorem dX7_write_44 : decode cX7_write 44 = .ok (.getfield 18, 3) := by decide +kernel
theorem dX7_write_47 : decode cX7_write 47 = .ok (.iload_n 1, 1) := by decide +kernel
theorem dX7_write_48 : decode cX7_write 48 = .ok (.bipush 80, 2) := by decide +kernel
theorem dX7_write_50 : decode cX7_write 50 = .ok (.imul, 1) := by decide +kernel
theorem dX7_write_51 : decode cX7_write 51 = .ok (.iload_n 2, 1) := by decide +kernel
theorem dX7_write_52 : decode cX7_write 52 = .ok (.iadd, 1) := by decide +kernel
theorem dX7_write_53 : decode cX7_write 53 = .ok (.iload 4, 2) := by decide +kernel
theorem dX7_write_55 : decode cX7_write 55 = .ok (.iastore, 1) := by decide +kernel
theorem dX7_write_56 : decode cX7_write 56 = .ok (.return_, 1) := by decide +kernel
theorem dX7_carry_0 : decode cX7_carry 0 = .ok (.aload_n 0, 1) := by decide +kernel
theorem dX7_carry_1 : decode cX7_carry 1 = .ok (.iload_n 1, 1) := by decide +kernel
theorem dX7_carry_2 : decode cX7_carry 2 = .ok (.iload_n 2, 1) := by decide +kernel
theorem dX7_carry_3 : decode cX7_carry 3 = .ok (.iload 5, 2) := by decide +kernel
theorem dX7_carry_5 : decode cX7_carry 5 = .ok (.invokevirtual 35, 3) := by decide +kernel
theorem dX7_carry_8 : decode cX7_carry 8 = .ok (.ifCond .eq 41, 3) := by decide +kernel
theorem dX7_carry_11 : decode cX7_carry 11 = .ok (.aload_n 0, 1) := by decide +kernel
theorem dX7_carry_12 : decode cX7_carry 12 = .ok (.iload_n 3, 1) := by decide +kernel
theorem dX7_carry_13 : decode cX7_carry 13 = .ok (.iload 4, 2) := by decide +kernel
theorem dX7_carry_15 : decode cX7_carry 15 = .ok (.iload 5, 2) := by decide +kernel
theorem dX7_carry_17 : decode cX7_carry 17 = .ok (.invokevirtual 35, 3) := by decide +kernel
theorem dX7_carry_20 : decode cX7_carry 20 = .ok (.ifCond .eq 29, 3) := by decide +kernel
theorem dX7_carry_23 : decode cX7_carry 23 = .ok (.aload_n 0, 1) := by decide +kernel
theorem dX7_carry_24 : decode cX7_carry 24 = .ok (.getfield 18, 3) := by decide +kernel
theorem dX7_carry_27 : decode cX7_carry 27 = .ok (.iload_n 1, 1) := by decide +kernel
theorem dX7_carry_28 : decode cX7_carry 28 = .ok (.bipush 80, 2) := by decide +kernel
theorem dX7_carry_30 : decode cX7_carry 30 = .ok (.imul, 1) := by decide +kernel
theorem dX7_carry_31 : decode cX7_carry 31 = .ok (.iload_n 2, 1) := by decide +kernel
theorem dX7_carry_32 : decode cX7_carry 32 = .ok (.iadd, 1) := by decide +kernel
theorem dX7_carry_33 : decode cX7_carry 33 = .ok (.aload_n 0, 1) := by decide +kernel
theorem dX7_carry_34 : decode cX7_carry 34 = .ok (.getfield 18, 3) := by decide +kernel
theorem dX7_carry_37 : decode cX7_carry 37 = .ok (.iload_n 3, 1) := by decide +kernel
theorem dX7_carry_38 : decode cX7_carry 38 = .ok (.bipush 80, 2) := by decide +kernel
theorem dX7_carry_40 : decode cX7_carry 40 = .ok (.imul, 1) := by decide +kernel
theorem dX7_carry_41 : decode cX7_carry 41 = .ok (.iload 4, 2) := by decide +kernel
theorem dX7_carry_43 : decode cX7_carry 43 = .ok (.iadd, 1) := by decide +kernel
theorem dX7_carry_44 : decode cX7_carry 44 = .ok (.iload 5, 2) := by decide +kernel
theorem dX7_carry_46 : decode cX7_carry 46 = .ok (.invokestatic 39, 3) := by decide +kernel
theorem dX7_carry_49 : decode cX7_carry 49 = .ok (.return_, 1) := by decide +kernel
theorem dX8_init_0 : decode cX8_init 0 = .ok (.aload_n 0, 1) := by decide +kernel
theorem dX8_init_1 : decode cX8_init 1 = .ok (.invokespecial 3, 3) := by decide +kernel
theorem dX8_init_4 : decode cX8_init 4 = .ok (.aload_n 0, 1) := by decide +kernel
theorem dX8_init_5 : decode cX8_init 5 = .ok (.iconst 0, 1) := by decide +kernel
theorem dX8_init_6 : decode cX8_init 6 = .ok (.putfield 9, 3) := by decide +kernel
theorem dX8_init_9 : decode cX8_init 9 = .ok (.aload_n 0, 1) := by decide +kernel
theorem dX8_init_10 : decode cX8_init 10 = .ok (.bipush 7, 2) := by decide +kernel
theorem dX8_init_12 : decode cX8_init 12 = .ok (.newarray .int, 2) := by decide +kernel
theorem dX8_init_14 : decode cX8_init 14 = .ok (.putfield 15, 3) := by decide +kernel
theorem dX8_init_17 : decode cX8_init 17 = .ok (.aload_n 0, 1) := by decide +kernel
theorem dX8_init_18 : decode cX8_init 18 = .ok (.bipush 64, 2) := by decide +kernel
theorem dX8_init_20 : decode cX8_init 20 = .ok (.newarray .int, 2) := by decide +kernel
theorem dX8_init_22 : decode cX8_init 22 = .ok (.putfield 19, 3) := by decide +kernel
theorem dX8_init_25 : decode cX8_init 25 = .ok (.return_, 1) := by decide +kernel
theorem dX8_read_0 : decode cX8_read 0 = .ok (.aload_n 0, 1) := by decide +kernel
theorem dX8_read_1 : decode cX8_read 1 = .ok (.iconst 0, 1) := by decide +kernel
theorem dX8_read_2 : decode cX8_read 2 = .ok (.putfield 9, 3) := by decide +kernel
theorem dX8_read_5 : decode cX8_read 5 = .ok (.iload 4, 2) := by decide +kernel
theorem dX8_read_7 : decode cX8_read 7 = .ok (.iconst 2, 1) := by decide +kernel
theorem dX8_read_8 : decode cX8_read 8 = .ok (.if_icmp .lt 10, 3) := by decide +kernel
theorem dX8_read_11 : decode cX8_read 11 = .ok (.iload 4, 2) := by decide +kernel
theorem dX8_read_13 : decode cX8_read 13 = .ok (.bipush 7, 2) := by decide +kernel
theorem dX8_read_15 : decode cX8_read 15 = .ok (.if_icmp .le 5, 3) := by decide +kernel
theorem dX8_read_18 : decode cX8_read 18 = .ok (.iconst 0, 1) := by decide +kernel
theorem dX8_read_19 : decode cX8_read 19 = .ok (.ireturn, 1) := by decide +kernel
theorem dX8_read_20 : decode cX8_read 20 = .ok (.iconst 0, 1) := by decide +kernel
theorem dX8_read_21 : decode cX8_read 21 = .ok (.istore 5, 2) := by decide +kernel
theorem dX8_read_23 : decode cX8_read 23 = .ok (.iload 5, 2) := by decide +kernel
theorem dX8_read_25 : decode cX8_read 25 = .ok (.iload 4, 2) := by decide +kernel
theorem dX8_read_27 : decode cX8_read 27 = .ok (.if_icmp .ge 51, 3) := by decide +kernel
theorem dX8_read_30 : decode cX8_read 30 = .ok (.aload_n 0, 1) := by decide +kernel
theorem dX8_read_31 : decode cX8_read 31 = .ok (.getfield 15, 3) := by decide +kernel
theorem dX8_read_34 : decode cX8_read 34 = .ok (.iload 5, 2) := by decide +kernel
theorem dX8_read_36 : decode cX8_read 36 = .ok (.aload_n 1, 1) := by decide +kernel
theorem dX8_read_37 : decode cX8_read 37 = .ok (.iload_n 2, 1) := by decide +kernel
theorem dX8_read_38 : decode cX8_read 38 = .ok (.iload_n 3, 1) := by decide +kernel
theorem dX8_read_39 : decode cX8_read 39 = .ok (.iload 5, 2) := by decide +kernel
theorem dX8_read_41 : decode cX8_read 41 = .ok (.iadd, 1) := by decide +kernel
theorem dX8_read_42 : decode cX8_read 42 = .ok (.invokevirtual 22, 3) := by decide +kernel
theorem dX8_read_45 : decode cX8_read 45 = .ok (.iastore, 1) := by decide +kernel
theorem dX8_read_46 : decode cX8_read 46 = .ok (.aload_n 0, 1) := by decide +kernel
theorem dX8_read_47 : decode cX8_read 47 = .ok (.getfield 15, 3) := by decide +kernel
theorem dX8_read_50 : decode cX8_read 50 = .ok (.iload 5, 2) := by decide +kernel
theorem dX8_read_52 : decode cX8_read 52 = .ok (.iaload, 1) := by decide +kernel
theorem dX8_read_53 : decode cX8_read 53 = .ok (.bipush (-9), 2) := by decide +kernel
theorem dX8_read_55 : decode cX8_read 55 = .ok (.if_icmp .lt 15, 3) := by decide +kernel
theorem dX8_read_58 : decode cX8_read 58 = .ok (.aload_n 0, 1) := by decide +kernel
theorem dX8_read_59 : decode cX8_read 59 = .ok (.getfield 15, 3) := by decide +kernel
theorem dX8_read_62 : decode cX8_read 62 = .ok (.iload 5, 2) := by decide +kernel
theorem dX8_read_64 : decode cX8_read 64 = .ok (.iaload, 1) := by decide +kernel
theorem dX8_read_65 : decode cX8_read 65 = .ok (.bipush 9, 2) := by decide +kernel
theorem dX8_read_67 : decode cX8_read 67 = .ok (.if_icmp .le 5, 3) := by decide +kernel
theorem dX8_read_70 : decode cX8_read 70 = .ok (.iconst 0, 1) := by decide +kernel
theorem dX8_read_71 : decode cX8_read 71 = .ok (.ireturn, 1) := by decide +kernel
theorem dX8_read_72 : decode cX8_read 72 = .ok (.iinc 5 1, 3) := by decide +kernel
theorem dX8_read_75 : decode cX8_read 75 = .ok (.goto (-52), 3) := by decide +kernel
theorem dX8_read_78 : decode cX8_read 78 = .ok (.aload_n 0, 1) := by decide +kernel
theorem dX8_read_79 : decode cX8_read 79 = .ok (.iload 4, 2) := by decide +kernel
theorem dX8_read_81 : decode cX8_read 81 = .ok (.iconst 1, 1) := by decide +kernel
theorem dX8_read_82 : decode cX8_read 82 = .ok (.isub, 1) := by decide +kernel
theorem dX8_read_83 : decode cX8_read 83 = .ok (.putfield 9, 3) := by decide +kernel
theorem dX8_read_86 : decode cX8_read 86 = .ok (.iconst 1, 1) := by decide +kernel
theorem dX8_read_87 : decode cX8_read 87 = .ok (.ireturn, 1) := by decide +kernel
theorem dX8_weighOrders_0 : decode cX8_weighOrders 0 = .ok (.iconst 1, 1) := by decide +kernel
theorem dX8_weighOrders_1 : decode cX8_weighOrders 1 = .ok (.aload_n 0, 1) := by decide +kernel
theorem dX8_weighOrders_2 : decode cX8_weighOrders 2 = .ok (.getfield 9, 3) := by decide +kernel
theorem dX8_weighOrders_5 : decode cX8_weighOrders 5 = .ok (.ishl, 1) := by decide +kernel
theorem dX8_weighOrders_6 : decode cX8_weighOrders 6 = .ok (.iconst 1, 1) := by decide +kernel
theorem dX8_weighOrders_7 : decode cX8_weighOrders 7 = .ok (.isub, 1) := by decide +kernel
theorem dX8_weighOrders_8 : decode cX8_weighOrders 8 = .ok (.istore_n 1, 1) := by decide +kernel
theorem dX8_weighOrders_9 : decode cX8_weighOrders 9 = .ok (.aload_n 0, 1) := by decide +kernel
theorem dX8_weighOrders_10 : decode cX8_weighOrders 10 = .ok (.getfield 19, 3) := by decide +kernel
theorem dX8_weighOrders_13 : decode cX8_weighOrders 13 = .ok (.iload_n 1, 1) := by decide +kernel
theorem dX8_weighOrders_14 : decode cX8_weighOrders 14 = .ok (.iconst 0, 1) := by decide +kernel
theorem dX8_weighOrders_15 : decode cX8_weighOrders 15 = .ok (.iastore, 1) := by decide +kernel
theorem dX8_weighOrders_16 : decode cX8_weighOrders 16 = .ok (.iload_n 1, 1) := by decide +kernel
theorem dX8_weighOrders_17 : decode cX8_weighOrders 17 = .ok (.iconst 1, 1) := by decide +kernel
theorem dX8_weighOrders_18 : decode cX8_weighOrders 18 = .ok (.isub, 1) := by decide +kernel
theorem dX8_weighOrders_19 : decode cX8_weighOrders 19 = .ok (.istore_n 2, 1) := by decide +kernel
theorem dX8_weighOrders_20 : decode cX8_weighOrders 20 = .ok (.iload_n 2, 1) := by decide +kernel
theorem dX8_weighOrders_21 : decode cX8_weighOrders 21 = .ok (.ifCond .lt 62, 3) := by decide +kernel
theorem dX8_weighOrders_24 : decode cX8_weighOrders 24 = .ok (.aload_n 0, 1) := by decide +kernel
theorem dX8_weighOrders_25 : decode cX8_weighOrders 25 = .ok (.getfield 19, 3) := by decide +kernel
theorem dX8_weighOrders_28 : decode cX8_weighOrders 28 = .ok (.iload_n 2, 1) := by decide +kernel
theorem dX8_weighOrders_29 : decode cX8_weighOrders 29 = .ok (.ldc 30, 2) := by decide +kernel
theorem dX8_weighOrders_31 : decode cX8_weighOrders 31 = .ok (.iastore, 1) := by decide +kernel
theorem dX8_weighOrders_32 : decode cX8_weighOrders 32 = .ok (.iconst 0, 1) := by decide +kernel
theorem dX8_weighOrders_33 : decode cX8_weighOrders 33 = .ok (.istore_n 3, 1) := by decide +kernel
theorem dX8_weighOrders_34 : decode cX8_weighOrders 34 = .ok (.iload_n 3, 1) := by decide +kernel
theorem dX8_weighOrders_35 : decode cX8_weighOrders 35 = .ok (.aload_n 0, 1) := by decide +kernel
theorem dX8_weighOrders_36 : decode cX8_weighOrders 36 = .ok (.getfield 9, 3) := by decide +kernel
theorem dX8_weighOrders_39 : decode cX8_weighOrders 39 = .ok (.if_icmp .ge 38, 3) := by decide +kernel
theorem dX8_weighOrders_42 : decode cX8_weighOrders 42 = .ok (.iload_n 2, 1) := by decide +kernel
theorem dX8_weighOrders_43 : decode cX8_weighOrders 43 = .ok (.iload_n 3, 1) := by decide +kernel
theorem dX8_weighOrders_44 : decode cX8_weighOrders 44 = .ok (.invokestatic 31, 3) := by decide +kernel
theorem dX8_weighOrders_47 : decode cX8_weighOrders 47 = .ok (.ifCond .eq 24, 3) := by decide +kernel
theorem dX8_weighOrders_50 : decode cX8_weighOrders 50 = .ok (.aload_n 0, 1) := by decide +kernel
theorem dX8_weighOrders_51 : decode cX8_weighOrders 51 = .ok (.getfield 19, 3) := by decide +kernel
theorem dX8_weighOrders_54 : decode cX8_weighOrders 54 = .ok (.iload_n 2, 1) := by decide +kernel
theorem dX8_weighOrders_55 : decode cX8_weighOrders 55 = .ok (.aload_n 0, 1) := by decide +kernel
theorem dX8_weighOrders_56 : decode cX8_weighOrders 56 = .ok (.getfield 19, 3) := by decide +kernel
theorem dX8_weighOrders_59 : decode cX8_weighOrders 59 = .ok (.iload_n 2, 1) := by decide +kernel
theorem dX8_weighOrders_60 : decode cX8_weighOrders 60 = .ok (.iaload, 1) := by decide +kernel
theorem dX8_weighOrders_61 : decode cX8_weighOrders 61 = .ok (.aload_n 0, 1) := by decide +kernel
theorem dX8_weighOrders_62 : decode cX8_weighOrders 62 = .ok (.iload_n 2, 1) := by decide +kernel
theorem dX8_weighOrders_63 : decode cX8_weighOrders 63 = .ok (.iload_n 3, 1) := by decide +kernel
theorem dX8_weighOrders_64 : decode cX8_weighOrders 64 = .ok (.invokevirtual 35, 3) := by decide +kernel
theorem dX8_weighOrders_67 : decode cX8_weighOrders 67 = .ok (.invokestatic 38, 3) := by decide +kernel
theorem dX8_weighOrders_70 : decode cX8_weighOrders 70 = .ok (.iastore, 1) := by decide +kernel
theorem dX8_weighOrders_71 : decode cX8_weighOrders 71 = .ok (.iinc 3 1, 3) := by decide +kernel
theorem dX8_weighOrders_74 : decode cX8_weighOrders 74 = .ok (.goto (-40), 3) := by decide +kernel
theorem dX8_weighOrders_77 : decode cX8_weighOrders 77 = .ok (.iinc 2 (-1), 3) := by decide +kernel
theorem dX8_weighOrders_80 : decode cX8_weighOrders 80 = .ok (.goto (-60), 3) := by decide +kernel
theorem dX8_weighOrders_83 : decode cX8_weighOrders 83 = .ok (.return_, 1) := by decide +kernel
theorem dX8_leastCost_0 : decode cX8_leastCost 0 = .ok (.aload_n 0, 1) := by decide +kernel
theorem dX8_leastCost_1 : decode cX8_leastCost 1 = .ok (.getfield 19, 3) := by decide +kernel
theorem dX8_leastCost_4 : decode cX8_leastCost 4 = .ok (.iconst 0, 1) := by decide +kernel
theorem dX8_leastCost_5 : decode cX8_leastCost 5 = .ok (.iaload, 1) := by decide +kernel
theorem dX8_leastCost_6 : decode cX8_leastCost 6 = .ok (.ireturn, 1) := by decide +kernel
theorem dX8_cutOfOrder_0 : decode cX8_cutOfOrder 0 = .ok (.iconst 0, 1) := by decide +kernel
theorem dX8_cutOfOrder_1 : decode cX8_cutOfOrder 1 = .ok (.istore_n 2, 1) := by decide +kernel
theorem dX8_cutOfOrder_2 : decode cX8_cutOfOrder 2 = .ok (.iconst 0, 1) := by decide +kernel
theorem dX8_cutOfOrder_3 : decode cX8_cutOfOrder 3 = .ok (.istore_n 3, 1) := by decide +kernel
theorem dX8_cutOfOrder_4 : decode cX8_cutOfOrder 4 = .ok (.iload_n 3, 1) := by decide +kernel
theorem dX8_cutOfOrder_5 : decode cX8_cutOfOrder 5 = .ok (.aload_n 0, 1) := by decide +kernel
theorem dX8_cutOfOrder_6 : decode cX8_cutOfOrder 6 = .ok (.getfield 9, 3) := by decide +kernel
theorem dX8_cutOfOrder_9 : decode cX8_cutOfOrder 9 = .ok (.if_icmp .ge 31, 3) := by decide +kernel
theorem dX8_cutOfOrder_12 : decode cX8_cutOfOrder 12 = .ok (.aload_n 0, 1) := by decide +kernel
theorem dX8_cutOfOrder_13 : decode cX8_cutOfOrder 13 = .ok (.iload_n 2, 1) := by decide +kernel
theorem dX8_cutOfOrder_14 : decode cX8_cutOfOrder 14 = .ok (.invokevirtual 43, 3) := by decide +kernel
theorem dX8_cutOfOrder_17 : decode cX8_cutOfOrder 17 = .ok (.istore 4, 2) := by decide +kernel
theorem dX8_cutOfOrder_19 : decode cX8_cutOfOrder 19 = .ok (.iload_n 3, 1) := by decide +kernel
theorem dX8_cutOfOrder_20 : decode cX8_cutOfOrder 20 = .ok (.iload_n 1, 1) := by decide +kernel
theorem dX8_cutOfOrder_21 : decode cX8_cutOfOrder 21 = .ok (.if_icmp .ne 6, 3) := by decide +kernel
theorem dX8_cutOfOrder_24 : decode cX8_cutOfOrder 24 = .ok (.iload 4, 2) := by decide +kernel
theorem dX8_cutOfOrder_26 : decode cX8_cutOfOrder 26 = .ok (.ireturn, 1) := by decide +kernel
theorem dX8_cutOfOrder_27 : decode cX8_cutOfOrder 27 = .ok (.iload_n 2, 1) := by decide +kernel
theorem dX8_cutOfOrder_28 : decode cX8_cutOfOrder 28 = .ok (.iconst 1, 1) := by decide +kernel
theorem dX8_cutOfOrder_29 : decode cX8_cutOfOrder 29 = .ok (.iload 4, 2) := by decide +kernel
theorem dX8_cutOfOrder_31 : decode cX8_cutOfOrder 31 = .ok (.ishl, 1) := by decide +kernel
theorem dX8_cutOfOrder_32 : decode cX8_cutOfOrder 32 = .ok (.ior, 1) := by decide +kernel
theorem dX8_cutOfOrder_33 : decode cX8_cutOfOrder 33 = .ok (.istore_n 2, 1) := by decide +kernel
theorem dX8_cutOfOrder_34 : decode cX8_cutOfOrder 34 = .ok (.iinc 3 1, 3) := by decide +kernel
theorem dX8_cutOfOrder_37 : decode cX8_cutOfOrder 37 = .ok (.goto (-33), 3) := by decide +kernel
theorem dX8_cutOfOrder_40 : decode cX8_cutOfOrder 40 = .ok (.bipush (-9), 2) := by decide +kernel
theorem dX8_cutOfOrder_42 : decode cX8_cutOfOrder 42 = .ok (.ireturn, 1) := by decide +kernel
theorem dX8_lowestBest_0 : decode cX8_lowestBest 0 = .ok (.iconst 0, 1) := by decide +kernel
theorem dX8_lowestBest_1 : decode cX8_lowestBest 1 = .ok (.istore_n 2, 1) := by decide +kernel
theorem dX8_lowestBest_2 : decode cX8_lowestBest 2 = .ok (.iload_n 2, 1) := by decide +kernel
theorem dX8_lowestBest_3 : decode cX8_lowestBest 3 = .ok (.aload_n 0, 1) := by decide +kernel
theorem dX8_lowestBest_4 : decode cX8_lowestBest 4 = .ok (.getfield 9, 3) := by decide +kernel
theorem dX8_lowestBest_7 : decode cX8_lowestBest 7 = .ok (.if_icmp .ge 34, 3) := by decide +kernel
theorem dX8_lowestBest_10 : decode cX8_lowestBest 10 = .ok (.iload_n 1, 1) := by decide +kernel
theorem dX8_lowestBest_11 : decode cX8_lowestBest 11 = .ok (.iload_n 2, 1) := by decide +kernel
theorem dX8_lowestBest_12 : decode cX8_lowestBest 12 = .ok (.invokestatic 31, 3) := by decide +kernel
theorem dX8_lowestBest_15 : decode cX8_lowestBest 15 = .ok (.ifCond .eq 20, 3) := by decide +kernel
theorem dX8_lowestBest_18 : decode cX8_lowestBest 18 = .ok (.aload_n 0, 1) := by decide +kernel
theorem dX8_lowestBest_19 : decode cX8_lowestBest 19 = .ok (.iload_n 1, 1) := by decide +kernel
theorem dX8_lowestBest_20 : decode cX8_lowestBest 20 = .ok (.iload_n 2, 1) := by decide +kernel
theorem dX8_lowestBest_21 : decode cX8_lowestBest 21 = .ok (.invokevirtual 35, 3) := by decide +kernel
theorem dX8_lowestBest_24 : decode cX8_lowestBest 24 = .ok (.aload_n 0, 1) := by decide +kernel
theorem dX8_lowestBest_25 : decode cX8_lowestBest 25 = .ok (.getfield 19, 3) := by decide +kernel
theorem dX8_lowestBest_28 : decode cX8_lowestBest 28 = .ok (.iload_n 1, 1) := by decide +kernel
theorem dX8_lowestBest_29 : decode cX8_lowestBest 29 = .ok (.iaload, 1) := by decide +kernel
theorem dX8_lowestBest_30 : decode cX8_lowestBest 30 = .ok (.if_icmp .ne 5, 3) := by decide +kernel
theorem dX8_lowestBest_33 : decode cX8_lowestBest 33 = .ok (.iload_n 2, 1) := by decide +kernel
theorem dX8_lowestBest_34 : decode cX8_lowestBest 34 = .ok (.ireturn, 1) := by decide +kernel
theorem dX8_lowestBest_35 : decode cX8_lowestBest 35 = .ok (.iinc 2 1, 3) := by decide +kernel
theorem dX8_lowestBest_38 : decode cX8_lowestBest 38 = .ok (.goto (-36), 3) := by decide +kernel
theorem dX8_lowestBest_41 : decode cX8_lowestBest 41 = .ok (.iconst 0, 1) := by decide +kernel
theorem dX8_lowestBest_42 : decode cX8_lowestBest 42 = .ok (.ireturn, 1) := by decide +kernel
theorem dX8_isOpen_0 : decode cX8_isOpen 0 = .ok (.iload_n 0, 1) := by decide +kernel
theorem dX8_isOpen_1 : decode cX8_isOpen 1 = .ok (.iload_n 1, 1) := by decide +kernel
theorem dX8_isOpen_2 : decode cX8_isOpen 2 = .ok (.ishr, 1) := by decide +kernel
theorem dX8_isOpen_3 : decode cX8_isOpen 3 = .ok (.iconst 1, 1) := by decide +kernel
theorem dX8_isOpen_4 : decode cX8_isOpen 4 = .ok (.iand, 1) := by decide +kernel
theorem dX8_isOpen_5 : decode cX8_isOpen 5 = .ok (.ifCond .ne 7, 3) := by decide +kernel
theorem dX8_isOpen_8 : decode cX8_isOpen 8 = .ok (.iconst 1, 1) := by decide +kernel
theorem dX8_isOpen_9 : decode cX8_isOpen 9 = .ok (.goto 4, 3) := by decide +kernel
theorem dX8_isOpen_12 : decode cX8_isOpen 12 = .ok (.iconst 0, 1) := by decide +kernel
theorem dX8_isOpen_13 : decode cX8_isOpen 13 = .ok (.ireturn, 1) := by decide +kernel
theorem dX8_costThrough_0 : decode cX8_costThrough 0 = .ok (.aload_n 0, 1) := by decide +kernel
theorem dX8_costThrough_1 : decode cX8_costThrough 1 = .ok (.iload_n 1, 1) := by decide +kernel
theorem dX8_costThrough_2 : decode cX8_costThrough 2 = .ok (.iload_n 2, 1) := by decide +kernel
theorem dX8_costThrough_3 : decode cX8_costThrough 3 = .ok (.invokevirtual 47, 3) := by decide +kernel
theorem dX8_costThrough_6 : decode cX8_costThrough 6 = .ok (.aload_n 0, 1) := by decide +kernel
theorem dX8_costThrough_7 : decode cX8_costThrough 7 = .ok (.iload_n 1, 1) := by decide +kernel
theorem dX8_costThrough_8 : decode cX8_costThrough 8 = .ok (.iload_n 2, 1) := by decide +kernel
theorem dX8_costThrough_9 : decode cX8_costThrough 9 = .ok (.invokevirtual 50, 3) := by decide +kernel
theorem dX8_costThrough_12 : decode cX8_costThrough 12 = .ok (.isub, 1) := by decide +kernel
theorem dX8_costThrough_13 : decode cX8_costThrough 13 = .ok (.invokestatic 53, 3) := by decide +kernel
theorem dX8_costThrough_16 : decode cX8_costThrough 16 = .ok (.aload_n 0, 1) := by decide +kernel
theorem dX8_costThrough_17 : decode cX8_costThrough 17 = .ok (.getfield 19, 3) := by decide +kernel
theorem dX8_costThrough_20 : decode cX8_costThrough 20 = .ok (.iload_n 1, 1) := by decide +kernel
theorem dX8_costThrough_21 : decode cX8_costThrough 21 = .ok (.iconst 1, 1) := by decide +kernel
theorem dX8_costThrough_22 : decode cX8_costThrough 22 = .ok (.iload_n 2, 1) := by decide +kernel
theorem dX8_costThrough_23 : decode cX8_costThrough 23 = .ok (.ishl, 1) := by decide +kernel
theorem dX8_costThrough_24 : decode cX8_costThrough 24 = .ok (.ior, 1) := by decide +kernel
theorem dX8_costThrough_25 : decode cX8_costThrough 25 = .ok (.iaload, 1) := by decide +kernel
theorem dX8_costThrough_26 : decode cX8_costThrough 26 = .ok (.iadd, 1) := by decide +kernel
theorem dX8_costThrough_27 : decode cX8_costThrough 27 = .ok (.ireturn, 1) := by decide +kernel
theorem dX8_strainLeftOf_0 : decode cX8_strainLeftOf 0 = .ok (.aload_n 0, 1) := by decide +kernel
theorem dX8_strainLeftOf_1 : decode cX8_strainLeftOf 1 = .ok (.getfield 15, 3) := by decide +kernel
theorem dX8_strainLeftOf_4 : decode cX8_strainLeftOf 4 = .ok (.iload_n 2, 1) := by decide +kernel
theorem dX8_strainLeftOf_5 : decode cX8_strainLeftOf 5 = .ok (.iaload, 1) := by decide +kernel
theorem dX8_strainLeftOf_6 : decode cX8_strainLeftOf 6 = .ok (.istore_n 3, 1) := by decide +kernel
theorem dX8_strainLeftOf_7 : decode cX8_strainLeftOf 7 = .ok (.iload_n 2, 1) := by decide +kernel
theorem dX8_strainLeftOf_8 : decode cX8_strainLeftOf 8 = .ok (.iconst 1, 1) := by decide +kernel
theorem dX8_strainLeftOf_9 : decode cX8_strainLeftOf 9 = .ok (.isub, 1) := by decide +kernel
theorem dX8_strainLeftOf_10 : decode cX8_strainLeftOf 10 = .ok (.istore 4, 2) := by decide +kernel
theorem dX8_strainLeftOf_12 : decode cX8_strainLeftOf 12 = .ok (.iload 4, 2) := by decide +kernel
theorem dX8_strainLeftOf_14 : decode cX8_strainLeftOf 14 = .ok (.ifCond .lt 28, 3) := by decide +kernel
theorem dX8_strainLeftOf_17 : decode cX8_strainLeftOf 17 = .ok (.iload_n 1, 1) := by decide +kernel
theorem dX8_strainLeftOf_18 : decode cX8_strainLeftOf 18 = .ok (.iload 4, 2) := by decide +kernel
theorem dX8_strainLeftOf_20 : decode cX8_strainLeftOf 20 = .ok (.invokestatic 31, 3) := by decide +kernel
theorem dX8_strainLeftOf_23 : decode cX8_strainLeftOf 23 = .ok (.ifCond .eq 19, 3) := by decide +kernel
theorem dX8_strainLeftOf_26 : decode cX8_strainLeftOf 26 = .ok (.iload_n 3, 1) := by decide +kernel
theorem dX8_strainLeftOf_27 : decode cX8_strainLeftOf 27 = .ok (.aload_n 0, 1) := by decide +kernel
theorem dX8_strainLeftOf_28 : decode cX8_strainLeftOf 28 = .ok (.getfield 15, 3) := by decide +kernel
theorem dX8_strainLeftOf_31 : decode cX8_strainLeftOf 31 = .ok (.iload 4, 2) := by decide +kernel
theorem dX8_strainLeftOf_33 : decode cX8_strainLeftOf 33 = .ok (.iaload, 1) := by decide +kernel
theorem dX8_strainLeftOf_34 : decode cX8_strainLeftOf 34 = .ok (.iadd, 1) := by decide +kernel
theorem dX8_strainLeftOf_35 : decode cX8_strainLeftOf 35 = .ok (.istore_n 3, 1) := by decide +kernel
theorem dX8_strainLeftOf_36 : decode cX8_strainLeftOf 36 = .ok (.iinc 4 (-1), 3) := by decide +kernel
theorem dX8_strainLeftOf_39 : decode cX8_strainLeftOf 39 = .ok (.goto (-27), 3) := by decide +kernel
theorem dX8_strainLeftOf_42 : decode cX8_strainLeftOf 42 = .ok (.iload_n 3, 1) := by decide +kernel
theorem dX8_strainLeftOf_43 : decode cX8_strainLeftOf 43 = .ok (.ireturn, 1) := by decide +kernel
theorem dX8_strainRightOf_0 : decode cX8_strainRightOf 0 = .ok (.aload_n 0, 1) := by decide +kernel
theorem dX8_strainRightOf_1 : decode cX8_strainRightOf 1 = .ok (.getfield 15, 3) := by decide +kernel
theorem dX8_strainRightOf_4 : decode cX8_strainRightOf 4 = .ok (.iload_n 2, 1) := by decide +kernel
theorem dX8_strainRightOf_5 : decode cX8_strainRightOf 5 = .ok (.iconst 1, 1) := by decide +kernel
theorem dX8_strainRightOf_6 : decode cX8_strainRightOf 6 = .ok (.iadd, 1) := by decide +kernel
theorem dX8_strainRightOf_7 : decode cX8_strainRightOf 7 = .ok (.iaload, 1) := by decide +kernel
theorem dX8_strainRightOf_8 : decode cX8_strainRightOf 8 = .ok (.istore_n 3, 1) := by decide +kernel
theorem dX8_strainRightOf_9 : decode cX8_strainRightOf 9 = .ok (.iload_n 2, 1) := by decide +kernel
theorem dX8_strainRightOf_10 : decode cX8_strainRightOf 10 = .ok (.iconst 2, 1) := by decide +kernel
theorem dX8_strainRightOf_11 : decode cX8_strainRightOf 11 = .ok (.iadd, 1) := by decide +kernel
theorem dX8_strainRightOf_12 : decode cX8_strainRightOf 12 = .ok (.istore 4, 2) := by decide +kernel
theorem dX8_strainRightOf_14 : decode cX8_strainRightOf 14 = .ok (.iload 4, 2) := by decide +kernel
theorem dX8_strainRightOf_16 : decode cX8_strainRightOf 16 = .ok (.aload_n 0, 1) := by decide +kernel
theorem dX8_strainRightOf_17 : decode cX8_strainRightOf 17 = .ok (.getfield 9, 3) := by decide +kernel
theorem dX8_strainRightOf_20 : decode cX8_strainRightOf 20 = .ok (.if_icmp .gt 30, 3) := by decide +kernel
theorem dX8_strainRightOf_23 : decode cX8_strainRightOf 23 = .ok (.iload_n 1, 1) := by decide +kernel
theorem dX8_strainRightOf_24 : decode cX8_strainRightOf 24 = .ok (.iload 4, 2) := by decide +kernel
theorem dX8_strainRightOf_26 : decode cX8_strainRightOf 26 = .ok (.iconst 1, 1) := by decide +kernel
theorem dX8_strainRightOf_27 : decode cX8_strainRightOf 27 = .ok (.isub, 1) := by decide +kernel
theorem dX8_strainRightOf_28 : decode cX8_strainRightOf 28 = .ok (.invokestatic 31, 3) := by decide +kernel
theorem dX8_strainRightOf_31 : decode cX8_strainRightOf 31 = .ok (.ifCond .eq 19, 3) := by decide +kernel
theorem dX8_strainRightOf_34 : decode cX8_strainRightOf 34 = .ok (.iload_n 3, 1) := by decide +kernel
theorem dX8_strainRightOf_35 : decode cX8_strainRightOf 35 = .ok (.aload_n 0, 1) := by decide +kernel
theorem dX8_strainRightOf_36 : decode cX8_strainRightOf 36 = .ok (.getfield 15, 3) := by decide +kernel
theorem dX8_strainRightOf_39 : decode cX8_strainRightOf 39 = .ok (.iload 4, 2) := by decide +kernel
theorem dX8_strainRightOf_41 : decode cX8_strainRightOf 41 = .ok (.iaload, 1) := by decide +kernel
theorem dX8_strainRightOf_42 : decode cX8_strainRightOf 42 = .ok (.iadd, 1) := by decide +kernel
theorem dX8_strainRightOf_43 : decode cX8_strainRightOf 43 = .ok (.istore_n 3, 1) := by decide +kernel
theorem dX8_strainRightOf_44 : decode cX8_strainRightOf 44 = .ok (.iinc 4 1, 3) := by decide +kernel
theorem dX8_strainRightOf_47 : decode cX8_strainRightOf 47 = .ok (.goto (-33), 3) := by decide +kernel
theorem dX8_strainRightOf_50 : decode cX8_strainRightOf 50 = .ok (.iload_n 3, 1) := by decide +kernel
theorem dX8_strainRightOf_51 : decode cX8_strainRightOf 51 = .ok (.ireturn, 1) := by decide +kernel
theorem dX9_init_0 : decode cX9_init 0 = .ok (.aload_n 0, 1) := by decide +kernel
theorem dX9_init_1 : decode cX9_init 1 = .ok (.invokespecial 3, 3) := by decide +kernel
theorem dX9_init_4 : decode cX9_init 4 = .ok (.aload_n 0, 1) := by decide +kernel
theorem dX9_init_5 : decode cX9_init 5 = .ok (.new 9, 3) := by decide +kernel
theorem dX9_init_8 : decode cX9_init 8 = .ok (.dup, 1) := by decide +kernel
theorem dX9_init_9 : decode cX9_init 9 = .ok (.invokespecial 11, 3) := by decide +kernel
theorem dX9_init_12 : decode cX9_init 12 = .ok (.putfield 12, 3) := by decide +kernel
theorem dX9_init_15 : decode cX9_init 15 = .ok (.aload_n 0, 1) := by decide +kernel
theorem dX9_init_16 : decode cX9_init 16 = .ok (.new 18, 3) := by decide +kernel
theorem dX9_init_19 : decode cX9_init 19 = .ok (.dup, 1) := by decide +kernel
theorem dX9_init_20 : decode cX9_init 20 = .ok (.invokespecial 20, 3) := by decide +kernel
theorem dX9_init_23 : decode cX9_init 23 = .ok (.putfield 21, 3) := by decide +kernel
theorem dX9_init_26 : decode cX9_init 26 = .ok (.aload_n 0, 1) := by decide +kernel
theorem dX9_init_27 : decode cX9_init 27 = .ok (.new 18, 3) := by decide +kernel
theorem dX9_init_30 : decode cX9_init 30 = .ok (.dup, 1) := by decide +kernel
theorem dX9_init_31 : decode cX9_init 31 = .ok (.invokespecial 20, 3) := by decide +kernel
theorem dX9_init_34 : decode cX9_init 34 = .ok (.putfield 25, 3) := by decide +kernel
theorem dX9_init_37 : decode cX9_init 37 = .ok (.aload_n 0, 1) := by decide +kernel
theorem dX9_init_38 : decode cX9_init 38 = .ok (.new 18, 3) := by decide +kernel
theorem dX9_init_41 : decode cX9_init 41 = .ok (.dup, 1) := by decide +kernel
theorem dX9_init_42 : decode cX9_init 42 = .ok (.invokespecial 20, 3) := by decide +kernel
theorem dX9_init_45 : decode cX9_init 45 = .ok (.putfield 28, 3) := by decide +kernel
theorem dX9_init_48 : decode cX9_init 48 = .ok (.aload_n 0, 1) := by decide +kernel
theorem dX9_init_49 : decode cX9_init 49 = .ok (.new 31, 3) := by decide +kernel
theorem dX9_init_52 : decode cX9_init 52 = .ok (.dup, 1) := by decide +kernel
theorem dX9_init_53 : decode cX9_init 53 = .ok (.invokespecial 33, 3) := by decide +kernel
theorem dX9_init_56 : decode cX9_init 56 = .ok (.putfield 34, 3) := by decide +kernel
theorem dX9_init_59 : decode cX9_init 59 = .ok (.aload_n 0, 1) := by decide +kernel
theorem dX9_init_60 : decode cX9_init 60 = .ok (.new 38, 3) := by decide +kernel
theorem dX9_init_63 : decode cX9_init 63 = .ok (.dup, 1) := by decide +kernel
theorem dX9_init_64 : decode cX9_init 64 = .ok (.invokespecial 40, 3) := by decide +kernel
theorem dX9_init_67 : decode cX9_init 67 = .ok (.putfield 41, 3) := by decide +kernel
theorem dX9_init_70 : decode cX9_init 70 = .ok (.aload_n 0, 1) := by decide +kernel
theorem dX9_init_71 : decode cX9_init 71 = .ok (.new 38, 3) := by decide +kernel
theorem dX9_init_74 : decode cX9_init 74 = .ok (.dup, 1) := by decide +kernel
theorem dX9_init_75 : decode cX9_init 75 = .ok (.invokespecial 40, 3) := by decide +kernel
theorem dX9_init_78 : decode cX9_init 78 = .ok (.putfield 45, 3) := by decide +kernel
theorem dX9_init_81 : decode cX9_init 81 = .ok (.aload_n 0, 1) := by decide +kernel
theorem dX9_init_82 : decode cX9_init 82 = .ok (.new 48, 3) := by decide +kernel
theorem dX9_init_85 : decode cX9_init 85 = .ok (.dup, 1) := by decide +kernel
theorem dX9_init_86 : decode cX9_init 86 = .ok (.invokespecial 50, 3) := by decide +kernel
theorem dX9_init_89 : decode cX9_init 89 = .ok (.putfield 51, 3) := by decide +kernel
theorem dX9_init_92 : decode cX9_init 92 = .ok (.aload_n 0, 1) := by decide +kernel
theorem dX9_init_93 : decode cX9_init 93 = .ok (.new 55, 3) := by decide +kernel
theorem dX9_init_96 : decode cX9_init 96 = .ok (.dup, 1) := by decide +kernel
end
section
theorem dX9_init_97 : decode cX9_init 97 = .ok (.invokespecial 57, 3) := by decide +kernel
theorem dX9_init_100 : decode cX9_init 100 = .ok (.putfield 58, 3) := by decide +kernel
theorem dX9_init_103 : decode cX9_init 103 = .ok (.aload_n 0, 1) := by decide +kernel
theorem dX9_init_104 : decode cX9_init 104 = .ok (.new 62, 3) := by decide +kernel
theorem dX9_init_107 : decode cX9_init 107 = .ok (.dup, 1) := by decide +kernel
theorem dX9_init_108 : decode cX9_init 108 = .ok (.invokespecial 64, 3) := by decide +kernel
theorem dX9_init_111 : decode cX9_init 111 = .ok (.putfield 65, 3) := by decide +kernel
theorem dX9_init_114 : decode cX9_init 114 = .ok (.aload_n 0, 1) := by decide +kernel
theorem dX9_init_115 : decode cX9_init 115 = .ok (.new 69, 3) := by decide +kernel
theorem dX9_init_118 : decode cX9_init 118 = .ok (.dup, 1) := by decide +kernel
theorem dX9_init_119 : decode cX9_init 119 = .ok (.invokespecial 71, 3) := by decide +kernel
theorem dX9_init_122 : decode cX9_init 122 = .ok (.putfield 72, 3) := by decide +kernel
theorem dX9_init_125 : decode cX9_init 125 = .ok (.aload_n 0, 1) := by decide +kernel
theorem dX9_init_126 : decode cX9_init 126 = .ok (.new 76, 3) := by decide +kernel
theorem dX9_init_129 : decode cX9_init 129 = .ok (.dup, 1) := by decide +kernel
theorem dX9_init_130 : decode cX9_init 130 = .ok (.invokespecial 78, 3) := by decide +kernel
theorem dX9_init_133 : decode cX9_init 133 = .ok (.putfield 79, 3) := by decide +kernel
theorem dX9_init_136 : decode cX9_init 136 = .ok (.aload_n 0, 1) := by decide +kernel
theorem dX9_init_137 : decode cX9_init 137 = .ok (.iconst 0, 1) := by decide +kernel
theorem dX9_init_138 : decode cX9_init 138 = .ok (.putfield 83, 3) := by decide +kernel
theorem dX9_init_141 : decode cX9_init 141 = .ok (.aload_n 0, 1) := by decide +kernel
theorem dX9_init_142 : decode cX9_init 142 = .ok (.iconst 0, 1) := by decide +kernel
theorem dX9_init_143 : decode cX9_init 143 = .ok (.putfield 87, 3) := by decide +kernel
theorem dX9_init_146 : decode cX9_init 146 = .ok (.return_, 1) := by decide +kernel
theorem dX9_saw_0 : decode cX9_saw 0 = .ok (.aload_n 0, 1) := by decide +kernel
theorem dX9_saw_1 : decode cX9_saw 1 = .ok (.iload_n 1, 1) := by decide +kernel
theorem dX9_saw_2 : decode cX9_saw 2 = .ok (.iload_n 2, 1) := by decide +kernel
theorem dX9_saw_3 : decode cX9_saw 3 = .ok (.iload_n 3, 1) := by decide +kernel
theorem dX9_saw_4 : decode cX9_saw 4 = .ok (.iload 4, 2) := by decide +kernel
theorem dX9_saw_6 : decode cX9_saw 6 = .ok (.invokevirtual 90, 3) := by decide +kernel
theorem dX9_saw_9 : decode cX9_saw 9 = .ok (.istore 5, 2) := by decide +kernel
theorem dX9_saw_11 : decode cX9_saw 11 = .ok (.iload 5, 2) := by decide +kernel
theorem dX9_saw_13 : decode cX9_saw 13 = .ok (.ifCond .eq 6, 3) := by decide +kernel
theorem dX9_saw_16 : decode cX9_saw 16 = .ok (.iload 5, 2) := by decide +kernel
theorem dX9_saw_18 : decode cX9_saw 18 = .ok (.ireturn, 1) := by decide +kernel
theorem dX9_saw_19 : decode cX9_saw 19 = .ok (.aload_n 0, 1) := by decide +kernel
theorem dX9_saw_20 : decode cX9_saw 20 = .ok (.getfield 25, 3) := by decide +kernel
theorem dX9_saw_23 : decode cX9_saw 23 = .ok (.aload_n 0, 1) := by decide +kernel
theorem dX9_saw_24 : decode cX9_saw 24 = .ok (.getfield 12, 3) := by decide +kernel
theorem dX9_saw_27 : decode cX9_saw 27 = .ok (.iload_n 1, 1) := by decide +kernel
theorem dX9_saw_28 : decode cX9_saw 28 = .ok (.iload_n 3, 1) := by decide +kernel
theorem dX9_saw_29 : decode cX9_saw 29 = .ok (.iload 4, 2) := by decide +kernel
theorem dX9_saw_31 : decode cX9_saw 31 = .ok (.invokevirtual 94, 3) := by decide +kernel
theorem dX9_saw_34 : decode cX9_saw 34 = .ok (.istore 6, 2) := by decide +kernel
theorem dX9_saw_36 : decode cX9_saw 36 = .ok (.iload 6, 2) := by decide +kernel
theorem dX9_saw_38 : decode cX9_saw 38 = .ok (.iconst (-1), 1) := by decide +kernel
theorem dX9_saw_39 : decode cX9_saw 39 = .ok (.if_icmp .eq 9, 3) := by decide +kernel
theorem dX9_saw_42 : decode cX9_saw 42 = .ok (.bipush (-100), 2) := by decide +kernel
theorem dX9_saw_44 : decode cX9_saw 44 = .ok (.iload 6, 2) := by decide +kernel
theorem dX9_saw_46 : decode cX9_saw 46 = .ok (.isub, 1) := by decide +kernel
theorem dX9_saw_47 : decode cX9_saw 47 = .ok (.ireturn, 1) := by decide +kernel
theorem dX9_saw_48 : decode cX9_saw 48 = .ok (.aload_n 0, 1) := by decide +kernel
theorem dX9_saw_49 : decode cX9_saw 49 = .ok (.getfield 21, 3) := by decide +kernel
theorem dX9_saw_52 : decode cX9_saw 52 = .ok (.aload_n 0, 1) := by decide +kernel
theorem dX9_saw_53 : decode cX9_saw 53 = .ok (.getfield 25, 3) := by decide +kernel
theorem dX9_saw_56 : decode cX9_saw 56 = .ok (.invokevirtual 98, 3) := by decide +kernel
theorem dX9_saw_59 : decode cX9_saw 59 = .ok (.aload_n 0, 1) := by decide +kernel
theorem dX9_saw_60 : decode cX9_saw 60 = .ok (.getfield 58, 3) := by decide +kernel
theorem dX9_saw_63 : decode cX9_saw 63 = .ok (.iconst 0, 1) := by decide +kernel
theorem dX9_saw_64 : decode cX9_saw 64 = .ok (.putfield 102, 3) := by decide +kernel
theorem dX9_saw_67 : decode cX9_saw 67 = .ok (.aload_n 0, 1) := by decide +kernel
theorem dX9_saw_68 : decode cX9_saw 68 = .ok (.getfield 65, 3) := by decide +kernel
theorem dX9_saw_71 : decode cX9_saw 71 = .ok (.iconst 0, 1) := by decide +kernel
theorem dX9_saw_72 : decode cX9_saw 72 = .ok (.putfield 105, 3) := by decide +kernel
theorem dX9_saw_75 : decode cX9_saw 75 = .ok (.aload_n 0, 1) := by decide +kernel
theorem dX9_saw_76 : decode cX9_saw 76 = .ok (.getfield 21, 3) := by decide +kernel
theorem dX9_saw_79 : decode cX9_saw 79 = .ok (.getfield 106, 3) := by decide +kernel
theorem dX9_saw_82 : decode cX9_saw 82 = .ok (.ireturn, 1) := by decide +kernel
theorem dX9_ofTooth_0 : decode cX9_ofTooth 0 = .ok (.aload_n 0, 1) := by decide +kernel
theorem dX9_ofTooth_1 : decode cX9_ofTooth 1 = .ok (.getfield 21, 3) := by decide +kernel
theorem dX9_ofTooth_4 : decode cX9_ofTooth 4 = .ok (.iload_n 1, 1) := by decide +kernel
theorem dX9_ofTooth_5 : decode cX9_ofTooth 5 = .ok (.invokevirtual 107, 3) := by decide +kernel
theorem dX9_ofTooth_8 : decode cX9_ofTooth 8 = .ok (.ifCond .ne 5, 3) := by decide +kernel
theorem dX9_ofTooth_11 : decode cX9_ofTooth 11 = .ok (.iconst (-1), 1) := by decide +kernel
theorem dX9_ofTooth_12 : decode cX9_ofTooth 12 = .ok (.ireturn, 1) := by decide +kernel
theorem dX9_ofTooth_13 : decode cX9_ofTooth 13 = .ok (.iload_n 2, 1) := by decide +kernel
theorem dX9_ofTooth_14 : decode cX9_ofTooth 14 = .ok (.tableswitch 108 0 6 #[42, 51, 60, 70, 80, 90, 99], 42) := by decide +kernel
theorem dX9_ofTooth_56 : decode cX9_ofTooth 56 = .ok (.aload_n 0, 1) := by decide +kernel
theorem dX9_ofTooth_57 : decode cX9_ofTooth 57 = .ok (.getfield 21, 3) := by decide +kernel
theorem dX9_ofTooth_60 : decode cX9_ofTooth 60 = .ok (.iload_n 1, 1) := by decide +kernel
theorem dX9_ofTooth_61 : decode cX9_ofTooth 61 = .ok (.invokevirtual 111, 3) := by decide +kernel
theorem dX9_ofTooth_64 : decode cX9_ofTooth 64 = .ok (.ireturn, 1) := by decide +kernel
theorem dX9_ofTooth_65 : decode cX9_ofTooth 65 = .ok (.aload_n 0, 1) := by decide +kernel
theorem dX9_ofTooth_66 : decode cX9_ofTooth 66 = .ok (.getfield 21, 3) := by decide +kernel
theorem dX9_ofTooth_69 : decode cX9_ofTooth 69 = .ok (.iload_n 1, 1) := by decide +kernel
theorem dX9_ofTooth_70 : decode cX9_ofTooth 70 = .ok (.invokevirtual 115, 3) := by decide +kernel
theorem dX9_ofTooth_73 : decode cX9_ofTooth 73 = .ok (.ireturn, 1) := by decide +kernel
theorem dX9_ofTooth_74 : decode cX9_ofTooth 74 = .ok (.aload_n 0, 1) := by decide +kernel
theorem dX9_ofTooth_75 : decode cX9_ofTooth 75 = .ok (.getfield 21, 3) := by decide +kernel
theorem dX9_ofTooth_78 : decode cX9_ofTooth 78 = .ok (.iload_n 1, 1) := by decide +kernel
theorem dX9_ofTooth_79 : decode cX9_ofTooth 79 = .ok (.iconst 0, 1) := by decide +kernel
theorem dX9_ofTooth_80 : decode cX9_ofTooth 80 = .ok (.invokevirtual 118, 3) := by decide +kernel
theorem dX9_ofTooth_83 : decode cX9_ofTooth 83 = .ok (.ireturn, 1) := by decide +kernel
theorem dX9_ofTooth_84 : decode cX9_ofTooth 84 = .ok (.aload_n 0, 1) := by decide +kernel
theorem dX9_ofTooth_85 : decode cX9_ofTooth 85 = .ok (.getfield 21, 3) := by decide +kernel
theorem dX9_ofTooth_88 : decode cX9_ofTooth 88 = .ok (.iload_n 1, 1) := by decide +kernel
theorem dX9_ofTooth_89 : decode cX9_ofTooth 89 = .ok (.iconst 1, 1) := by decide +kernel
theorem dX9_ofTooth_90 : decode cX9_ofTooth 90 = .ok (.invokevirtual 118, 3) := by decide +kernel
theorem dX9_ofTooth_93 : decode cX9_ofTooth 93 = .ok (.ireturn, 1) := by decide +kernel
theorem dX9_ofTooth_94 : decode cX9_ofTooth 94 = .ok (.aload_n 0, 1) := by decide +kernel
theorem dX9_ofTooth_95 : decode cX9_ofTooth 95 = .ok (.getfield 21, 3) := by decide +kernel
theorem dX9_ofTooth_98 : decode cX9_ofTooth 98 = .ok (.iload_n 1, 1) := by decide +kernel
theorem dX9_ofTooth_99 : decode cX9_ofTooth 99 = .ok (.iconst 2, 1) := by decide +kernel
theorem dX9_ofTooth_100 : decode cX9_ofTooth 100 = .ok (.invokevirtual 118, 3) := by decide +kernel
theorem dX9_ofTooth_103 : decode cX9_ofTooth 103 = .ok (.ireturn, 1) := by decide +kernel
theorem dX9_ofTooth_104 : decode cX9_ofTooth 104 = .ok (.aload_n 0, 1) := by decide +kernel
theorem dX9_ofTooth_105 : decode cX9_ofTooth 105 = .ok (.getfield 21, 3) := by decide +kernel
theorem dX9_ofTooth_108 : decode cX9_ofTooth 108 = .ok (.iload_n 1, 1) := by decide +kernel
theorem dX9_ofTooth_109 : decode cX9_ofTooth 109 = .ok (.invokevirtual 122, 3) := by decide +kernel
theorem dX9_ofTooth_112 : decode cX9_ofTooth 112 = .ok (.ireturn, 1) := by decide +kernel
theorem dX9_ofTooth_113 : decode cX9_ofTooth 113 = .ok (.aload_n 0, 1) := by decide +kernel
theorem dX9_ofTooth_114 : decode cX9_ofTooth 114 = .ok (.getfield 21, 3) := by decide +kernel
theorem dX9_ofTooth_117 : decode cX9_ofTooth 117 = .ok (.iload_n 1, 1) := by decide +kernel
theorem dX9_ofTooth_118 : decode cX9_ofTooth 118 = .ok (.invokevirtual 125, 3) := by decide +kernel
theorem dX9_ofTooth_121 : decode cX9_ofTooth 121 = .ok (.ireturn, 1) := by decide +kernel
theorem dX9_ofTooth_122 : decode cX9_ofTooth 122 = .ok (.bipush (-2), 2) := by decide +kernel
theorem dX9_ofTooth_124 : decode cX9_ofTooth 124 = .ok (.ireturn, 1) := by decide +kernel
theorem dX9_set_0 : decode cX9_set 0 = .ok (.aload_n 0, 1) := by decide +kernel
theorem dX9_set_1 : decode cX9_set 1 = .ok (.getfield 21, 3) := by decide +kernel
theorem dX9_set_4 : decode cX9_set 4 = .ok (.iload_n 1, 1) := by decide +kernel
theorem dX9_set_5 : decode cX9_set 5 = .ok (.invokevirtual 107, 3) := by decide +kernel
theorem dX9_set_8 : decode cX9_set 8 = .ok (.ifCond .ne 5, 3) := by decide +kernel
theorem dX9_set_11 : decode cX9_set 11 = .ok (.iconst (-1), 1) := by decide +kernel
theorem dX9_set_12 : decode cX9_set 12 = .ok (.ireturn, 1) := by decide +kernel
theorem dX9_set_13 : decode cX9_set 13 = .ok (.iload_n 2, 1) := by decide +kernel
theorem dX9_set_14 : decode cX9_set 14 = .ok (.invokestatic 128, 3) := by decide +kernel
theorem dX9_set_17 : decode cX9_set 17 = .ok (.ifCond .eq 13, 3) := by decide +kernel
theorem dX9_set_20 : decode cX9_set 20 = .ok (.iload_n 3, 1) := by decide +kernel
theorem dX9_set_21 : decode cX9_set 21 = .ok (.iconst 0, 1) := by decide +kernel
theorem dX9_set_22 : decode cX9_set 22 = .ok (.bipush 9, 2) := by decide +kernel
theorem dX9_set_24 : decode cX9_set 24 = .ok (.invokestatic 131, 3) := by decide +kernel
theorem dX9_set_27 : decode cX9_set 27 = .ok (.ifCond .ne 6, 3) := by decide +kernel
theorem dX9_set_30 : decode cX9_set 30 = .ok (.bipush (-2), 2) := by decide +kernel
theorem dX9_set_32 : decode cX9_set 32 = .ok (.ireturn, 1) := by decide +kernel
theorem dX9_set_33 : decode cX9_set 33 = .ok (.aload_n 0, 1) := by decide +kernel
theorem dX9_set_34 : decode cX9_set 34 = .ok (.getfield 21, 3) := by decide +kernel
theorem dX9_set_37 : decode cX9_set 37 = .ok (.iload_n 1, 1) := by decide +kernel
theorem dX9_set_38 : decode cX9_set 38 = .ok (.iload_n 2, 1) := by decide +kernel
theorem dX9_set_39 : decode cX9_set 39 = .ok (.invokevirtual 118, 3) := by decide +kernel
theorem dX9_set_42 : decode cX9_set 42 = .ok (.istore 4, 2) := by decide +kernel
theorem dX9_set_44 : decode cX9_set 44 = .ok (.aload_n 0, 1) := by decide +kernel
theorem dX9_set_45 : decode cX9_set 45 = .ok (.getfield 21, 3) := by decide +kernel
theorem dX9_set_48 : decode cX9_set 48 = .ok (.iload_n 1, 1) := by decide +kernel
theorem dX9_set_49 : decode cX9_set 49 = .ok (.iload_n 2, 1) := by decide +kernel
theorem dX9_set_50 : decode cX9_set 50 = .ok (.iload_n 3, 1) := by decide +kernel
theorem dX9_set_51 : decode cX9_set 51 = .ok (.invokevirtual 135, 3) := by decide +kernel
theorem dX9_set_54 : decode cX9_set 54 = .ok (.iload 4, 2) := by decide +kernel
theorem dX9_set_56 : decode cX9_set 56 = .ok (.ireturn, 1) := by decide +kernel
theorem dX9_ofSaw_0 : decode cX9_ofSaw 0 = .ok (.iload_n 1, 1) := by decide +kernel
theorem dX9_ofSaw_1 : decode cX9_ofSaw 1 = .ok (.iconst 0, 1) := by decide +kernel
theorem dX9_ofSaw_2 : decode cX9_ofSaw 2 = .ok (.iconst 2, 1) := by decide +kernel
theorem dX9_ofSaw_3 : decode cX9_ofSaw 3 = .ok (.invokestatic 131, 3) := by decide +kernel
theorem dX9_ofSaw_6 : decode cX9_ofSaw 6 = .ok (.ifCond .ne 6, 3) := by decide +kernel
theorem dX9_ofSaw_9 : decode cX9_ofSaw 9 = .ok (.bipush (-2), 2) := by decide +kernel
theorem dX9_ofSaw_11 : decode cX9_ofSaw 11 = .ok (.ireturn, 1) := by decide +kernel
theorem dX9_ofSaw_12 : decode cX9_ofSaw 12 = .ok (.aload_n 0, 1) := by decide +kernel
theorem dX9_ofSaw_13 : decode cX9_ofSaw 13 = .ok (.getfield 21, 3) := by decide +kernel
theorem dX9_ofSaw_16 : decode cX9_ofSaw 16 = .ok (.getfield 106, 3) := by decide +kernel
theorem dX9_ofSaw_19 : decode cX9_ofSaw 19 = .ok (.ifCond .ne 6, 3) := by decide +kernel
theorem dX9_ofSaw_22 : decode cX9_ofSaw 22 = .ok (.bipush (-3), 2) := by decide +kernel
theorem dX9_ofSaw_24 : decode cX9_ofSaw 24 = .ok (.ireturn, 1) := by decide +kernel
theorem dX9_ofSaw_25 : decode cX9_ofSaw 25 = .ok (.iload_n 1, 1) := by decide +kernel
theorem dX9_ofSaw_26 : decode cX9_ofSaw 26 = .ok (.lookupswitch 42 #[(0, 26), (1, 34)], 26) := by decide +kernel
theorem dX9_ofSaw_52 : decode cX9_ofSaw 52 = .ok (.aload_n 0, 1) := by decide +kernel
theorem dX9_ofSaw_53 : decode cX9_ofSaw 53 = .ok (.getfield 21, 3) := by decide +kernel
theorem dX9_ofSaw_56 : decode cX9_ofSaw 56 = .ok (.invokevirtual 139, 3) := by decide +kernel
theorem dX9_ofSaw_59 : decode cX9_ofSaw 59 = .ok (.ireturn, 1) := by decide +kernel
theorem dX9_ofSaw_60 : decode cX9_ofSaw 60 = .ok (.aload_n 0, 1) := by decide +kernel
theorem dX9_ofSaw_61 : decode cX9_ofSaw 61 = .ok (.getfield 21, 3) := by decide +kernel
theorem dX9_ofSaw_64 : decode cX9_ofSaw 64 = .ok (.invokevirtual 143, 3) := by decide +kernel
theorem dX9_ofSaw_67 : decode cX9_ofSaw 67 = .ok (.ireturn, 1) := by decide +kernel
theorem dX9_ofSaw_68 : decode cX9_ofSaw 68 = .ok (.aload_n 0, 1) := by decide +kernel
theorem dX9_ofSaw_69 : decode cX9_ofSaw 69 = .ok (.getfield 21, 3) := by decide +kernel
theorem dX9_ofSaw_72 : decode cX9_ofSaw 72 = .ok (.invokevirtual 146, 3) := by decide +kernel
theorem dX9_ofSaw_75 : decode cX9_ofSaw 75 = .ok (.ireturn, 1) := by decide +kernel
theorem dX9_board_0 : decode cX9_board 0 = .ok (.aload_n 0, 1) := by decide +kernel
theorem dX9_board_1 : decode cX9_board 1 = .ok (.iload_n 1, 1) := by decide +kernel
theorem dX9_board_2 : decode cX9_board 2 = .ok (.iload_n 2, 1) := by decide +kernel
theorem dX9_board_3 : decode cX9_board 3 = .ok (.iload_n 3, 1) := by decide +kernel
theorem dX9_board_4 : decode cX9_board 4 = .ok (.iload 4, 2) := by decide +kernel
theorem dX9_board_6 : decode cX9_board 6 = .ok (.invokevirtual 90, 3) := by decide +kernel
theorem dX9_board_9 : decode cX9_board 9 = .ok (.istore 5, 2) := by decide +kernel
theorem dX9_board_11 : decode cX9_board 11 = .ok (.iload 5, 2) := by decide +kernel
theorem dX9_board_13 : decode cX9_board 13 = .ok (.ifCond .eq 6, 3) := by decide +kernel
theorem dX9_board_16 : decode cX9_board 16 = .ok (.iload 5, 2) := by decide +kernel
theorem dX9_board_18 : decode cX9_board 18 = .ok (.ireturn, 1) := by decide +kernel
theorem dX9_board_19 : decode cX9_board 19 = .ok (.aload_n 0, 1) := by decide +kernel
theorem dX9_board_20 : decode cX9_board 20 = .ok (.getfield 12, 3) := by decide +kernel
theorem dX9_board_23 : decode cX9_board 23 = .ok (.iload_n 1, 1) := by decide +kernel
theorem dX9_board_24 : decode cX9_board 24 = .ok (.iload_n 3, 1) := by decide +kernel
theorem dX9_board_25 : decode cX9_board 25 = .ok (.iload 4, 2) := by decide +kernel
theorem dX9_board_27 : decode cX9_board 27 = .ok (.invokestatic 149, 3) := by decide +kernel
theorem dX9_board_30 : decode cX9_board 30 = .ok (.istore 6, 2) := by decide +kernel
theorem dX9_board_32 : decode cX9_board 32 = .ok (.iload 6, 2) := by decide +kernel
theorem dX9_board_34 : decode cX9_board 34 = .ok (.iconst (-1), 1) := by decide +kernel
theorem dX9_board_35 : decode cX9_board 35 = .ok (.if_icmp .eq 9, 3) := by decide +kernel
theorem dX9_board_38 : decode cX9_board 38 = .ok (.bipush (-100), 2) := by decide +kernel
theorem dX9_board_40 : decode cX9_board 40 = .ok (.iload 6, 2) := by decide +kernel
theorem dX9_board_42 : decode cX9_board 42 = .ok (.isub, 1) := by decide +kernel
theorem dX9_board_43 : decode cX9_board 43 = .ok (.ireturn, 1) := by decide +kernel
theorem dX9_board_44 : decode cX9_board 44 = .ok (.aload_n 0, 1) := by decide +kernel
theorem dX9_board_45 : decode cX9_board 45 = .ok (.getfield 34, 3) := by decide +kernel
theorem dX9_board_48 : decode cX9_board 48 = .ok (.aload_n 0, 1) := by decide +kernel
theorem dX9_board_49 : decode cX9_board 49 = .ok (.getfield 12, 3) := by decide +kernel
theorem dX9_board_52 : decode cX9_board 52 = .ok (.iload_n 1, 1) := by decide +kernel
theorem dX9_board_53 : decode cX9_board 53 = .ok (.iload_n 3, 1) := by decide +kernel
theorem dX9_board_54 : decode cX9_board 54 = .ok (.iload 4, 2) := by decide +kernel
theorem dX9_board_56 : decode cX9_board 56 = .ok (.invokevirtual 152, 3) := by decide +kernel
theorem dX9_board_59 : decode cX9_board 59 = .ok (.aload_n 0, 1) := by decide +kernel
theorem dX9_board_60 : decode cX9_board 60 = .ok (.getfield 65, 3) := by decide +kernel
theorem dX9_board_63 : decode cX9_board 63 = .ok (.iconst 0, 1) := by decide +kernel
theorem dX9_board_64 : decode cX9_board 64 = .ok (.putfield 105, 3) := by decide +kernel
theorem dX9_board_67 : decode cX9_board 67 = .ok (.aload_n 0, 1) := by decide +kernel
theorem dX9_board_68 : decode cX9_board 68 = .ok (.getfield 34, 3) := by decide +kernel
theorem dX9_board_71 : decode cX9_board 71 = .ok (.getfield 155, 3) := by decide +kernel
theorem dX9_board_74 : decode cX9_board 74 = .ok (.ireturn, 1) := by decide +kernel
theorem dX9_ofLine_0 : decode cX9_ofLine 0 = .ok (.aload_n 0, 1) := by decide +kernel
theorem dX9_ofLine_1 : decode cX9_ofLine 1 = .ok (.getfield 34, 3) := by decide +kernel
theorem dX9_ofLine_4 : decode cX9_ofLine 4 = .ok (.iload_n 1, 1) := by decide +kernel
theorem dX9_ofLine_5 : decode cX9_ofLine 5 = .ok (.invokevirtual 156, 3) := by decide +kernel
theorem dX9_ofLine_8 : decode cX9_ofLine 8 = .ok (.ifCond .ne 5, 3) := by decide +kernel
theorem dX9_ofLine_11 : decode cX9_ofLine 11 = .ok (.iconst (-1), 1) := by decide +kernel
theorem dX9_ofLine_12 : decode cX9_ofLine 12 = .ok (.ireturn, 1) := by decide +kernel
theorem dX9_ofLine_13 : decode cX9_ofLine 13 = .ok (.iload_n 2, 1) := by decide +kernel
theorem dX9_ofLine_14 : decode cX9_ofLine 14 = .ok (.tableswitch 53 0 2 #[26, 35, 44], 26) := by decide +kernel
theorem dX9_ofLine_40 : decode cX9_ofLine 40 = .ok (.aload_n 0, 1) := by decide +kernel
theorem dX9_ofLine_41 : decode cX9_ofLine 41 = .ok (.getfield 34, 3) := by decide +kernel
theorem dX9_ofLine_44 : decode cX9_ofLine 44 = .ok (.iload_n 1, 1) := by decide +kernel
theorem dX9_ofLine_45 : decode cX9_ofLine 45 = .ok (.invokevirtual 157, 3) := by decide +kernel
theorem dX9_ofLine_48 : decode cX9_ofLine 48 = .ok (.ireturn, 1) := by decide +kernel
theorem dX9_ofLine_49 : decode cX9_ofLine 49 = .ok (.aload_n 0, 1) := by decide +kernel
theorem dX9_ofLine_50 : decode cX9_ofLine 50 = .ok (.getfield 34, 3) := by decide +kernel
theorem dX9_ofLine_53 : decode cX9_ofLine 53 = .ok (.iload_n 1, 1) := by decide +kernel
theorem dX9_ofLine_54 : decode cX9_ofLine 54 = .ok (.invokevirtual 160, 3) := by decide +kernel
theorem dX9_ofLine_57 : decode cX9_ofLine 57 = .ok (.ireturn, 1) := by decide +kernel
theorem dX9_ofLine_58 : decode cX9_ofLine 58 = .ok (.aload_n 0, 1) := by decide +kernel
theorem dX9_ofLine_59 : decode cX9_ofLine 59 = .ok (.getfield 34, 3) := by decide +kernel
theorem dX9_ofLine_62 : decode cX9_ofLine 62 = .ok (.iload_n 1, 1) := by decide +kernel
theorem dX9_ofLine_63 : decode cX9_ofLine 63 = .ok (.invokevirtual 163, 3) := by decide +kernel
theorem dX9_ofLine_66 : decode cX9_ofLine 66 = .ok (.ireturn, 1) := by decide +kernel
theorem dX9_ofLine_67 : decode cX9_ofLine 67 = .ok (.bipush (-2), 2) := by decide +kernel
theorem dX9_ofLine_69 : decode cX9_ofLine 69 = .ok (.ireturn, 1) := by decide +kernel
theorem dX9_hand_0 : decode cX9_hand 0 = .ok (.iload_n 1, 1) := by decide +kernel
theorem dX9_hand_1 : decode cX9_hand 1 = .ok (.bipush (-9), 2) := by decide +kernel
theorem dX9_hand_3 : decode cX9_hand 3 = .ok (.bipush 9, 2) := by decide +kernel
theorem dX9_hand_5 : decode cX9_hand 5 = .ok (.invokestatic 131, 3) := by decide +kernel
theorem dX9_hand_8 : decode cX9_hand 8 = .ok (.ifCond .eq 22, 3) := by decide +kernel
theorem dX9_hand_11 : decode cX9_hand 11 = .ok (.iload_n 2, 1) := by decide +kernel
theorem dX9_hand_12 : decode cX9_hand 12 = .ok (.iconst 0, 1) := by decide +kernel
theorem dX9_hand_13 : decode cX9_hand 13 = .ok (.bipush 9, 2) := by decide +kernel
theorem dX9_hand_15 : decode cX9_hand 15 = .ok (.invokestatic 131, 3) := by decide +kernel
theorem dX9_hand_18 : decode cX9_hand 18 = .ok (.ifCond .eq 12, 3) := by decide +kernel
theorem dX9_hand_21 : decode cX9_hand 21 = .ok (.iload_n 3, 1) := by decide +kernel
theorem dX9_hand_22 : decode cX9_hand 22 = .ok (.iconst 0, 1) := by decide +kernel
theorem dX9_hand_23 : decode cX9_hand 23 = .ok (.iconst 5, 1) := by decide +kernel
theorem dX9_hand_24 : decode cX9_hand 24 = .ok (.invokestatic 131, 3) := by decide +kernel
theorem dX9_hand_27 : decode cX9_hand 27 = .ok (.ifCond .ne 6, 3) := by decide +kernel
theorem dX9_hand_30 : decode cX9_hand 30 = .ok (.bipush (-2), 2) := by decide +kernel
theorem dX9_hand_32 : decode cX9_hand 32 = .ok (.ireturn, 1) := by decide +kernel
theorem dX9_hand_33 : decode cX9_hand 33 = .ok (.aload_n 0, 1) := by decide +kernel
theorem dX9_hand_34 : decode cX9_hand 34 = .ok (.getfield 41, 3) := by decide +kernel
theorem dX9_hand_37 : decode cX9_hand 37 = .ok (.iload_n 1, 1) := by decide +kernel
theorem dX9_hand_38 : decode cX9_hand 38 = .ok (.putfield 166, 3) := by decide +kernel
theorem dX9_hand_41 : decode cX9_hand 41 = .ok (.aload_n 0, 1) := by decide +kernel
theorem dX9_hand_42 : decode cX9_hand 42 = .ok (.getfield 41, 3) := by decide +kernel
theorem dX9_hand_45 : decode cX9_hand 45 = .ok (.iload_n 2, 1) := by decide +kernel
theorem dX9_hand_46 : decode cX9_hand 46 = .ok (.putfield 169, 3) := by decide +kernel
theorem dX9_hand_49 : decode cX9_hand 49 = .ok (.aload_n 0, 1) := by decide +kernel
theorem dX9_hand_50 : decode cX9_hand 50 = .ok (.getfield 41, 3) := by decide +kernel
theorem dX9_hand_53 : decode cX9_hand 53 = .ok (.iload_n 3, 1) := by decide +kernel
theorem dX9_hand_54 : decode cX9_hand 54 = .ok (.putfield 172, 3) := by decide +kernel
theorem dX9_hand_57 : decode cX9_hand 57 = .ok (.iconst 1, 1) := by decide +kernel
theorem dX9_hand_58 : decode cX9_hand 58 = .ok (.ireturn, 1) := by decide +kernel
theorem dX9_ofHand_0 : decode cX9_ofHand 0 = .ok (.iload_n 1, 1) := by decide +kernel
theorem dX9_ofHand_1 : decode cX9_ofHand 1 = .ok (.tableswitch 51 0 2 #[27, 35, 43], 27) := by decide +kernel
theorem dX9_ofHand_28 : decode cX9_ofHand 28 = .ok (.aload_n 0, 1) := by decide +kernel
theorem dX9_ofHand_29 : decode cX9_ofHand 29 = .ok (.getfield 41, 3) := by decide +kernel
theorem dX9_ofHand_32 : decode cX9_ofHand 32 = .ok (.getfield 166, 3) := by decide +kernel
theorem dX9_ofHand_35 : decode cX9_ofHand 35 = .ok (.ireturn, 1) := by decide +kernel
theorem dX9_ofHand_36 : decode cX9_ofHand 36 = .ok (.aload_n 0, 1) := by decide +kernel
theorem dX9_ofHand_37 : decode cX9_ofHand 37 = .ok (.getfield 41, 3) := by decide +kernel
theorem dX9_ofHand_40 : decode cX9_ofHand 40 = .ok (.getfield 169, 3) := by decide +kernel
theorem dX9_ofHand_43 : decode cX9_ofHand 43 = .ok (.ireturn, 1) := by decide +kernel
theorem dX9_ofHand_44 : decode cX9_ofHand 44 = .ok (.aload_n 0, 1) := by decide +kernel
theorem dX9_ofHand_45 : decode cX9_ofHand 45 = .ok (.getfield 41, 3) := by decide +kernel
theorem dX9_ofHand_48 : decode cX9_ofHand 48 = .ok (.getfield 172, 3) := by decide +kernel
theorem dX9_ofHand_51 : decode cX9_ofHand 51 = .ok (.ireturn, 1) := by decide +kernel
theorem dX9_ofHand_52 : decode cX9_ofHand 52 = .ok (.bipush (-2), 2) := by decide +kernel
theorem dX9_ofHand_54 : decode cX9_ofHand 54 = .ok (.ireturn, 1) := by decide +kernel
theorem dX9_fence_0 : decode cX9_fence 0 = .ok (.iload_n 1, 1) := by decide +kernel
theorem dX9_fence_1 : decode cX9_fence 1 = .ok (.iconst 0, 1) := by decide +kernel
theorem dX9_fence_2 : decode cX9_fence 2 = .ok (.bipush 99, 2) := by decide +kernel
theorem dX9_fence_4 : decode cX9_fence 4 = .ok (.invokestatic 131, 3) := by decide +kernel
theorem dX9_fence_7 : decode cX9_fence 7 = .ok (.ifCond .ne 6, 3) := by decide +kernel
theorem dX9_fence_10 : decode cX9_fence 10 = .ok (.bipush (-2), 2) := by decide +kernel
theorem dX9_fence_12 : decode cX9_fence 12 = .ok (.ireturn, 1) := by decide +kernel
theorem dX9_fence_13 : decode cX9_fence 13 = .ok (.aload_n 0, 1) := by decide +kernel
theorem dX9_fence_14 : decode cX9_fence 14 = .ok (.getfield 41, 3) := by decide +kernel
theorem dX9_fence_17 : decode cX9_fence 17 = .ok (.getfield 175, 3) := by decide +kernel
theorem dX9_fence_20 : decode cX9_fence 20 = .ok (.istore_n 2, 1) := by decide +kernel
theorem dX9_fence_21 : decode cX9_fence 21 = .ok (.aload_n 0, 1) := by decide +kernel
theorem dX9_fence_22 : decode cX9_fence 22 = .ok (.getfield 41, 3) := by decide +kernel
theorem dX9_fence_25 : decode cX9_fence 25 = .ok (.iload_n 1, 1) := by decide +kernel
theorem dX9_fence_26 : decode cX9_fence 26 = .ok (.putfield 175, 3) := by decide +kernel
theorem dX9_fence_29 : decode cX9_fence 29 = .ok (.iload_n 2, 1) := by decide +kernel
theorem dX9_fence_30 : decode cX9_fence 30 = .ok (.ireturn, 1) := by decide +kernel
theorem dX9_where_0 : decode cX9_where 0 = .ok (.aload_n 0, 1) := by decide +kernel
theorem dX9_where_1 : decode cX9_where 1 = .ok (.iload_n 1, 1) := by decide +kernel
theorem dX9_where_2 : decode cX9_where 2 = .ok (.invokevirtual 178, 3) := by decide +kernel
theorem dX9_where_5 : decode cX9_where 5 = .ok (.ifCond .ne 15, 3) := by decide +kernel
theorem dX9_where_8 : decode cX9_where 8 = .ok (.aload_n 0, 1) := by decide +kernel
theorem dX9_where_9 : decode cX9_where 9 = .ok (.getfield 51, 3) := by decide +kernel
theorem dX9_where_12 : decode cX9_where 12 = .ok (.iload_n 1, 1) := by decide +kernel
theorem dX9_where_13 : decode cX9_where 13 = .ok (.invokevirtual 181, 3) := by decide +kernel
theorem dX9_where_16 : decode cX9_where 16 = .ok (.i2l, 1) := by decide +kernel
theorem dX9_where_17 : decode cX9_where 17 = .ok (.goto 6, 3) := by decide +kernel
theorem dX9_where_20 : decode cX9_where 20 = .ok (.ldc2_w 184, 3) := by decide +kernel
theorem dX9_where_23 : decode cX9_where 23 = .ok (.lreturn, 1) := by decide +kernel
theorem dX9_heading_0 : decode cX9_heading 0 = .ok (.aload_n 0, 1) := by decide +kernel
theorem dX9_heading_1 : decode cX9_heading 1 = .ok (.iload_n 1, 1) := by decide +kernel
theorem dX9_heading_2 : decode cX9_heading 2 = .ok (.invokevirtual 178, 3) := by decide +kernel
theorem dX9_heading_5 : decode cX9_heading 5 = .ok (.ifCond .ne 15, 3) := by decide +kernel
theorem dX9_heading_8 : decode cX9_heading 8 = .ok (.aload_n 0, 1) := by decide +kernel
theorem dX9_heading_9 : decode cX9_heading 9 = .ok (.getfield 51, 3) := by decide +kernel
theorem dX9_heading_12 : decode cX9_heading 12 = .ok (.iload_n 1, 1) := by decide +kernel
theorem dX9_heading_13 : decode cX9_heading 13 = .ok (.invokevirtual 186, 3) := by decide +kernel
theorem dX9_heading_16 : decode cX9_heading 16 = .ok (.i2l, 1) := by decide +kernel
theorem dX9_heading_17 : decode cX9_heading 17 = .ok (.goto 6, 3) := by decide +kernel
theorem dX9_heading_20 : decode cX9_heading 20 = .ok (.ldc2_w 184, 3) := by decide +kernel
theorem dX9_heading_23 : decode cX9_heading 23 = .ok (.lreturn, 1) := by decide +kernel
theorem dX9_off_0 : decode cX9_off 0 = .ok (.aload_n 0, 1) := by decide +kernel
theorem dX9_off_1 : decode cX9_off 1 = .ok (.invokevirtual 189, 3) := by decide +kernel
theorem dX9_off_4 : decode cX9_off 4 = .ok (.ifCond .eq 6, 3) := by decide +kernel
theorem dX9_off_7 : decode cX9_off 7 = .ok (.bipush (-3), 2) := by decide +kernel
theorem dX9_off_9 : decode cX9_off 9 = .ok (.ireturn, 1) := by decide +kernel
theorem dX9_off_10 : decode cX9_off 10 = .ok (.aload_n 0, 1) := by decide +kernel
theorem dX9_off_11 : decode cX9_off 11 = .ok (.invokevirtual 193, 3) := by decide +kernel
theorem dX9_off_14 : decode cX9_off 14 = .ok (.aload_n 0, 1) := by decide +kernel
theorem dX9_off_15 : decode cX9_off 15 = .ok (.getfield 51, 3) := by decide +kernel
theorem dX9_off_18 : decode cX9_off 18 = .ok (.getfield 196, 3) := by decide +kernel
theorem dX9_off_21 : decode cX9_off 21 = .ok (.ireturn, 1) := by decide +kernel
theorem dX9_pinched_0 : decode cX9_pinched 0 = .ok (.aload_n 0, 1) := by decide +kernel
theorem dX9_pinched_1 : decode cX9_pinched 1 = .ok (.invokevirtual 189, 3) := by decide +kernel
theorem dX9_pinched_4 : decode cX9_pinched 4 = .ok (.ifCond .eq 6, 3) := by decide +kernel
theorem dX9_pinched_7 : decode cX9_pinched 7 = .ok (.bipush (-3), 2) := by decide +kernel
theorem dX9_pinched_9 : decode cX9_pinched 9 = .ok (.ireturn, 1) := by decide +kernel
theorem dX9_pinched_10 : decode cX9_pinched 10 = .ok (.aload_n 0, 1) := by decide +kernel
theorem dX9_pinched_11 : decode cX9_pinched 11 = .ok (.invokevirtual 193, 3) := by decide +kernel
theorem dX9_pinched_14 : decode cX9_pinched 14 = .ok (.aload_n 0, 1) := by decide +kernel
theorem dX9_pinched_15 : decode cX9_pinched 15 = .ok (.getfield 51, 3) := by decide +kernel
theorem dX9_pinched_18 : decode cX9_pinched 18 = .ok (.getfield 199, 3) := by decide +kernel
theorem dX9_pinched_21 : decode cX9_pinched 21 = .ok (.ireturn, 1) := by decide +kernel
theorem dX9_marks_0 : decode cX9_marks 0 = .ok (.aload_n 0, 1) := by decide +kernel
theorem dX9_marks_1 : decode cX9_marks 1 = .ok (.iload_n 1, 1) := by decide +kernel
theorem dX9_marks_2 : decode cX9_marks 2 = .ok (.invokevirtual 178, 3) := by decide +kernel
theorem dX9_marks_5 : decode cX9_marks 5 = .ok (.istore_n 2, 1) := by decide +kernel
theorem dX9_marks_6 : decode cX9_marks 6 = .ok (.iload_n 2, 1) := by decide +kernel
theorem dX9_marks_7 : decode cX9_marks 7 = .ok (.ifCond .ne 13, 3) := by decide +kernel
theorem dX9_marks_10 : decode cX9_marks 10 = .ok (.aload_n 0, 1) := by decide +kernel
theorem dX9_marks_11 : decode cX9_marks 11 = .ok (.getfield 21, 3) := by decide +kernel
theorem dX9_marks_14 : decode cX9_marks 14 = .ok (.invokevirtual 202, 3) := by decide +kernel
theorem dX9_marks_17 : decode cX9_marks 17 = .ok (.goto 4, 3) := by decide +kernel
theorem dX9_marks_20 : decode cX9_marks 20 = .ok (.iload_n 2, 1) := by decide +kernel
theorem dX9_marks_21 : decode cX9_marks 21 = .ok (.ireturn, 1) := by decide +kernel
theorem dX9_which_0 : decode cX9_which 0 = .ok (.aload_n 0, 1) := by decide +kernel
theorem dX9_which_1 : decode cX9_which 1 = .ok (.iload_n 1, 1) := by decide +kernel
theorem dX9_which_2 : decode cX9_which 2 = .ok (.invokevirtual 178, 3) := by decide +kernel
theorem dX9_which_5 : decode cX9_which 5 = .ok (.istore_n 3, 1) := by decide +kernel
theorem dX9_which_6 : decode cX9_which 6 = .ok (.iload_n 3, 1) := by decide +kernel
theorem dX9_which_7 : decode cX9_which 7 = .ok (.ifCond .ne 22, 3) := by decide +kernel
theorem dX9_which_10 : decode cX9_which 10 = .ok (.aload_n 0, 1) := by decide +kernel
theorem dX9_which_11 : decode cX9_which 11 = .ok (.getfield 21, 3) := by decide +kernel
theorem dX9_which_14 : decode cX9_which 14 = .ok (.aload_n 0, 1) := by decide +kernel
theorem dX9_which_15 : decode cX9_which 15 = .ok (.getfield 51, 3) := by decide +kernel
theorem dX9_which_18 : decode cX9_which 18 = .ok (.iload_n 1, 1) := by decide +kernel
theorem dX9_which_19 : decode cX9_which 19 = .ok (.invokevirtual 181, 3) := by decide +kernel
theorem dX9_which_22 : decode cX9_which 22 = .ok (.iload_n 2, 1) := by decide +kernel
theorem dX9_which_23 : decode cX9_which 23 = .ok (.invokevirtual 205, 3) := by decide +kernel
theorem dX9_which_26 : decode cX9_which 26 = .ok (.goto 4, 3) := by decide +kernel
theorem dX9_which_29 : decode cX9_which 29 = .ok (.iload_n 3, 1) := by decide +kernel
theorem dX9_which_30 : decode cX9_which 30 = .ok (.ireturn, 1) := by decide +kernel
theorem dX9_straightest_0 : decode cX9_straightest 0 = .ok (.iload_n 1, 1) := by decide +kernel
theorem dX9_straightest_1 : decode cX9_straightest 1 = .ok (.iconst 0, 1) := by decide +kernel
theorem dX9_straightest_2 : decode cX9_straightest 2 = .ok (.iconst 3, 1) := by decide +kernel
theorem dX9_straightest_3 : decode cX9_straightest 3 = .ok (.invokestatic 131, 3) := by decide +kernel
theorem dX9_straightest_6 : decode cX9_straightest 6 = .ok (.ifCond .ne 6, 3) := by decide +kernel
theorem dX9_straightest_9 : decode cX9_straightest 9 = .ok (.bipush (-2), 2) := by decide +kernel
theorem dX9_straightest_11 : decode cX9_straightest 11 = .ok (.ireturn, 1) := by decide +kernel
theorem dX9_straightest_12 : decode cX9_straightest 12 = .ok (.aload_n 0, 1) := by decide +kernel
theorem dX9_straightest_13 : decode cX9_straightest 13 = .ok (.invokevirtual 189, 3) := by decide +kernel
theorem dX9_straightest_16 : decode cX9_straightest 16 = .ok (.ifCond .eq 6, 3) := by decide +kernel
theorem dX9_straightest_19 : decode cX9_straightest 19 = .ok (.bipush (-3), 2) := by decide +kernel
theorem dX9_straightest_21 : decode cX9_straightest 21 = .ok (.ireturn, 1) := by decide +kernel
theorem dX9_straightest_22 : decode cX9_straightest 22 = .ok (.iload_n 1, 1) := by decide +kernel
theorem dX9_straightest_23 : decode cX9_straightest 23 = .ok (.tableswitch 44 0 2 #[25, 30, 35], 25) := by decide +kernel
theorem dX9_straightest_48 : decode cX9_straightest 48 = .ok (.aload_n 0, 1) := by decide +kernel
theorem dX9_straightest_49 : decode cX9_straightest 49 = .ok (.invokevirtual 208, 3) := by decide +kernel
theorem dX9_straightest_52 : decode cX9_straightest 52 = .ok (.ireturn, 1) := by decide +kernel
theorem dX9_straightest_53 : decode cX9_straightest 53 = .ok (.aload_n 0, 1) := by decide +kernel
theorem dX9_straightest_54 : decode cX9_straightest 54 = .ok (.invokevirtual 211, 3) := by decide +kernel
theorem dX9_straightest_57 : decode cX9_straightest 57 = .ok (.ireturn, 1) := by decide +kernel
theorem dX9_straightest_58 : decode cX9_straightest 58 = .ok (.aload_n 0, 1) := by decide +kernel
theorem dX9_straightest_59 : decode cX9_straightest 59 = .ok (.aload_n 0, 1) := by decide +kernel
theorem dX9_straightest_60 : decode cX9_straightest 60 = .ok (.invokevirtual 208, 3) := by decide +kernel
theorem dX9_straightest_63 : decode cX9_straightest 63 = .ok (.invokevirtual 214, 3) := by decide +kernel
theorem dX9_straightest_66 : decode cX9_straightest 66 = .ok (.ireturn, 1) := by decide +kernel
theorem dX9_straightest_67 : decode cX9_straightest 67 = .ok (.aload_n 0, 1) := by decide +kernel
theorem dX9_straightest_68 : decode cX9_straightest 68 = .ok (.aload_n 0, 1) := by decide +kernel
theorem dX9_straightest_69 : decode cX9_straightest 69 = .ok (.invokevirtual 211, 3) := by decide +kernel
theorem dX9_straightest_72 : decode cX9_straightest 72 = .ok (.invokevirtual 217, 3) := by decide +kernel
theorem dX9_straightest_75 : decode cX9_straightest 75 = .ok (.ireturn, 1) := by decide +kernel
theorem dX9_flaw_0 : decode cX9_flaw 0 = .ok (.aload_n 0, 1) := by decide +kernel
theorem dX9_flaw_1 : decode cX9_flaw 1 = .ok (.getfield 21, 3) := by decide +kernel
theorem dX9_flaw_4 : decode cX9_flaw 4 = .ok (.iload_n 1, 1) := by decide +kernel
theorem dX9_flaw_5 : decode cX9_flaw 5 = .ok (.invokevirtual 107, 3) := by decide +kernel
theorem dX9_flaw_8 : decode cX9_flaw 8 = .ok (.ifCond .ne 5, 3) := by decide +kernel
theorem dX9_flaw_11 : decode cX9_flaw 11 = .ok (.iconst (-1), 1) := by decide +kernel
theorem dX9_flaw_12 : decode cX9_flaw 12 = .ok (.ireturn, 1) := by decide +kernel
theorem dX9_flaw_13 : decode cX9_flaw 13 = .ok (.iload_n 2, 1) := by decide +kernel
theorem dX9_flaw_14 : decode cX9_flaw 14 = .ok (.invokestatic 128, 3) := by decide +kernel
theorem dX9_flaw_17 : decode cX9_flaw 17 = .ok (.ifCond .eq 13, 3) := by decide +kernel
theorem dX9_flaw_20 : decode cX9_flaw 20 = .ok (.iload_n 3, 1) := by decide +kernel
theorem dX9_flaw_21 : decode cX9_flaw 21 = .ok (.iconst 0, 1) := by decide +kernel
theorem dX9_flaw_22 : decode cX9_flaw 22 = .ok (.bipush 9, 2) := by decide +kernel
theorem dX9_flaw_24 : decode cX9_flaw 24 = .ok (.invokestatic 131, 3) := by decide +kernel
theorem dX9_flaw_27 : decode cX9_flaw 27 = .ok (.ifCond .ne 6, 3) := by decide +kernel
theorem dX9_flaw_30 : decode cX9_flaw 30 = .ok (.bipush (-2), 2) := by decide +kernel
theorem dX9_flaw_32 : decode cX9_flaw 32 = .ok (.ireturn, 1) := by decide +kernel
theorem dX9_flaw_33 : decode cX9_flaw 33 = .ok (.aload_n 0, 1) := by decide +kernel
theorem dX9_flaw_34 : decode cX9_flaw 34 = .ok (.getfield 58, 3) := by decide +kernel
theorem dX9_flaw_37 : decode cX9_flaw 37 = .ok (.iload_n 1, 1) := by decide +kernel
theorem dX9_flaw_38 : decode cX9_flaw 38 = .ok (.iload_n 2, 1) := by decide +kernel
theorem dX9_flaw_39 : decode cX9_flaw 39 = .ok (.iload_n 3, 1) := by decide +kernel
theorem dX9_flaw_40 : decode cX9_flaw 40 = .ok (.invokevirtual 220, 3) := by decide +kernel
theorem dX9_flaw_43 : decode cX9_flaw 43 = .ok (.ireturn, 1) := by decide +kernel
theorem dX9_ofFlaw_0 : decode cX9_ofFlaw 0 = .ok (.aload_n 0, 1) := by decide +kernel
theorem dX9_ofFlaw_1 : decode cX9_ofFlaw 1 = .ok (.getfield 58, 3) := by decide +kernel
theorem dX9_ofFlaw_4 : decode cX9_ofFlaw 4 = .ok (.iload_n 1, 1) := by decide +kernel
theorem dX9_ofFlaw_5 : decode cX9_ofFlaw 5 = .ok (.invokevirtual 224, 3) := by decide +kernel
theorem dX9_ofFlaw_8 : decode cX9_ofFlaw 8 = .ok (.ifCond .ne 5, 3) := by decide +kernel
theorem dX9_ofFlaw_11 : decode cX9_ofFlaw 11 = .ok (.iconst (-1), 1) := by decide +kernel
theorem dX9_ofFlaw_12 : decode cX9_ofFlaw 12 = .ok (.ireturn, 1) := by decide +kernel
theorem dX9_ofFlaw_13 : decode cX9_ofFlaw 13 = .ok (.iload_n 2, 1) := by decide +kernel
theorem dX9_ofFlaw_14 : decode cX9_ofFlaw 14 = .ok (.tableswitch 53 0 2 #[26, 35, 44], 26) := by decide +kernel
theorem dX9_ofFlaw_40 : decode cX9_ofFlaw 40 = .ok (.aload_n 0, 1) := by decide +kernel
theorem dX9_ofFlaw_41 : decode cX9_ofFlaw 41 = .ok (.getfield 58, 3) := by decide +kernel
theorem dX9_ofFlaw_44 : decode cX9_ofFlaw 44 = .ok (.iload_n 1, 1) := by decide +kernel
theorem dX9_ofFlaw_45 : decode cX9_ofFlaw 45 = .ok (.invokevirtual 225, 3) := by decide +kernel
theorem dX9_ofFlaw_48 : decode cX9_ofFlaw 48 = .ok (.ireturn, 1) := by decide +kernel
theorem dX9_ofFlaw_49 : decode cX9_ofFlaw 49 = .ok (.aload_n 0, 1) := by decide +kernel
theorem dX9_ofFlaw_50 : decode cX9_ofFlaw 50 = .ok (.getfield 58, 3) := by decide +kernel
theorem dX9_ofFlaw_53 : decode cX9_ofFlaw 53 = .ok (.iload_n 1, 1) := by decide +kernel
theorem dX9_ofFlaw_54 : decode cX9_ofFlaw 54 = .ok (.invokevirtual 228, 3) := by decide +kernel
theorem dX9_ofFlaw_57 : decode cX9_ofFlaw 57 = .ok (.ireturn, 1) := by decide +kernel
theorem dX9_ofFlaw_58 : decode cX9_ofFlaw 58 = .ok (.aload_n 0, 1) := by decide +kernel
theorem dX9_ofFlaw_59 : decode cX9_ofFlaw 59 = .ok (.getfield 58, 3) := by decide +kernel
theorem dX9_ofFlaw_62 : decode cX9_ofFlaw 62 = .ok (.iload_n 1, 1) := by decide +kernel
theorem dX9_ofFlaw_63 : decode cX9_ofFlaw 63 = .ok (.invokevirtual 231, 3) := by decide +kernel
theorem dX9_ofFlaw_66 : decode cX9_ofFlaw 66 = .ok (.ireturn, 1) := by decide +kernel
theorem dX9_ofFlaw_67 : decode cX9_ofFlaw 67 = .ok (.bipush (-2), 2) := by decide +kernel
theorem dX9_ofFlaw_69 : decode cX9_ofFlaw 69 = .ok (.ireturn, 1) := by decide +kernel
theorem dX9_reading_0 : decode cX9_reading 0 = .ok (.aload_n 0, 1) := by decide +kernel
theorem dX9_reading_1 : decode cX9_reading 1 = .ok (.getfield 34, 3) := by decide +kernel
theorem dX9_reading_4 : decode cX9_reading 4 = .ok (.iload_n 1, 1) := by decide +kernel
theorem dX9_reading_5 : decode cX9_reading 5 = .ok (.invokevirtual 156, 3) := by decide +kernel
theorem dX9_reading_8 : decode cX9_reading 8 = .ok (.ifCond .ne 5, 3) := by decide +kernel
theorem dX9_reading_11 : decode cX9_reading 11 = .ok (.iconst (-1), 1) := by decide +kernel
theorem dX9_reading_12 : decode cX9_reading 12 = .ok (.ireturn, 1) := by decide +kernel
theorem dX9_reading_13 : decode cX9_reading 13 = .ok (.aload_n 0, 1) := by decide +kernel
theorem dX9_reading_14 : decode cX9_reading 14 = .ok (.getfield 65, 3) := by decide +kernel
theorem dX9_reading_17 : decode cX9_reading 17 = .ok (.iload_n 1, 1) := by decide +kernel
theorem dX9_reading_18 : decode cX9_reading 18 = .ok (.iload_n 2, 1) := by decide +kernel
theorem dX9_reading_19 : decode cX9_reading 19 = .ok (.invokevirtual 234, 3) := by decide +kernel
theorem dX9_reading_22 : decode cX9_reading 22 = .ok (.ireturn, 1) := by decide +kernel
theorem dX9_back_0 : decode cX9_back 0 = .ok (.iload_n 1, 1) := by decide +kernel
theorem dX9_back_1 : decode cX9_back 1 = .ok (.iconst 0, 1) := by decide +kernel
theorem dX9_back_2 : decode cX9_back 2 = .ok (.aload_n 0, 1) := by decide +kernel
theorem dX9_back_3 : decode cX9_back 3 = .ok (.getfield 65, 3) := by decide +kernel
theorem dX9_back_6 : decode cX9_back 6 = .ok (.getfield 105, 3) := by decide +kernel
theorem dX9_back_9 : decode cX9_back 9 = .ok (.invokestatic 131, 3) := by decide +kernel
theorem dX9_back_12 : decode cX9_back 12 = .ok (.ifCond .ne 6, 3) := by decide +kernel
theorem dX9_back_15 : decode cX9_back 15 = .ok (.bipush (-2), 2) := by decide +kernel
theorem dX9_back_17 : decode cX9_back 17 = .ok (.ireturn, 1) := by decide +kernel
theorem dX9_back_18 : decode cX9_back 18 = .ok (.aload_n 0, 1) := by decide +kernel
theorem dX9_back_19 : decode cX9_back 19 = .ok (.getfield 65, 3) := by decide +kernel
theorem dX9_back_22 : decode cX9_back 22 = .ok (.dup, 1) := by decide +kernel
theorem dX9_back_23 : decode cX9_back 23 = .ok (.getfield 105, 3) := by decide +kernel
theorem dX9_back_26 : decode cX9_back 26 = .ok (.iload_n 1, 1) := by decide +kernel
theorem dX9_back_27 : decode cX9_back 27 = .ok (.isub, 1) := by decide +kernel
theorem dX9_back_28 : decode cX9_back 28 = .ok (.putfield 105, 3) := by decide +kernel
theorem dX9_back_31 : decode cX9_back 31 = .ok (.aload_n 0, 1) := by decide +kernel
theorem dX9_back_32 : decode cX9_back 32 = .ok (.getfield 65, 3) := by decide +kernel
theorem dX9_back_35 : decode cX9_back 35 = .ok (.getfield 105, 3) := by decide +kernel
theorem dX9_back_38 : decode cX9_back 38 = .ok (.ireturn, 1) := by decide +kernel
theorem dX9_likely_0 : decode cX9_likely 0 = .ok (.iload_n 1, 1) := by decide +kernel
theorem dX9_likely_1 : decode cX9_likely 1 = .ok (.iconst 0, 1) := by decide +kernel
theorem dX9_likely_2 : decode cX9_likely 2 = .ok (.iconst 1, 1) := by decide +kernel
theorem dX9_likely_3 : decode cX9_likely 3 = .ok (.invokestatic 131, 3) := by decide +kernel
theorem dX9_likely_6 : decode cX9_likely 6 = .ok (.ifCond .ne 6, 3) := by decide +kernel
theorem dX9_likely_9 : decode cX9_likely 9 = .ok (.bipush (-2), 2) := by decide +kernel
theorem dX9_likely_11 : decode cX9_likely 11 = .ok (.ireturn, 1) := by decide +kernel
theorem dX9_likely_12 : decode cX9_likely 12 = .ok (.aload_n 0, 1) := by decide +kernel
theorem dX9_likely_13 : decode cX9_likely 13 = .ok (.invokevirtual 189, 3) := by decide +kernel
theorem dX9_likely_16 : decode cX9_likely 16 = .ok (.ifCond .eq 6, 3) := by decide +kernel
theorem dX9_likely_19 : decode cX9_likely 19 = .ok (.bipush (-3), 2) := by decide +kernel
theorem dX9_likely_21 : decode cX9_likely 21 = .ok (.ireturn, 1) := by decide +kernel
theorem dX9_likely_22 : decode cX9_likely 22 = .ok (.iload_n 1, 1) := by decide +kernel
theorem dX9_likely_23 : decode cX9_likely 23 = .ok (.ifCond .ne 11, 3) := by decide +kernel
theorem dX9_likely_26 : decode cX9_likely 26 = .ok (.aload_n 0, 1) := by decide +kernel
theorem dX9_likely_27 : decode cX9_likely 27 = .ok (.iconst 0, 1) := by decide +kernel
theorem dX9_likely_28 : decode cX9_likely 28 = .ok (.invokevirtual 236, 3) := by decide +kernel
theorem dX9_likely_31 : decode cX9_likely 31 = .ok (.goto 7, 3) := by decide +kernel
theorem dX9_likely_34 : decode cX9_likely 34 = .ok (.aload_n 0, 1) := by decide +kernel
theorem dX9_likely_35 : decode cX9_likely 35 = .ok (.invokevirtual 239, 3) := by decide +kernel
theorem dX9_likely_38 : decode cX9_likely 38 = .ok (.ireturn, 1) := by decide +kernel
theorem dX9_each_0 : decode cX9_each 0 = .ok (.aload_n 0, 1) := by decide +kernel
theorem dX9_each_1 : decode cX9_each 1 = .ok (.getfield 58, 3) := by decide +kernel
theorem dX9_each_4 : decode cX9_each 4 = .ok (.iload_n 1, 1) := by decide +kernel
theorem dX9_each_5 : decode cX9_each 5 = .ok (.invokevirtual 224, 3) := by decide +kernel
theorem dX9_each_8 : decode cX9_each 8 = .ok (.ifCond .ne 5, 3) := by decide +kernel
theorem dX9_each_11 : decode cX9_each 11 = .ok (.iconst (-1), 1) := by decide +kernel
theorem dX9_each_12 : decode cX9_each 12 = .ok (.ireturn, 1) := by decide +kernel
theorem dX9_each_13 : decode cX9_each 13 = .ok (.aload_n 0, 1) := by decide +kernel
theorem dX9_each_14 : decode cX9_each 14 = .ok (.invokevirtual 189, 3) := by decide +kernel
theorem dX9_each_17 : decode cX9_each 17 = .ok (.ifCond .eq 6, 3) := by decide +kernel
theorem dX9_each_20 : decode cX9_each 20 = .ok (.bipush (-3), 2) := by decide +kernel
theorem dX9_each_22 : decode cX9_each 22 = .ok (.ireturn, 1) := by decide +kernel
theorem dX9_each_23 : decode cX9_each 23 = .ok (.aload_n 0, 1) := by decide +kernel
theorem dX9_each_24 : decode cX9_each 24 = .ok (.iconst 1, 1) := by decide +kernel
theorem dX9_each_25 : decode cX9_each 25 = .ok (.iload_n 1, 1) := by decide +kernel
theorem dX9_each_26 : decode cX9_each 26 = .ok (.ishl, 1) := by decide +kernel
theorem dX9_each_27 : decode cX9_each 27 = .ok (.invokevirtual 236, 3) := by decide +kernel
theorem dX9_each_30 : decode cX9_each 30 = .ok (.ireturn, 1) := by decide +kernel
theorem dX9_act_0 : decode cX9_act 0 = .ok (.aload_n 0, 1) := by decide +kernel
theorem dX9_act_1 : decode cX9_act 1 = .ok (.getfield 21, 3) := by decide +kernel
theorem dX9_act_4 : decode cX9_act 4 = .ok (.iload_n 1, 1) := by decide +kernel
theorem dX9_act_5 : decode cX9_act 5 = .ok (.invokevirtual 107, 3) := by decide +kernel
theorem dX9_act_8 : decode cX9_act 8 = .ok (.ifCond .ne 5, 3) := by decide +kernel
theorem dX9_act_11 : decode cX9_act 11 = .ok (.iconst (-1), 1) := by decide +kernel
theorem dX9_act_12 : decode cX9_act 12 = .ok (.ireturn, 1) := by decide +kernel
theorem dX9_act_13 : decode cX9_act 13 = .ok (.iload_n 2, 1) := by decide +kernel
theorem dX9_act_14 : decode cX9_act 14 = .ok (.iconst 0, 1) := by decide +kernel
theorem dX9_act_15 : decode cX9_act 15 = .ok (.iconst 3, 1) := by decide +kernel
theorem dX9_act_16 : decode cX9_act 16 = .ok (.invokestatic 131, 3) := by decide +kernel
theorem dX9_act_19 : decode cX9_act 19 = .ok (.ifCond .ne 6, 3) := by decide +kernel
theorem dX9_act_22 : decode cX9_act 22 = .ok (.bipush (-2), 2) := by decide +kernel
theorem dX9_act_24 : decode cX9_act 24 = .ok (.ireturn, 1) := by decide +kernel
theorem dX9_act_25 : decode cX9_act 25 = .ok (.aload_n 0, 1) := by decide +kernel
theorem dX9_act_26 : decode cX9_act 26 = .ok (.getfield 21, 3) := by decide +kernel
theorem dX9_act_29 : decode cX9_act 29 = .ok (.iload_n 1, 1) := by decide +kernel
theorem dX9_act_30 : decode cX9_act 30 = .ok (.iload_n 2, 1) := by decide +kernel
theorem dX9_act_31 : decode cX9_act 31 = .ok (.invokevirtual 242, 3) := by decide +kernel
theorem dX9_act_34 : decode cX9_act 34 = .ok (.ifCond .eq 7, 3) := by decide +kernel
theorem dX9_act_37 : decode cX9_act 37 = .ok (.iconst 1, 1) := by decide +kernel
theorem dX9_act_38 : decode cX9_act 38 = .ok (.goto 4, 3) := by decide +kernel
theorem dX9_act_41 : decode cX9_act 41 = .ok (.iconst 0, 1) := by decide +kernel
theorem dX9_act_42 : decode cX9_act 42 = .ok (.ireturn, 1) := by decide +kernel
theorem dX9_mend_0 : decode cX9_mend 0 = .ok (.iload_n 1, 1) := by decide +kernel
theorem dX9_mend_1 : decode cX9_mend 1 = .ok (.iconst 0, 1) := by decide +kernel
theorem dX9_mend_2 : decode cX9_mend 2 = .ok (.sipush 9999, 3) := by decide +kernel
theorem dX9_mend_5 : decode cX9_mend 5 = .ok (.invokestatic 131, 3) := by decide +kernel
theorem dX9_mend_8 : decode cX9_mend 8 = .ok (.ifCond .ne 6, 3) := by decide +kernel
theorem dX9_mend_11 : decode cX9_mend 11 = .ok (.bipush (-2), 2) := by decide +kernel
theorem dX9_mend_13 : decode cX9_mend 13 = .ok (.ireturn, 1) := by decide +kernel
theorem dX9_mend_14 : decode cX9_mend 14 = .ok (.iload_n 2, 1) := by decide +kernel
theorem dX9_mend_15 : decode cX9_mend 15 = .ok (.bipush (-2), 2) := by decide +kernel
theorem dX9_mend_17 : decode cX9_mend 17 = .ok (.iconst 1, 1) := by decide +kernel
theorem dX9_mend_18 : decode cX9_mend 18 = .ok (.invokestatic 131, 3) := by decide +kernel
theorem dX9_mend_21 : decode cX9_mend 21 = .ok (.ifCond .ne 5, 3) := by decide +kernel
theorem dX9_mend_24 : decode cX9_mend 24 = .ok (.iconst (-1), 1) := by decide +kernel
theorem dX9_mend_25 : decode cX9_mend 25 = .ok (.ireturn, 1) := by decide +kernel
theorem dX9_mend_26 : decode cX9_mend 26 = .ok (.aload_n 0, 1) := by decide +kernel
theorem dX9_mend_27 : decode cX9_mend 27 = .ok (.invokevirtual 189, 3) := by decide +kernel
theorem dX9_mend_30 : decode cX9_mend 30 = .ok (.ifCond .eq 6, 3) := by decide +kernel
theorem dX9_mend_33 : decode cX9_mend 33 = .ok (.bipush (-3), 2) := by decide +kernel
theorem dX9_mend_35 : decode cX9_mend 35 = .ok (.ireturn, 1) := by decide +kernel
theorem dX9_mend_36 : decode cX9_mend 36 = .ok (.aload_n 0, 1) := by decide +kernel
theorem dX9_mend_37 : decode cX9_mend 37 = .ok (.iload_n 1, 1) := by decide +kernel
theorem dX9_mend_38 : decode cX9_mend 38 = .ok (.invokevirtual 246, 3) := by decide +kernel
theorem dX9_mend_41 : decode cX9_mend 41 = .ok (.iload_n 2, 1) := by decide +kernel
theorem dX9_mend_42 : decode cX9_mend 42 = .ok (.tableswitch 50 (-2) 0 #[26, 34, 42], 26) := by decide +kernel
theorem dX9_mend_68 : decode cX9_mend 68 = .ok (.aload_n 0, 1) := by decide +kernel
theorem dX9_mend_69 : decode cX9_mend 69 = .ok (.getfield 72, 3) := by decide +kernel
theorem dX9_mend_72 : decode cX9_mend 72 = .ok (.getfield 250, 3) := by decide +kernel
theorem dX9_mend_75 : decode cX9_mend 75 = .ok (.ireturn, 1) := by decide +kernel
theorem dX9_mend_76 : decode cX9_mend 76 = .ok (.aload_n 0, 1) := by decide +kernel
theorem dX9_mend_77 : decode cX9_mend 77 = .ok (.getfield 72, 3) := by decide +kernel
theorem dX9_mend_80 : decode cX9_mend 80 = .ok (.getfield 253, 3) := by decide +kernel
theorem dX9_mend_83 : decode cX9_mend 83 = .ok (.ireturn, 1) := by decide +kernel
theorem dX9_mend_84 : decode cX9_mend 84 = .ok (.aload_n 0, 1) := by decide +kernel
theorem dX9_mend_85 : decode cX9_mend 85 = .ok (.getfield 72, 3) := by decide +kernel
theorem dX9_mend_88 : decode cX9_mend 88 = .ok (.getfield 256, 3) := by decide +kernel
theorem dX9_mend_91 : decode cX9_mend 91 = .ok (.ireturn, 1) := by decide +kernel
theorem dX9_mend_92 : decode cX9_mend 92 = .ok (.aload_n 0, 1) := by decide +kernel
theorem dX9_mend_93 : decode cX9_mend 93 = .ok (.getfield 72, 3) := by decide +kernel
theorem dX9_mend_96 : decode cX9_mend 96 = .ok (.getfield 259, 3) := by decide +kernel
theorem dX9_mend_99 : decode cX9_mend 99 = .ok (.ireturn, 1) := by decide +kernel
theorem dX9_log_0 : decode cX9_log 0 = .ok (.aload_n 0, 1) := by decide +kernel
theorem dX9_log_1 : decode cX9_log 1 = .ok (.iload_n 1, 1) := by decide +kernel
theorem dX9_log_2 : decode cX9_log 2 = .ok (.iload_n 2, 1) := by decide +kernel
theorem dX9_log_3 : decode cX9_log 3 = .ok (.iload_n 3, 1) := by decide +kernel
theorem dX9_log_4 : decode cX9_log 4 = .ok (.iload 4, 2) := by decide +kernel
theorem dX9_log_6 : decode cX9_log 6 = .ok (.invokevirtual 90, 3) := by decide +kernel
theorem dX9_log_9 : decode cX9_log 9 = .ok (.istore 6, 2) := by decide +kernel
theorem dX9_log_11 : decode cX9_log 11 = .ok (.iload 6, 2) := by decide +kernel
theorem dX9_log_13 : decode cX9_log 13 = .ok (.ifCond .eq 6, 3) := by decide +kernel
theorem dX9_log_16 : decode cX9_log 16 = .ok (.iload 6, 2) := by decide +kernel
theorem dX9_log_18 : decode cX9_log 18 = .ok (.ireturn, 1) := by decide +kernel
theorem dX9_log_19 : decode cX9_log 19 = .ok (.aload_n 0, 1) := by decide +kernel
theorem dX9_log_20 : decode cX9_log 20 = .ok (.getfield 79, 3) := by decide +kernel
theorem dX9_log_23 : decode cX9_log 23 = .ok (.aload_n 0, 1) := by decide +kernel
theorem dX9_log_24 : decode cX9_log 24 = .ok (.getfield 12, 3) := by decide +kernel
theorem dX9_log_27 : decode cX9_log 27 = .ok (.iload_n 1, 1) := by decide +kernel
theorem dX9_log_28 : decode cX9_log 28 = .ok (.iload_n 3, 1) := by decide +kernel
theorem dX9_log_29 : decode cX9_log 29 = .ok (.iload 4, 2) := by decide +kernel
theorem dX9_log_31 : decode cX9_log 31 = .ok (.invokevirtual 262, 3) := by decide +kernel
theorem dX9_log_34 : decode cX9_log 34 = .ok (.ifCond .ne 6, 3) := by decide +kernel
theorem dX9_log_37 : decode cX9_log 37 = .ok (.bipush (-2), 2) := by decide +kernel
theorem dX9_log_39 : decode cX9_log 39 = .ok (.ireturn, 1) := by decide +kernel
theorem dX9_log_40 : decode cX9_log 40 = .ok (.iload 5, 2) := by decide +kernel
theorem dX9_log_42 : decode cX9_log 42 = .ok (.iconst (-1), 1) := by decide +kernel
theorem dX9_log_43 : decode cX9_log 43 = .ok (.iconst 5, 1) := by decide +kernel
theorem dX9_log_44 : decode cX9_log 44 = .ok (.invokestatic 131, 3) := by decide +kernel
theorem dX9_log_47 : decode cX9_log 47 = .ok (.ifCond .ne 5, 3) := by decide +kernel
theorem dX9_log_50 : decode cX9_log 50 = .ok (.iconst (-1), 1) := by decide +kernel
theorem dX9_log_51 : decode cX9_log 51 = .ok (.ireturn, 1) := by decide +kernel
theorem dX9_log_52 : decode cX9_log 52 = .ok (.aload_n 0, 1) := by decide +kernel
theorem dX9_log_53 : decode cX9_log 53 = .ok (.getfield 79, 3) := by decide +kernel
theorem dX9_log_56 : decode cX9_log 56 = .ok (.invokevirtual 265, 3) := by decide +kernel
theorem dX9_log_59 : decode cX9_log 59 = .ok (.iload 5, 2) := by decide +kernel
theorem dX9_log_61 : decode cX9_log 61 = .ok (.iconst (-1), 1) := by decide +kernel
theorem dX9_log_62 : decode cX9_log 62 = .ok (.if_icmp .ne 13, 3) := by decide +kernel
theorem dX9_log_65 : decode cX9_log 65 = .ok (.aload_n 0, 1) := by decide +kernel
theorem dX9_log_66 : decode cX9_log 66 = .ok (.getfield 79, 3) := by decide +kernel
theorem dX9_log_69 : decode cX9_log 69 = .ok (.invokevirtual 268, 3) := by decide +kernel
theorem dX9_log_72 : decode cX9_log 72 = .ok (.goto 12, 3) := by decide +kernel
theorem dX9_log_75 : decode cX9_log 75 = .ok (.aload_n 0, 1) := by decide +kernel
theorem dX9_log_76 : decode cX9_log 76 = .ok (.getfield 79, 3) := by decide +kernel
theorem dX9_log_79 : decode cX9_log 79 = .ok (.iload 5, 2) := by decide +kernel
theorem dX9_log_81 : decode cX9_log 81 = .ok (.invokevirtual 271, 3) := by decide +kernel
theorem dX9_log_84 : decode cX9_log 84 = .ok (.ireturn, 1) := by decide +kernel
theorem dX9_sheet_0 : decode cX9_sheet 0 = .ok (.aload_n 0, 1) := by decide +kernel
theorem dX9_sheet_1 : decode cX9_sheet 1 = .ok (.iconst 0, 1) := by decide +kernel
theorem dX9_sheet_2 : decode cX9_sheet 2 = .ok (.putfield 87, 3) := by decide +kernel
theorem dX9_sheet_5 : decode cX9_sheet 5 = .ok (.iload_n 1, 1) := by decide +kernel
theorem dX9_sheet_6 : decode cX9_sheet 6 = .ok (.invokestatic 274, 3) := by decide +kernel
theorem dX9_sheet_9 : decode cX9_sheet 9 = .ok (.ifCond .ne 5, 3) := by decide +kernel
theorem dX9_sheet_12 : decode cX9_sheet 12 = .ok (.iconst (-1), 1) := by decide +kernel
theorem dX9_sheet_13 : decode cX9_sheet 13 = .ok (.ireturn, 1) := by decide +kernel
theorem dX9_sheet_14 : decode cX9_sheet 14 = .ok (.iload_n 2, 1) := by decide +kernel
theorem dX9_sheet_15 : decode cX9_sheet 15 = .ok (.invokestatic 277, 3) := by decide +kernel
theorem dX9_sheet_18 : decode cX9_sheet 18 = .ok (.ifCond .eq 9, 3) := by decide +kernel
theorem dX9_sheet_21 : decode cX9_sheet 21 = .ok (.iload_n 3, 1) := by decide +kernel
theorem dX9_sheet_22 : decode cX9_sheet 22 = .ok (.bipush 80, 2) := by decide +kernel
theorem dX9_sheet_24 : decode cX9_sheet 24 = .ok (.if_icmp .le 6, 3) := by decide +kernel
theorem dX9_sheet_27 : decode cX9_sheet 27 = .ok (.bipush (-2), 2) := by decide +kernel
theorem dX9_sheet_29 : decode cX9_sheet 29 = .ok (.ireturn, 1) := by decide +kernel
theorem dX9_sheet_30 : decode cX9_sheet 30 = .ok (.iload_n 3, 1) := by decide +kernel
theorem dX9_sheet_31 : decode cX9_sheet 31 = .ok (.ifCond .ge 9, 3) := by decide +kernel
theorem dX9_sheet_34 : decode cX9_sheet 34 = .ok (.aload_n 0, 1) := by decide +kernel
theorem dX9_sheet_35 : decode cX9_sheet 35 = .ok (.iconst 4, 1) := by decide +kernel
theorem dX9_sheet_36 : decode cX9_sheet 36 = .ok (.invokevirtual 280, 3) := by decide +kernel
theorem dX9_sheet_39 : decode cX9_sheet 39 = .ok (.ireturn, 1) := by decide +kernel
theorem dX9_sheet_40 : decode cX9_sheet 40 = .ok (.aload_n 0, 1) := by decide +kernel
theorem dX9_sheet_41 : decode cX9_sheet 41 = .ok (.getfield 12, 3) := by decide +kernel
theorem dX9_sheet_44 : decode cX9_sheet 44 = .ok (.iload_n 1, 1) := by decide +kernel
theorem dX9_sheet_45 : decode cX9_sheet 45 = .ok (.iload_n 2, 1) := by decide +kernel
theorem dX9_sheet_46 : decode cX9_sheet 46 = .ok (.iload_n 3, 1) := by decide +kernel
theorem dX9_sheet_47 : decode cX9_sheet 47 = .ok (.invokevirtual 283, 3) := by decide +kernel
theorem dX9_sheet_50 : decode cX9_sheet 50 = .ok (.iconst 1, 1) := by decide +kernel
theorem dX9_sheet_51 : decode cX9_sheet 51 = .ok (.ireturn, 1) := by decide +kernel
theorem dX9_lose_0 : decode cX9_lose 0 = .ok (.iload_n 1, 1) := by decide +kernel
theorem dX9_lose_1 : decode cX9_lose 1 = .ok (.invokestatic 274, 3) := by decide +kernel
theorem dX9_lose_4 : decode cX9_lose 4 = .ok (.ifCond .ne 5, 3) := by decide +kernel
theorem dX9_lose_7 : decode cX9_lose 7 = .ok (.iconst (-1), 1) := by decide +kernel
theorem dX9_lose_8 : decode cX9_lose 8 = .ok (.ireturn, 1) := by decide +kernel
theorem dX9_lose_9 : decode cX9_lose 9 = .ok (.aload_n 0, 1) := by decide +kernel
theorem dX9_lose_10 : decode cX9_lose 10 = .ok (.getfield 12, 3) := by decide +kernel
theorem dX9_lose_13 : decode cX9_lose 13 = .ok (.iload_n 1, 1) := by decide +kernel
theorem dX9_lose_14 : decode cX9_lose 14 = .ok (.invokevirtual 286, 3) := by decide +kernel
theorem dX9_lose_17 : decode cX9_lose 17 = .ok (.ifCond .eq 7, 3) := by decide +kernel
theorem dX9_lose_20 : decode cX9_lose 20 = .ok (.iconst 1, 1) := by decide +kernel
theorem dX9_lose_21 : decode cX9_lose 21 = .ok (.goto 4, 3) := by decide +kernel
theorem dX9_lose_24 : decode cX9_lose 24 = .ok (.iconst 0, 1) := by decide +kernel
theorem dX9_lose_25 : decode cX9_lose 25 = .ok (.ireturn, 1) := by decide +kernel
theorem dX9_put_0 : decode cX9_put 0 = .ok (.aload_n 0, 1) := by decide +kernel
theorem dX9_put_1 : decode cX9_put 1 = .ok (.iconst 0, 1) := by decide +kernel
theorem dX9_put_2 : decode cX9_put 2 = .ok (.putfield 87, 3) := by decide +kernel
theorem dX9_put_5 : decode cX9_put 5 = .ok (.iload_n 1, 1) := by decide +kernel
theorem dX9_put_6 : decode cX9_put 6 = .ok (.invokestatic 274, 3) := by decide +kernel
theorem dX9_put_9 : decode cX9_put 9 = .ok (.ifCond .ne 5, 3) := by decide +kernel
theorem dX9_put_12 : decode cX9_put 12 = .ok (.iconst (-1), 1) := by decide +kernel
theorem dX9_put_13 : decode cX9_put 13 = .ok (.ireturn, 1) := by decide +kernel
theorem dX9_put_14 : decode cX9_put 14 = .ok (.aload_n 0, 1) := by decide +kernel
theorem dX9_put_15 : decode cX9_put 15 = .ok (.getfield 12, 3) := by decide +kernel
theorem dX9_put_18 : decode cX9_put 18 = .ok (.iload_n 1, 1) := by decide +kernel
theorem dX9_put_19 : decode cX9_put 19 = .ok (.invokevirtual 289, 3) := by decide +kernel
theorem dX9_put_22 : decode cX9_put 22 = .ok (.ifCond .eq 9, 3) := by decide +kernel
theorem dX9_put_25 : decode cX9_put 25 = .ok (.aload_n 0, 1) := by decide +kernel
theorem dX9_put_26 : decode cX9_put 26 = .ok (.iconst 1, 1) := by decide +kernel
theorem dX9_put_27 : decode cX9_put 27 = .ok (.invokevirtual 280, 3) := by decide +kernel
theorem dX9_put_30 : decode cX9_put 30 = .ok (.ireturn, 1) := by decide +kernel
theorem dX9_put_31 : decode cX9_put 31 = .ok (.aload_n 0, 1) := by decide +kernel
theorem dX9_put_32 : decode cX9_put 32 = .ok (.getfield 12, 3) := by decide +kernel
theorem dX9_put_35 : decode cX9_put 35 = .ok (.iload_n 1, 1) := by decide +kernel
theorem dX9_put_36 : decode cX9_put 36 = .ok (.iload_n 2, 1) := by decide +kernel
theorem dX9_put_37 : decode cX9_put 37 = .ok (.invokevirtual 292, 3) := by decide +kernel
theorem dX9_put_40 : decode cX9_put 40 = .ok (.ifCond .ne 9, 3) := by decide +kernel
theorem dX9_put_43 : decode cX9_put 43 = .ok (.aload_n 0, 1) := by decide +kernel
theorem dX9_put_44 : decode cX9_put 44 = .ok (.iconst 3, 1) := by decide +kernel
theorem dX9_put_45 : decode cX9_put 45 = .ok (.invokevirtual 280, 3) := by decide +kernel
theorem dX9_put_48 : decode cX9_put 48 = .ok (.ireturn, 1) := by decide +kernel
theorem dX9_put_49 : decode cX9_put 49 = .ok (.aload_n 0, 1) := by decide +kernel
theorem dX9_put_50 : decode cX9_put 50 = .ok (.getfield 12, 3) := by decide +kernel
theorem dX9_put_53 : decode cX9_put 53 = .ok (.iload_n 1, 1) := by decide +kernel
theorem dX9_put_54 : decode cX9_put 54 = .ok (.iload_n 2, 1) := by decide +kernel
theorem dX9_put_55 : decode cX9_put 55 = .ok (.iload_n 3, 1) := by decide +kernel
theorem dX9_put_56 : decode cX9_put 56 = .ok (.invokevirtual 295, 3) := by decide +kernel
theorem dX9_put_59 : decode cX9_put 59 = .ok (.iconst 1, 1) := by decide +kernel
theorem dX9_put_60 : decode cX9_put 60 = .ok (.ireturn, 1) := by decide +kernel
theorem dX9_cell_0 : decode cX9_cell 0 = .ok (.aload_n 0, 1) := by decide +kernel
theorem dX9_cell_1 : decode cX9_cell 1 = .ok (.iconst 0, 1) := by decide +kernel
theorem dX9_cell_2 : decode cX9_cell 2 = .ok (.putfield 87, 3) := by decide +kernel
theorem dX9_cell_5 : decode cX9_cell 5 = .ok (.iload_n 1, 1) := by decide +kernel
theorem dX9_cell_6 : decode cX9_cell 6 = .ok (.invokestatic 274, 3) := by decide +kernel
theorem dX9_cell_9 : decode cX9_cell 9 = .ok (.ifCond .eq 10, 3) := by decide +kernel
theorem dX9_cell_12 : decode cX9_cell 12 = .ok (.iload_n 3, 1) := by decide +kernel
theorem dX9_cell_13 : decode cX9_cell 13 = .ok (.invokestatic 277, 3) := by decide +kernel
theorem dX9_cell_16 : decode cX9_cell 16 = .ok (.ifCond .ne 7, 3) := by decide +kernel
theorem dX9_cell_19 : decode cX9_cell 19 = .ok (.ldc2_w 184, 3) := by decide +kernel
theorem dX9_cell_22 : decode cX9_cell 22 = .ok (.lreturn, 1) := by decide +kernel
theorem dX9_cell_23 : decode cX9_cell 23 = .ok (.aload_n 0, 1) := by decide +kernel
theorem dX9_cell_24 : decode cX9_cell 24 = .ok (.aload_n 0, 1) := by decide +kernel
theorem dX9_cell_25 : decode cX9_cell 25 = .ok (.getfield 12, 3) := by decide +kernel
theorem dX9_cell_28 : decode cX9_cell 28 = .ok (.iload_n 1, 1) := by decide +kernel
theorem dX9_cell_29 : decode cX9_cell 29 = .ok (.iload_n 3, 1) := by decide +kernel
theorem dX9_cell_30 : decode cX9_cell 30 = .ok (.invokevirtual 298, 3) := by decide +kernel
theorem dX9_cell_33 : decode cX9_cell 33 = .ok (.putfield 87, 3) := by decide +kernel
theorem dX9_cell_36 : decode cX9_cell 36 = .ok (.aload_n 0, 1) := by decide +kernel
theorem dX9_cell_37 : decode cX9_cell 37 = .ok (.getfield 87, 3) := by decide +kernel
theorem dX9_cell_40 : decode cX9_cell 40 = .ok (.ifCond .ne 20, 3) := by decide +kernel
theorem dX9_cell_43 : decode cX9_cell 43 = .ok (.aload_n 0, 1) := by decide +kernel
theorem dX9_cell_44 : decode cX9_cell 44 = .ok (.getfield 12, 3) := by decide +kernel
theorem dX9_cell_47 : decode cX9_cell 47 = .ok (.iload_n 1, 1) := by decide +kernel
theorem dX9_cell_48 : decode cX9_cell 48 = .ok (.iload_n 2, 1) := by decide +kernel
theorem dX9_cell_49 : decode cX9_cell 49 = .ok (.invokevirtual 292, 3) := by decide +kernel
theorem dX9_cell_52 : decode cX9_cell 52 = .ok (.ifCond .ne 8, 3) := by decide +kernel
theorem dX9_cell_55 : decode cX9_cell 55 = .ok (.aload_n 0, 1) := by decide +kernel
theorem dX9_cell_56 : decode cX9_cell 56 = .ok (.iconst 3, 1) := by decide +kernel
theorem dX9_cell_57 : decode cX9_cell 57 = .ok (.putfield 87, 3) := by decide +kernel
theorem dX9_cell_60 : decode cX9_cell 60 = .ok (.aload_n 0, 1) := by decide +kernel
theorem dX9_cell_61 : decode cX9_cell 61 = .ok (.getfield 87, 3) := by decide +kernel
theorem dX9_cell_64 : decode cX9_cell 64 = .ok (.ifCond .ne 16, 3) := by decide +kernel
theorem dX9_cell_67 : decode cX9_cell 67 = .ok (.aload_n 0, 1) := by decide +kernel
theorem dX9_cell_68 : decode cX9_cell 68 = .ok (.getfield 12, 3) := by decide +kernel
theorem dX9_cell_71 : decode cX9_cell 71 = .ok (.iload_n 1, 1) := by decide +kernel
theorem dX9_cell_72 : decode cX9_cell 72 = .ok (.iload_n 2, 1) := by decide +kernel
theorem dX9_cell_73 : decode cX9_cell 73 = .ok (.invokevirtual 301, 3) := by decide +kernel
theorem dX9_cell_76 : decode cX9_cell 76 = .ok (.i2l, 1) := by decide +kernel
theorem dX9_cell_77 : decode cX9_cell 77 = .ok (.goto 6, 3) := by decide +kernel
theorem dX9_cell_80 : decode cX9_cell 80 = .ok (.ldc2_w 184, 3) := by decide +kernel
theorem dX9_cell_83 : decode cX9_cell 83 = .ok (.lreturn, 1) := by decide +kernel
theorem dX9_copy_0 : decode cX9_copy 0 = .ok (.aload_n 0, 1) := by decide +kernel
theorem dX9_copy_1 : decode cX9_copy 1 = .ok (.iconst 0, 1) := by decide +kernel
theorem dX9_copy_2 : decode cX9_copy 2 = .ok (.putfield 87, 3) := by decide +kernel
theorem dX9_copy_5 : decode cX9_copy 5 = .ok (.iload_n 1, 1) := by decide +kernel
theorem dX9_copy_6 : decode cX9_copy 6 = .ok (.invokestatic 274, 3) := by decide +kernel
theorem dX9_copy_9 : decode cX9_copy 9 = .ok (.ifCond .eq 10, 3) := by decide +kernel
theorem dX9_copy_12 : decode cX9_copy 12 = .ok (.iload_n 3, 1) := by decide +kernel
theorem dX9_copy_13 : decode cX9_copy 13 = .ok (.invokestatic 274, 3) := by decide +kernel
theorem dX9_copy_16 : decode cX9_copy 16 = .ok (.ifCond .ne 5, 3) := by decide +kernel
theorem dX9_copy_19 : decode cX9_copy 19 = .ok (.iconst (-1), 1) := by decide +kernel
theorem dX9_copy_20 : decode cX9_copy 20 = .ok (.ireturn, 1) := by decide +kernel
theorem dX9_copy_21 : decode cX9_copy 21 = .ok (.aload_n 0, 1) := by decide +kernel
theorem dX9_copy_22 : decode cX9_copy 22 = .ok (.getfield 12, 3) := by decide +kernel
theorem dX9_copy_25 : decode cX9_copy 25 = .ok (.iload_n 1, 1) := by decide +kernel
theorem dX9_copy_26 : decode cX9_copy 26 = .ok (.invokevirtual 289, 3) := by decide +kernel
theorem dX9_copy_29 : decode cX9_copy 29 = .ok (.ifCond .ne 14, 3) := by decide +kernel
theorem dX9_copy_32 : decode cX9_copy 32 = .ok (.aload_n 0, 1) := by decide +kernel
theorem dX9_copy_33 : decode cX9_copy 33 = .ok (.getfield 12, 3) := by decide +kernel
theorem dX9_copy_36 : decode cX9_copy 36 = .ok (.iload_n 3, 1) := by decide +kernel
theorem dX9_copy_37 : decode cX9_copy 37 = .ok (.invokevirtual 289, 3) := by decide +kernel
theorem dX9_copy_40 : decode cX9_copy 40 = .ok (.ifCond .eq 9, 3) := by decide +kernel
theorem dX9_copy_43 : decode cX9_copy 43 = .ok (.aload_n 0, 1) := by decide +kernel
theorem dX9_copy_44 : decode cX9_copy 44 = .ok (.iconst 1, 1) := by decide +kernel
theorem dX9_copy_45 : decode cX9_copy 45 = .ok (.invokevirtual 280, 3) := by decide +kernel
theorem dX9_copy_48 : decode cX9_copy 48 = .ok (.ireturn, 1) := by decide +kernel
theorem dX9_copy_49 : decode cX9_copy 49 = .ok (.aload_n 0, 1) := by decide +kernel
theorem dX9_copy_50 : decode cX9_copy 50 = .ok (.getfield 12, 3) := by decide +kernel
theorem dX9_copy_53 : decode cX9_copy 53 = .ok (.iload_n 1, 1) := by decide +kernel
theorem dX9_copy_54 : decode cX9_copy 54 = .ok (.iload_n 3, 1) := by decide +kernel
theorem dX9_copy_55 : decode cX9_copy 55 = .ok (.invokevirtual 304, 3) := by decide +kernel
theorem dX9_copy_58 : decode cX9_copy 58 = .ok (.ifCond .ne 9, 3) := by decide +kernel
theorem dX9_copy_61 : decode cX9_copy 61 = .ok (.aload_n 0, 1) := by decide +kernel
theorem dX9_copy_62 : decode cX9_copy 62 = .ok (.iconst 2, 1) := by decide +kernel
theorem dX9_copy_63 : decode cX9_copy 63 = .ok (.invokevirtual 280, 3) := by decide +kernel
theorem dX9_copy_66 : decode cX9_copy 66 = .ok (.ireturn, 1) := by decide +kernel
theorem dX9_copy_67 : decode cX9_copy 67 = .ok (.aload_n 0, 1) := by decide +kernel
theorem dX9_copy_68 : decode cX9_copy 68 = .ok (.getfield 12, 3) := by decide +kernel
theorem dX9_copy_71 : decode cX9_copy 71 = .ok (.iload_n 1, 1) := by decide +kernel
theorem dX9_copy_72 : decode cX9_copy 72 = .ok (.iload_n 2, 1) := by decide +kernel
theorem dX9_copy_73 : decode cX9_copy 73 = .ok (.iload 5, 2) := by decide +kernel
theorem dX9_copy_75 : decode cX9_copy 75 = .ok (.invokevirtual 307, 3) := by decide +kernel
theorem dX9_copy_78 : decode cX9_copy 78 = .ok (.ifCond .eq 18, 3) := by decide +kernel
theorem dX9_copy_81 : decode cX9_copy 81 = .ok (.aload_n 0, 1) := by decide +kernel
theorem dX9_copy_82 : decode cX9_copy 82 = .ok (.getfield 12, 3) := by decide +kernel
theorem dX9_copy_85 : decode cX9_copy 85 = .ok (.iload_n 3, 1) := by decide +kernel
theorem dX9_copy_86 : decode cX9_copy 86 = .ok (.iload 4, 2) := by decide +kernel
theorem dX9_copy_88 : decode cX9_copy 88 = .ok (.iload 5, 2) := by decide +kernel
theorem dX9_copy_90 : decode cX9_copy 90 = .ok (.invokevirtual 307, 3) := by decide +kernel
theorem dX9_copy_93 : decode cX9_copy 93 = .ok (.ifCond .ne 9, 3) := by decide +kernel
theorem dX9_copy_96 : decode cX9_copy 96 = .ok (.aload_n 0, 1) := by decide +kernel
theorem dX9_copy_97 : decode cX9_copy 97 = .ok (.iconst 3, 1) := by decide +kernel
theorem dX9_copy_98 : decode cX9_copy 98 = .ok (.invokevirtual 280, 3) := by decide +kernel
theorem dX9_copy_101 : decode cX9_copy 101 = .ok (.ireturn, 1) := by decide +kernel
theorem dX9_copy_102 : decode cX9_copy 102 = .ok (.aload_n 0, 1) := by decide +kernel
theorem dX9_copy_103 : decode cX9_copy 103 = .ok (.getfield 12, 3) := by decide +kernel
theorem dX9_copy_106 : decode cX9_copy 106 = .ok (.iload_n 1, 1) := by decide +kernel
theorem dX9_copy_107 : decode cX9_copy 107 = .ok (.iload_n 2, 1) := by decide +kernel
theorem dX9_copy_108 : decode cX9_copy 108 = .ok (.iload_n 3, 1) := by decide +kernel
theorem dX9_copy_109 : decode cX9_copy 109 = .ok (.iload 4, 2) := by decide +kernel
theorem dX9_copy_111 : decode cX9_copy 111 = .ok (.iload 5, 2) := by decide +kernel
theorem dX9_copy_113 : decode cX9_copy 113 = .ok (.invokevirtual 310, 3) := by decide +kernel
theorem dX9_copy_116 : decode cX9_copy 116 = .ok (.iload 5, 2) := by decide +kernel
theorem dX9_copy_118 : decode cX9_copy 118 = .ok (.ireturn, 1) := by decide +kernel
theorem dX9_tell_0 : decode cX9_tell 0 = .ok (.aload_n 0, 1) := by decide +kernel
theorem dX9_tell_1 : decode cX9_tell 1 = .ok (.getfield 21, 3) := by decide +kernel
theorem dX9_tell_4 : decode cX9_tell 4 = .ok (.iload_n 1, 1) := by decide +kernel
theorem dX9_tell_5 : decode cX9_tell 5 = .ok (.invokevirtual 107, 3) := by decide +kernel
theorem dX9_tell_8 : decode cX9_tell 8 = .ok (.ifCond .ne 5, 3) := by decide +kernel
theorem dX9_tell_11 : decode cX9_tell 11 = .ok (.iconst (-1), 1) := by decide +kernel
theorem dX9_tell_12 : decode cX9_tell 12 = .ok (.ireturn, 1) := by decide +kernel
theorem dX9_tell_13 : decode cX9_tell 13 = .ok (.aload_n 0, 1) := by decide +kernel
theorem dX9_tell_14 : decode cX9_tell 14 = .ok (.getfield 21, 3) := by decide +kernel
theorem dX9_tell_17 : decode cX9_tell 17 = .ok (.iload_n 1, 1) := by decide +kernel
theorem dX9_tell_18 : decode cX9_tell 18 = .ok (.invokevirtual 111, 3) := by decide +kernel
theorem dX9_tell_21 : decode cX9_tell 21 = .ok (.lookupswitch 39 #[(1, 33), (2, 27)], 27) := by decide +kernel
theorem dX9_tell_48 : decode cX9_tell 48 = .ok (.aload_n 0, 1) := by decide +kernel
theorem dX9_tell_49 : decode cX9_tell 49 = .ok (.iload_n 1, 1) := by decide +kernel
theorem dX9_tell_50 : decode cX9_tell 50 = .ok (.invokevirtual 314, 3) := by decide +kernel
theorem dX9_tell_53 : decode cX9_tell 53 = .ok (.ireturn, 1) := by decide +kernel
theorem dX9_tell_54 : decode cX9_tell 54 = .ok (.aload_n 0, 1) := by decide +kernel
theorem dX9_tell_55 : decode cX9_tell 55 = .ok (.iload_n 1, 1) := by decide +kernel
theorem dX9_tell_56 : decode cX9_tell 56 = .ok (.invokevirtual 317, 3) := by decide +kernel
theorem dX9_tell_59 : decode cX9_tell 59 = .ok (.ireturn, 1) := by decide +kernel
theorem dX9_tell_60 : decode cX9_tell 60 = .ok (.aload_n 0, 1) := by decide +kernel
theorem dX9_tell_61 : decode cX9_tell 61 = .ok (.iload_n 1, 1) := by decide +kernel
theorem dX9_tell_62 : decode cX9_tell 62 = .ok (.invokevirtual 320, 3) := by decide +kernel
theorem dX9_tell_65 : decode cX9_tell 65 = .ok (.ireturn, 1) := by decide +kernel
theorem dX9_joint_0 : decode cX9_joint 0 = .ok (.aload_n 0, 1) := by decide +kernel
theorem dX9_joint_1 : decode cX9_joint 1 = .ok (.getfield 21, 3) := by decide +kernel
theorem dX9_joint_4 : decode cX9_joint 4 = .ok (.iload_n 1, 1) := by decide +kernel
theorem dX9_joint_5 : decode cX9_joint 5 = .ok (.invokevirtual 107, 3) := by decide +kernel
theorem dX9_joint_8 : decode cX9_joint 8 = .ok (.ifCond .ne 5, 3) := by decide +kernel
theorem dX9_joint_11 : decode cX9_joint 11 = .ok (.iconst (-1), 1) := by decide +kernel
theorem dX9_joint_12 : decode cX9_joint 12 = .ok (.ireturn, 1) := by decide +kernel
theorem dX9_joint_13 : decode cX9_joint 13 = .ok (.aload_n 0, 1) := by decide +kernel
theorem dX9_joint_14 : decode cX9_joint 14 = .ok (.getfield 21, 3) := by decide +kernel
theorem dX9_joint_17 : decode cX9_joint 17 = .ok (.iload_n 1, 1) := by decide +kernel
theorem dX9_joint_18 : decode cX9_joint 18 = .ok (.invokevirtual 111, 3) := by decide +kernel
theorem dX9_joint_21 : decode cX9_joint 21 = .ok (.iconst 2, 1) := by decide +kernel
theorem dX9_joint_22 : decode cX9_joint 22 = .ok (.if_icmp .ne 11, 3) := by decide +kernel
theorem dX9_joint_25 : decode cX9_joint 25 = .ok (.aload_n 0, 1) := by decide +kernel
theorem dX9_joint_26 : decode cX9_joint 26 = .ok (.iconst 5, 1) := by decide +kernel
theorem dX9_joint_27 : decode cX9_joint 27 = .ok (.invokevirtual 323, 3) := by decide +kernel
theorem dX9_joint_30 : decode cX9_joint 30 = .ok (.bipush 70, 2) := by decide +kernel
theorem dX9_joint_32 : decode cX9_joint 32 = .ok (.ireturn, 1) := by decide +kernel
theorem dX9_joint_33 : decode cX9_joint 33 = .ok (.aload_n 0, 1) := by decide +kernel
theorem dX9_joint_34 : decode cX9_joint 34 = .ok (.iconst 4, 1) := by decide +kernel
theorem dX9_joint_35 : decode cX9_joint 35 = .ok (.invokevirtual 323, 3) := by decide +kernel
theorem dX9_joint_38 : decode cX9_joint 38 = .ok (.iload_n 1, 1) := by decide +kernel
theorem dX9_joint_39 : decode cX9_joint 39 = .ok (.ireturn, 1) := by decide +kernel
theorem dX9_as_0 : decode cX9_as 0 = .ok (.aload_n 0, 1) := by decide +kernel
theorem dX9_as_1 : decode cX9_as 1 = .ok (.iconst 0, 1) := by decide +kernel
theorem dX9_as_2 : decode cX9_as 2 = .ok (.putfield 87, 3) := by decide +kernel
theorem dX9_as_5 : decode cX9_as 5 = .ok (.aload_n 0, 1) := by decide +kernel
theorem dX9_as_6 : decode cX9_as 6 = .ok (.getfield 21, 3) := by decide +kernel
theorem dX9_as_9 : decode cX9_as 9 = .ok (.iload_n 1, 1) := by decide +kernel
theorem dX9_as_10 : decode cX9_as 10 = .ok (.invokevirtual 107, 3) := by decide +kernel
theorem dX9_as_13 : decode cX9_as 13 = .ok (.ifCond .ne 5, 3) := by decide +kernel
theorem dX9_as_16 : decode cX9_as 16 = .ok (.iconst (-1), 1) := by decide +kernel
theorem dX9_as_17 : decode cX9_as 17 = .ok (.ireturn, 1) := by decide +kernel
theorem dX9_as_18 : decode cX9_as 18 = .ok (.iload_n 2, 1) := by decide +kernel
theorem dX9_as_19 : decode cX9_as 19 = .ok (.iconst 0, 1) := by decide +kernel
theorem dX9_as_20 : decode cX9_as 20 = .ok (.iconst 2, 1) := by decide +kernel
theorem dX9_as_21 : decode cX9_as 21 = .ok (.invokestatic 131, 3) := by decide +kernel
theorem dX9_as_24 : decode cX9_as 24 = .ok (.ifCond .ne 6, 3) := by decide +kernel
theorem dX9_as_27 : decode cX9_as 27 = .ok (.bipush (-2), 2) := by decide +kernel
theorem dX9_as_29 : decode cX9_as 29 = .ok (.ireturn, 1) := by decide +kernel
theorem dX9_as_30 : decode cX9_as 30 = .ok (.aload_n 0, 1) := by decide +kernel
theorem dX9_as_31 : decode cX9_as 31 = .ok (.getfield 21, 3) := by decide +kernel
theorem dX9_as_34 : decode cX9_as 34 = .ok (.iload_n 1, 1) := by decide +kernel
theorem dX9_as_35 : decode cX9_as 35 = .ok (.invokevirtual 111, 3) := by decide +kernel
theorem dX9_as_38 : decode cX9_as 38 = .ok (.iload_n 2, 1) := by decide +kernel
theorem dX9_as_39 : decode cX9_as 39 = .ok (.if_icmp .lt 7, 3) := by decide +kernel
theorem dX9_as_42 : decode cX9_as 42 = .ok (.iconst 1, 1) := by decide +kernel
theorem dX9_as_43 : decode cX9_as 43 = .ok (.goto 8, 3) := by decide +kernel
theorem dX9_as_46 : decode cX9_as 46 = .ok (.aload_n 0, 1) := by decide +kernel
theorem dX9_as_47 : decode cX9_as 47 = .ok (.iconst 2, 1) := by decide +kernel
theorem dX9_as_48 : decode cX9_as 48 = .ok (.invokevirtual 280, 3) := by decide +kernel
theorem dX9_as_51 : decode cX9_as 51 = .ok (.ireturn, 1) := by decide +kernel
theorem dX9_trace_0 : decode cX9_trace 0 = .ok (.aload_n 0, 1) := by decide +kernel
theorem dX9_trace_1 : decode cX9_trace 1 = .ok (.getfield 83, 3) := by decide +kernel
theorem dX9_trace_4 : decode cX9_trace 4 = .ok (.ireturn, 1) := by decide +kernel
theorem dX9_fault_0 : decode cX9_fault 0 = .ok (.aload_n 0, 1) := by decide +kernel
theorem dX9_fault_1 : decode cX9_fault 1 = .ok (.getfield 87, 3) := by decide +kernel
theorem dX9_fault_4 : decode cX9_fault 4 = .ok (.ireturn, 1) := by decide +kernel
theorem dX9_many_0 : decode cX9_many 0 = .ok (.iload_n 1, 1) := by decide +kernel
theorem dX9_many_1 : decode cX9_many 1 = .ok (.tableswitch 72 0 4 #[35, 43, 51, 59, 67], 35) := by decide +kernel
theorem dX9_many_36 : decode cX9_many 36 = .ok (.aload_n 0, 1) := by decide +kernel
theorem dX9_many_37 : decode cX9_many 37 = .ok (.getfield 21, 3) := by decide +kernel
theorem dX9_many_40 : decode cX9_many 40 = .ok (.getfield 106, 3) := by decide +kernel
theorem dX9_many_43 : decode cX9_many 43 = .ok (.ireturn, 1) := by decide +kernel
theorem dX9_many_44 : decode cX9_many 44 = .ok (.aload_n 0, 1) := by decide +kernel
theorem dX9_many_45 : decode cX9_many 45 = .ok (.getfield 34, 3) := by decide +kernel
theorem dX9_many_48 : decode cX9_many 48 = .ok (.getfield 155, 3) := by decide +kernel
theorem dX9_many_51 : decode cX9_many 51 = .ok (.ireturn, 1) := by decide +kernel
theorem dX9_many_52 : decode cX9_many 52 = .ok (.aload_n 0, 1) := by decide +kernel
theorem dX9_many_53 : decode cX9_many 53 = .ok (.getfield 58, 3) := by decide +kernel
theorem dX9_many_56 : decode cX9_many 56 = .ok (.getfield 102, 3) := by decide +kernel
theorem dX9_many_59 : decode cX9_many 59 = .ok (.ireturn, 1) := by decide +kernel
theorem dX9_many_60 : decode cX9_many 60 = .ok (.aload_n 0, 1) := by decide +kernel
theorem dX9_many_61 : decode cX9_many 61 = .ok (.getfield 65, 3) := by decide +kernel
theorem dX9_many_64 : decode cX9_many 64 = .ok (.getfield 105, 3) := by decide +kernel
theorem dX9_many_67 : decode cX9_many 67 = .ok (.ireturn, 1) := by decide +kernel
theorem dX9_many_68 : decode cX9_many 68 = .ok (.aload_n 0, 1) := by decide +kernel
theorem dX9_many_69 : decode cX9_many 69 = .ok (.invokevirtual 326, 3) := by decide +kernel
theorem dX9_many_72 : decode cX9_many 72 = .ok (.ireturn, 1) := by decide +kernel
theorem dX9_many_73 : decode cX9_many 73 = .ok (.bipush (-2), 2) := by decide +kernel
theorem dX9_many_75 : decode cX9_many 75 = .ok (.ireturn, 1) := by decide +kernel
theorem dX9_isWithin_0 : decode cX9_isWithin 0 = .ok (.iload_n 0, 1) := by decide +kernel
theorem dX9_isWithin_1 : decode cX9_isWithin 1 = .ok (.iload_n 1, 1) := by decide +kernel
theorem dX9_isWithin_2 : decode cX9_isWithin 2 = .ok (.if_icmp .lt 12, 3) := by decide +kernel
theorem dX9_isWithin_5 : decode cX9_isWithin 5 = .ok (.iload_n 0, 1) := by decide +kernel
theorem dX9_isWithin_6 : decode cX9_isWithin 6 = .ok (.iload_n 2, 1) := by decide +kernel
theorem dX9_isWithin_7 : decode cX9_isWithin 7 = .ok (.if_icmp .gt 7, 3) := by decide +kernel
theorem dX9_isWithin_10 : decode cX9_isWithin 10 = .ok (.iconst 1, 1) := by decide +kernel
theorem dX9_isWithin_11 : decode cX9_isWithin 11 = .ok (.goto 4, 3) := by decide +kernel
theorem dX9_isWithin_14 : decode cX9_isWithin 14 = .ok (.iconst 0, 1) := by decide +kernel
theorem dX9_isWithin_15 : decode cX9_isWithin 15 = .ok (.ireturn, 1) := by decide +kernel
theorem dX9_answerOfFault_0 : decode cX9_answerOfFault 0 = .ok (.aload_n 0, 1) := by decide +kernel
theorem dX9_answerOfFault_1 : decode cX9_answerOfFault 1 = .ok (.iload_n 1, 1) := by decide +kernel
theorem dX9_answerOfFault_2 : decode cX9_answerOfFault 2 = .ok (.putfield 87, 3) := by decide +kernel
theorem dX9_answerOfFault_5 : decode cX9_answerOfFault 5 = .ok (.bipush (-10), 2) := by decide +kernel
theorem dX9_answerOfFault_7 : decode cX9_answerOfFault 7 = .ok (.iload_n 1, 1) := by decide +kernel
theorem dX9_answerOfFault_8 : decode cX9_answerOfFault 8 = .ok (.isub, 1) := by decide +kernel
theorem dX9_answerOfFault_9 : decode cX9_answerOfFault 9 = .ok (.ireturn, 1) := by decide +kernel
theorem dX9_refusalOfCells_0 : decode cX9_refusalOfCells 0 = .ok (.aload_n 0, 1) := by decide +kernel
theorem dX9_refusalOfCells_1 : decode cX9_refusalOfCells 1 = .ok (.iconst 0, 1) := by decide +kernel
theorem dX9_refusalOfCells_2 : decode cX9_refusalOfCells 2 = .ok (.putfield 87, 3) := by decide +kernel
theorem dX9_refusalOfCells_5 : decode cX9_refusalOfCells 5 = .ok (.iload_n 1, 1) := by decide +kernel
theorem dX9_refusalOfCells_6 : decode cX9_refusalOfCells 6 = .ok (.invokestatic 274, 3) := by decide +kernel
theorem dX9_refusalOfCells_9 : decode cX9_refusalOfCells 9 = .ok (.ifCond .ne 5, 3) := by decide +kernel
theorem dX9_refusalOfCells_12 : decode cX9_refusalOfCells 12 = .ok (.iconst (-1), 1) := by decide +kernel
theorem dX9_refusalOfCells_13 : decode cX9_refusalOfCells 13 = .ok (.ireturn, 1) := by decide +kernel
theorem dX9_refusalOfCells_14 : decode cX9_refusalOfCells 14 = .ok (.iload_n 2, 1) := by decide +kernel
theorem dX9_refusalOfCells_15 : decode cX9_refusalOfCells 15 = .ok (.invokestatic 277, 3) := by decide +kernel
theorem dX9_refusalOfCells_18 : decode cX9_refusalOfCells 18 = .ok (.ifCond .ne 6, 3) := by decide +kernel
theorem dX9_refusalOfCells_21 : decode cX9_refusalOfCells 21 = .ok (.bipush (-2), 2) := by decide +kernel
theorem dX9_refusalOfCells_23 : decode cX9_refusalOfCells 23 = .ok (.ireturn, 1) := by decide +kernel
theorem dX9_refusalOfCells_24 : decode cX9_refusalOfCells 24 = .ok (.aload_n 0, 1) := by decide +kernel
theorem dX9_refusalOfCells_25 : decode cX9_refusalOfCells 25 = .ok (.getfield 12, 3) := by decide +kernel
theorem dX9_refusalOfCells_28 : decode cX9_refusalOfCells 28 = .ok (.iload_n 1, 1) := by decide +kernel
theorem dX9_refusalOfCells_29 : decode cX9_refusalOfCells 29 = .ok (.iload_n 2, 1) := by decide +kernel
theorem dX9_refusalOfCells_30 : decode cX9_refusalOfCells 30 = .ok (.invokevirtual 298, 3) := by decide +kernel
theorem dX9_refusalOfCells_33 : decode cX9_refusalOfCells 33 = .ok (.istore 5, 2) := by decide +kernel
theorem dX9_refusalOfCells_35 : decode cX9_refusalOfCells 35 = .ok (.iload 5, 2) := by decide +kernel
theorem dX9_refusalOfCells_37 : decode cX9_refusalOfCells 37 = .ok (.ifCond .eq 10, 3) := by decide +kernel
theorem dX9_refusalOfCells_40 : decode cX9_refusalOfCells 40 = .ok (.aload_n 0, 1) := by decide +kernel
theorem dX9_refusalOfCells_41 : decode cX9_refusalOfCells 41 = .ok (.iload 5, 2) := by decide +kernel
theorem dX9_refusalOfCells_43 : decode cX9_refusalOfCells 43 = .ok (.invokevirtual 280, 3) := by decide +kernel
theorem dX9_refusalOfCells_46 : decode cX9_refusalOfCells 46 = .ok (.ireturn, 1) := by decide +kernel
theorem dX9_refusalOfCells_47 : decode cX9_refusalOfCells 47 = .ok (.iload 4, 2) := by decide +kernel
theorem dX9_refusalOfCells_49 : decode cX9_refusalOfCells 49 = .ok (.ifCond .ge 9, 3) := by decide +kernel
theorem dX9_refusalOfCells_52 : decode cX9_refusalOfCells 52 = .ok (.aload_n 0, 1) := by decide +kernel
theorem dX9_refusalOfCells_53 : decode cX9_refusalOfCells 53 = .ok (.iconst 4, 1) := by decide +kernel
theorem dX9_refusalOfCells_54 : decode cX9_refusalOfCells 54 = .ok (.invokevirtual 280, 3) := by decide +kernel
theorem dX9_refusalOfCells_57 : decode cX9_refusalOfCells 57 = .ok (.ireturn, 1) := by decide +kernel
theorem dX9_refusalOfCells_58 : decode cX9_refusalOfCells 58 = .ok (.aload_n 0, 1) := by decide +kernel
theorem dX9_refusalOfCells_59 : decode cX9_refusalOfCells 59 = .ok (.getfield 12, 3) := by decide +kernel
theorem dX9_refusalOfCells_62 : decode cX9_refusalOfCells 62 = .ok (.iload_n 1, 1) := by decide +kernel
theorem dX9_refusalOfCells_63 : decode cX9_refusalOfCells 63 = .ok (.iload_n 3, 1) := by decide +kernel
theorem dX9_refusalOfCells_64 : decode cX9_refusalOfCells 64 = .ok (.iload 4, 2) := by decide +kernel
theorem dX9_refusalOfCells_66 : decode cX9_refusalOfCells 66 = .ok (.invokevirtual 307, 3) := by decide +kernel
theorem dX9_refusalOfCells_69 : decode cX9_refusalOfCells 69 = .ok (.ifCond .eq 7, 3) := by decide +kernel
theorem dX9_refusalOfCells_72 : decode cX9_refusalOfCells 72 = .ok (.iconst 0, 1) := by decide +kernel
theorem dX9_refusalOfCells_73 : decode cX9_refusalOfCells 73 = .ok (.goto 8, 3) := by decide +kernel
theorem dX9_refusalOfCells_76 : decode cX9_refusalOfCells 76 = .ok (.aload_n 0, 1) := by decide +kernel
theorem dX9_refusalOfCells_77 : decode cX9_refusalOfCells 77 = .ok (.iconst 3, 1) := by decide +kernel
theorem dX9_refusalOfCells_78 : decode cX9_refusalOfCells 78 = .ok (.invokevirtual 280, 3) := by decide +kernel
theorem dX9_refusalOfCells_81 : decode cX9_refusalOfCells 81 = .ok (.ireturn, 1) := by decide +kernel
theorem dX9_lacksSawOrBoard_0 : decode cX9_lacksSawOrBoard 0 = .ok (.aload_n 0, 1) := by decide +kernel
theorem dX9_lacksSawOrBoard_1 : decode cX9_lacksSawOrBoard 1 = .ok (.getfield 21, 3) := by decide +kernel
theorem dX9_lacksSawOrBoard_4 : decode cX9_lacksSawOrBoard 4 = .ok (.getfield 106, 3) := by decide +kernel
theorem dX9_lacksSawOrBoard_7 : decode cX9_lacksSawOrBoard 7 = .ok (.ifCond .eq 13, 3) := by decide +kernel
theorem dX9_lacksSawOrBoard_10 : decode cX9_lacksSawOrBoard 10 = .ok (.aload_n 0, 1) := by decide +kernel
theorem dX9_lacksSawOrBoard_11 : decode cX9_lacksSawOrBoard 11 = .ok (.getfield 34, 3) := by decide +kernel
theorem dX9_lacksSawOrBoard_14 : decode cX9_lacksSawOrBoard 14 = .ok (.getfield 155, 3) := by decide +kernel
theorem dX9_lacksSawOrBoard_17 : decode cX9_lacksSawOrBoard 17 = .ok (.ifCond .ne 7, 3) := by decide +kernel
theorem dX9_lacksSawOrBoard_20 : decode cX9_lacksSawOrBoard 20 = .ok (.iconst 1, 1) := by decide +kernel
theorem dX9_lacksSawOrBoard_21 : decode cX9_lacksSawOrBoard 21 = .ok (.goto 4, 3) := by decide +kernel
theorem dX9_lacksSawOrBoard_24 : decode cX9_lacksSawOrBoard 24 = .ok (.iconst 0, 1) := by decide +kernel
theorem dX9_lacksSawOrBoard_25 : decode cX9_lacksSawOrBoard 25 = .ok (.ireturn, 1) := by decide +kernel
theorem dX9_cutAsItIs_0 : decode cX9_cutAsItIs 0 = .ok (.aload_n 0, 1) := by decide +kernel
theorem dX9_cutAsItIs_1 : decode cX9_cutAsItIs 1 = .ok (.getfield 51, 3) := by decide +kernel
theorem dX9_cutAsItIs_4 : decode cX9_cutAsItIs 4 = .ok (.aload_n 0, 1) := by decide +kernel
theorem dX9_cutAsItIs_5 : decode cX9_cutAsItIs 5 = .ok (.getfield 21, 3) := by decide +kernel
theorem dX9_cutAsItIs_8 : decode cX9_cutAsItIs 8 = .ok (.aload_n 0, 1) := by decide +kernel
theorem dX9_cutAsItIs_9 : decode cX9_cutAsItIs 9 = .ok (.getfield 34, 3) := by decide +kernel
theorem dX9_cutAsItIs_12 : decode cX9_cutAsItIs 12 = .ok (.aload_n 0, 1) := by decide +kernel
theorem dX9_cutAsItIs_13 : decode cX9_cutAsItIs 13 = .ok (.getfield 41, 3) := by decide +kernel
theorem dX9_cutAsItIs_16 : decode cX9_cutAsItIs 16 = .ok (.invokevirtual 329, 3) := by decide +kernel
theorem dX9_cutAsItIs_19 : decode cX9_cutAsItIs 19 = .ok (.return_, 1) := by decide +kernel
theorem dX9_countStrokes_0 : decode cX9_countStrokes 0 = .ok (.aload_n 0, 1) := by decide +kernel
theorem dX9_countStrokes_1 : decode cX9_countStrokes 1 = .ok (.invokevirtual 189, 3) := by decide +kernel
theorem dX9_countStrokes_4 : decode cX9_countStrokes 4 = .ok (.ifCond .eq 5, 3) := by decide +kernel
theorem dX9_countStrokes_7 : decode cX9_countStrokes 7 = .ok (.iconst 0, 1) := by decide +kernel
theorem dX9_countStrokes_8 : decode cX9_countStrokes 8 = .ok (.ireturn, 1) := by decide +kernel
theorem dX9_countStrokes_9 : decode cX9_countStrokes 9 = .ok (.aload_n 0, 1) := by decide +kernel
theorem dX9_countStrokes_10 : decode cX9_countStrokes 10 = .ok (.invokevirtual 193, 3) := by decide +kernel
theorem dX9_countStrokes_13 : decode cX9_countStrokes 13 = .ok (.aload_n 0, 1) := by decide +kernel
theorem dX9_countStrokes_14 : decode cX9_countStrokes 14 = .ok (.getfield 51, 3) := by decide +kernel
theorem dX9_countStrokes_17 : decode cX9_countStrokes 17 = .ok (.getfield 333, 3) := by decide +kernel
theorem dX9_countStrokes_20 : decode cX9_countStrokes 20 = .ok (.ireturn, 1) := by decide +kernel
theorem dX9_refusalOfStroke_0 : decode cX9_refusalOfStroke 0 = .ok (.aload_n 0, 1) := by decide +kernel
theorem dX9_refusalOfStroke_1 : decode cX9_refusalOfStroke 1 = .ok (.getfield 34, 3) := by decide +kernel
theorem dX9_refusalOfStroke_4 : decode cX9_refusalOfStroke 4 = .ok (.iload_n 1, 1) := by decide +kernel
theorem dX9_refusalOfStroke_5 : decode cX9_refusalOfStroke 5 = .ok (.invokevirtual 156, 3) := by decide +kernel
theorem dX9_refusalOfStroke_8 : decode cX9_refusalOfStroke 8 = .ok (.ifCond .ne 5, 3) := by decide +kernel
theorem dX9_refusalOfStroke_11 : decode cX9_refusalOfStroke 11 = .ok (.iconst (-1), 1) := by decide +kernel
theorem dX9_refusalOfStroke_12 : decode cX9_refusalOfStroke 12 = .ok (.ireturn, 1) := by decide +kernel
theorem dX9_refusalOfStroke_13 : decode cX9_refusalOfStroke 13 = .ok (.iload_n 1, 1) := by decide +kernel
theorem dX9_refusalOfStroke_14 : decode cX9_refusalOfStroke 14 = .ok (.aload_n 0, 1) := by decide +kernel
theorem dX9_refusalOfStroke_15 : decode cX9_refusalOfStroke 15 = .ok (.invokevirtual 326, 3) := by decide +kernel
theorem dX9_refusalOfStroke_18 : decode cX9_refusalOfStroke 18 = .ok (.if_icmp .ge 7, 3) := by decide +kernel
theorem dX9_refusalOfStroke_21 : decode cX9_refusalOfStroke 21 = .ok (.iconst 0, 1) := by decide +kernel
theorem dX9_refusalOfStroke_22 : decode cX9_refusalOfStroke 22 = .ok (.goto 5, 3) := by decide +kernel
theorem dX9_refusalOfStroke_25 : decode cX9_refusalOfStroke 25 = .ok (.bipush (-3), 2) := by decide +kernel
theorem dX9_refusalOfStroke_27 : decode cX9_refusalOfStroke 27 = .ok (.ireturn, 1) := by decide +kernel
theorem dX9_offByLean_0 : decode cX9_offByLean 0 = .ok (.aload_n 0, 1) := by decide +kernel
theorem dX9_offByLean_1 : decode cX9_offByLean 1 = .ok (.getfield 45, 3) := by decide +kernel
theorem dX9_offByLean_4 : decode cX9_offByLean 4 = .ok (.aload_n 0, 1) := by decide +kernel
theorem dX9_offByLean_5 : decode cX9_offByLean 5 = .ok (.getfield 41, 3) := by decide +kernel
theorem dX9_offByLean_8 : decode cX9_offByLean 8 = .ok (.invokevirtual 336, 3) := by decide +kernel
theorem dX9_offByLean_11 : decode cX9_offByLean 11 = .ok (.aload_n 0, 1) := by decide +kernel
theorem dX9_offByLean_12 : decode cX9_offByLean 12 = .ok (.getfield 45, 3) := by decide +kernel
theorem dX9_offByLean_15 : decode cX9_offByLean 15 = .ok (.iload_n 1, 1) := by decide +kernel
theorem dX9_offByLean_16 : decode cX9_offByLean 16 = .ok (.putfield 166, 3) := by decide +kernel
theorem dX9_offByLean_19 : decode cX9_offByLean 19 = .ok (.aload_n 0, 1) := by decide +kernel
theorem dX9_offByLean_20 : decode cX9_offByLean 20 = .ok (.getfield 51, 3) := by decide +kernel
theorem dX9_offByLean_23 : decode cX9_offByLean 23 = .ok (.aload_n 0, 1) := by decide +kernel
theorem dX9_offByLean_24 : decode cX9_offByLean 24 = .ok (.getfield 21, 3) := by decide +kernel
theorem dX9_offByLean_27 : decode cX9_offByLean 27 = .ok (.aload_n 0, 1) := by decide +kernel
theorem dX9_offByLean_28 : decode cX9_offByLean 28 = .ok (.getfield 34, 3) := by decide +kernel
theorem dX9_offByLean_31 : decode cX9_offByLean 31 = .ok (.aload_n 0, 1) := by decide +kernel
theorem dX9_offByLean_32 : decode cX9_offByLean 32 = .ok (.getfield 45, 3) := by decide +kernel
theorem dX9_offByLean_35 : decode cX9_offByLean 35 = .ok (.invokevirtual 329, 3) := by decide +kernel
theorem dX9_offByLean_38 : decode cX9_offByLean 38 = .ok (.aload_n 0, 1) := by decide +kernel
theorem dX9_offByLean_39 : decode cX9_offByLean 39 = .ok (.getfield 51, 3) := by decide +kernel
theorem dX9_offByLean_42 : decode cX9_offByLean 42 = .ok (.getfield 196, 3) := by decide +kernel
theorem dX9_offByLean_45 : decode cX9_offByLean 45 = .ok (.ireturn, 1) := by decide +kernel
theorem dX9_offBySteers_0 : decode cX9_offBySteers 0 = .ok (.aload_n 0, 1) := by decide +kernel
theorem dX9_offBySteers_1 : decode cX9_offBySteers 1 = .ok (.getfield 45, 3) := by decide +kernel
theorem dX9_offBySteers_4 : decode cX9_offBySteers 4 = .ok (.aload_n 0, 1) := by decide +kernel
theorem dX9_offBySteers_5 : decode cX9_offBySteers 5 = .ok (.getfield 41, 3) := by decide +kernel
theorem dX9_offBySteers_8 : decode cX9_offBySteers 8 = .ok (.invokevirtual 336, 3) := by decide +kernel
theorem dX9_offBySteers_11 : decode cX9_offBySteers 11 = .ok (.aload_n 0, 1) := by decide +kernel
theorem dX9_offBySteers_12 : decode cX9_offBySteers 12 = .ok (.getfield 45, 3) := by decide +kernel
theorem dX9_offBySteers_15 : decode cX9_offBySteers 15 = .ok (.iload_n 1, 1) := by decide +kernel
theorem dX9_offBySteers_16 : decode cX9_offBySteers 16 = .ok (.putfield 169, 3) := by decide +kernel
theorem dX9_offBySteers_19 : decode cX9_offBySteers 19 = .ok (.aload_n 0, 1) := by decide +kernel
theorem dX9_offBySteers_20 : decode cX9_offBySteers 20 = .ok (.getfield 51, 3) := by decide +kernel
theorem dX9_offBySteers_23 : decode cX9_offBySteers 23 = .ok (.aload_n 0, 1) := by decide +kernel
theorem dX9_offBySteers_24 : decode cX9_offBySteers 24 = .ok (.getfield 21, 3) := by decide +kernel
theorem dX9_offBySteers_27 : decode cX9_offBySteers 27 = .ok (.aload_n 0, 1) := by decide +kernel
theorem dX9_offBySteers_28 : decode cX9_offBySteers 28 = .ok (.getfield 34, 3) := by decide +kernel
theorem dX9_offBySteers_31 : decode cX9_offBySteers 31 = .ok (.aload_n 0, 1) := by decide +kernel
theorem dX9_offBySteers_32 : decode cX9_offBySteers 32 = .ok (.getfield 45, 3) := by decide +kernel
theorem dX9_offBySteers_35 : decode cX9_offBySteers 35 = .ok (.invokevirtual 329, 3) := by decide +kernel
theorem dX9_offBySteers_38 : decode cX9_offBySteers 38 = .ok (.aload_n 0, 1) := by decide +kernel
theorem dX9_offBySteers_39 : decode cX9_offBySteers 39 = .ok (.getfield 51, 3) := by decide +kernel
theorem dX9_offBySteers_42 : decode cX9_offBySteers 42 = .ok (.getfield 196, 3) := by decide +kernel
theorem dX9_offBySteers_45 : decode cX9_offBySteers 45 = .ok (.ireturn, 1) := by decide +kernel
theorem dX9_straightestLean_0 : decode cX9_straightestLean 0 = .ok (.iconst 0, 1) := by decide +kernel
theorem dX9_straightestLean_1 : decode cX9_straightestLean 1 = .ok (.istore_n 1, 1) := by decide +kernel
theorem dX9_straightestLean_2 : decode cX9_straightestLean 2 = .ok (.aload_n 0, 1) := by decide +kernel
theorem dX9_straightestLean_3 : decode cX9_straightestLean 3 = .ok (.iconst 0, 1) := by decide +kernel
theorem dX9_straightestLean_4 : decode cX9_straightestLean 4 = .ok (.invokevirtual 214, 3) := by decide +kernel
theorem dX9_straightestLean_7 : decode cX9_straightestLean 7 = .ok (.istore_n 2, 1) := by decide +kernel
theorem dX9_straightestLean_8 : decode cX9_straightestLean 8 = .ok (.iconst 1, 1) := by decide +kernel
theorem dX9_straightestLean_9 : decode cX9_straightestLean 9 = .ok (.istore_n 3, 1) := by decide +kernel
theorem dX9_straightestLean_10 : decode cX9_straightestLean 10 = .ok (.iload_n 3, 1) := by decide +kernel
theorem dX9_straightestLean_11 : decode cX9_straightestLean 11 = .ok (.bipush 9, 2) := by decide +kernel
theorem dX9_straightestLean_13 : decode cX9_straightestLean 13 = .ok (.if_icmp .gt 48, 3) := by decide +kernel
theorem dX9_straightestLean_16 : decode cX9_straightestLean 16 = .ok (.iconst (-1), 1) := by decide +kernel
theorem dX9_straightestLean_17 : decode cX9_straightestLean 17 = .ok (.istore 4, 2) := by decide +kernel
theorem dX9_straightestLean_19 : decode cX9_straightestLean 19 = .ok (.iload 4, 2) := by decide +kernel
theorem dX9_straightestLean_21 : decode cX9_straightestLean 21 = .ok (.iconst 1, 1) := by decide +kernel
theorem dX9_straightestLean_22 : decode cX9_straightestLean 22 = .ok (.if_icmp .gt 33, 3) := by decide +kernel
theorem dX9_straightestLean_25 : decode cX9_straightestLean 25 = .ok (.aload_n 0, 1) := by decide +kernel
theorem dX9_straightestLean_26 : decode cX9_straightestLean 26 = .ok (.iload 4, 2) := by decide +kernel
theorem dX9_straightestLean_28 : decode cX9_straightestLean 28 = .ok (.iload_n 3, 1) := by decide +kernel
theorem dX9_straightestLean_29 : decode cX9_straightestLean 29 = .ok (.imul, 1) := by decide +kernel
theorem dX9_straightestLean_30 : decode cX9_straightestLean 30 = .ok (.invokevirtual 214, 3) := by decide +kernel
theorem dX9_straightestLean_33 : decode cX9_straightestLean 33 = .ok (.istore 5, 2) := by decide +kernel
theorem dX9_straightestLean_35 : decode cX9_straightestLean 35 = .ok (.iload 5, 2) := by decide +kernel
theorem dX9_straightestLean_37 : decode cX9_straightestLean 37 = .ok (.iload_n 2, 1) := by decide +kernel
theorem dX9_straightestLean_38 : decode cX9_straightestLean 38 = .ok (.if_icmp .ge 11, 3) := by decide +kernel
theorem dX9_straightestLean_41 : decode cX9_straightestLean 41 = .ok (.iload 5, 2) := by decide +kernel
theorem dX9_straightestLean_43 : decode cX9_straightestLean 43 = .ok (.istore_n 2, 1) := by decide +kernel
theorem dX9_straightestLean_44 : decode cX9_straightestLean 44 = .ok (.iload 4, 2) := by decide +kernel
theorem dX9_straightestLean_46 : decode cX9_straightestLean 46 = .ok (.iload_n 3, 1) := by decide +kernel
theorem dX9_straightestLean_47 : decode cX9_straightestLean 47 = .ok (.imul, 1) := by decide +kernel
theorem dX9_straightestLean_48 : decode cX9_straightestLean 48 = .ok (.istore_n 1, 1) := by decide +kernel
theorem dX9_straightestLean_49 : decode cX9_straightestLean 49 = .ok (.iinc 4 2, 3) := by decide +kernel
theorem dX9_straightestLean_52 : decode cX9_straightestLean 52 = .ok (.goto (-33), 3) := by decide +kernel
theorem dX9_straightestLean_55 : decode cX9_straightestLean 55 = .ok (.iinc 3 1, 3) := by decide +kernel
theorem dX9_straightestLean_58 : decode cX9_straightestLean 58 = .ok (.goto (-48), 3) := by decide +kernel
theorem dX9_straightestLean_61 : decode cX9_straightestLean 61 = .ok (.iload_n 1, 1) := by decide +kernel
theorem dX9_straightestLean_62 : decode cX9_straightestLean 62 = .ok (.ireturn, 1) := by decide +kernel
theorem dX9_straightestSteers_0 : decode cX9_straightestSteers 0 = .ok (.iconst 0, 1) := by decide +kernel
theorem dX9_straightestSteers_1 : decode cX9_straightestSteers 1 = .ok (.istore_n 1, 1) := by decide +kernel
theorem dX9_straightestSteers_2 : decode cX9_straightestSteers 2 = .ok (.aload_n 0, 1) := by decide +kernel
theorem dX9_straightestSteers_3 : decode cX9_straightestSteers 3 = .ok (.iconst 0, 1) := by decide +kernel
theorem dX9_straightestSteers_4 : decode cX9_straightestSteers 4 = .ok (.invokevirtual 217, 3) := by decide +kernel
theorem dX9_straightestSteers_7 : decode cX9_straightestSteers 7 = .ok (.istore_n 2, 1) := by decide +kernel
theorem dX9_straightestSteers_8 : decode cX9_straightestSteers 8 = .ok (.iconst 1, 1) := by decide +kernel
theorem dX9_straightestSteers_9 : decode cX9_straightestSteers 9 = .ok (.istore_n 3, 1) := by decide +kernel
theorem dX9_straightestSteers_10 : decode cX9_straightestSteers 10 = .ok (.iload_n 3, 1) := by decide +kernel
theorem dX9_straightestSteers_11 : decode cX9_straightestSteers 11 = .ok (.bipush 9, 2) := by decide +kernel
theorem dX9_straightestSteers_13 : decode cX9_straightestSteers 13 = .ok (.if_icmp .gt 27, 3) := by decide +kernel
theorem dX9_straightestSteers_16 : decode cX9_straightestSteers 16 = .ok (.aload_n 0, 1) := by decide +kernel
theorem dX9_straightestSteers_17 : decode cX9_straightestSteers 17 = .ok (.iload_n 3, 1) := by decide +kernel
theorem dX9_straightestSteers_18 : decode cX9_straightestSteers 18 = .ok (.invokevirtual 217, 3) := by decide +kernel
theorem dX9_straightestSteers_21 : decode cX9_straightestSteers 21 = .ok (.istore 4, 2) := by decide +kernel
theorem dX9_straightestSteers_23 : decode cX9_straightestSteers 23 = .ok (.iload 4, 2) := by decide +kernel
theorem dX9_straightestSteers_25 : decode cX9_straightestSteers 25 = .ok (.iload_n 2, 1) := by decide +kernel
theorem dX9_straightestSteers_26 : decode cX9_straightestSteers 26 = .ok (.if_icmp .ge 8, 3) := by decide +kernel
theorem dX9_straightestSteers_29 : decode cX9_straightestSteers 29 = .ok (.iload 4, 2) := by decide +kernel
theorem dX9_straightestSteers_31 : decode cX9_straightestSteers 31 = .ok (.istore_n 2, 1) := by decide +kernel
theorem dX9_straightestSteers_32 : decode cX9_straightestSteers 32 = .ok (.iload_n 3, 1) := by decide +kernel
theorem dX9_straightestSteers_33 : decode cX9_straightestSteers 33 = .ok (.istore_n 1, 1) := by decide +kernel
theorem dX9_straightestSteers_34 : decode cX9_straightestSteers 34 = .ok (.iinc 3 1, 3) := by decide +kernel
theorem dX9_straightestSteers_37 : decode cX9_straightestSteers 37 = .ok (.goto (-27), 3) := by decide +kernel
theorem dX9_straightestSteers_40 : decode cX9_straightestSteers 40 = .ok (.iload_n 1, 1) := by decide +kernel
theorem dX9_straightestSteers_41 : decode cX9_straightestSteers 41 = .ok (.ireturn, 1) := by decide +kernel
theorem dX9_fits_0 : decode cX9_fits 0 = .ok (.aload_n 0, 1) := by decide +kernel
theorem dX9_fits_1 : decode cX9_fits 1 = .ok (.getfield 25, 3) := by decide +kernel
theorem dX9_fits_4 : decode cX9_fits 4 = .ok (.aload_n 0, 1) := by decide +kernel
theorem dX9_fits_5 : decode cX9_fits 5 = .ok (.getfield 21, 3) := by decide +kernel
theorem dX9_fits_8 : decode cX9_fits 8 = .ok (.invokevirtual 98, 3) := by decide +kernel
theorem dX9_fits_11 : decode cX9_fits 11 = .ok (.aload_n 0, 1) := by decide +kernel
theorem dX9_fits_12 : decode cX9_fits 12 = .ok (.getfield 58, 3) := by decide +kernel
theorem dX9_fits_15 : decode cX9_fits 15 = .ok (.aload_n 0, 1) := by decide +kernel
theorem dX9_fits_16 : decode cX9_fits 16 = .ok (.getfield 25, 3) := by decide +kernel
theorem dX9_fits_19 : decode cX9_fits 19 = .ok (.iload_n 1, 1) := by decide +kernel
theorem dX9_fits_20 : decode cX9_fits 20 = .ok (.invokevirtual 339, 3) := by decide +kernel
theorem dX9_fits_23 : decode cX9_fits 23 = .ok (.aload_n 0, 1) := by decide +kernel
theorem dX9_fits_24 : decode cX9_fits 24 = .ok (.getfield 51, 3) := by decide +kernel
theorem dX9_fits_27 : decode cX9_fits 27 = .ok (.aload_n 0, 1) := by decide +kernel
theorem dX9_fits_28 : decode cX9_fits 28 = .ok (.getfield 25, 3) := by decide +kernel
theorem dX9_fits_31 : decode cX9_fits 31 = .ok (.aload_n 0, 1) := by decide +kernel
theorem dX9_fits_32 : decode cX9_fits 32 = .ok (.getfield 34, 3) := by decide +kernel
theorem dX9_fits_35 : decode cX9_fits 35 = .ok (.aload_n 0, 1) := by decide +kernel
theorem dX9_fits_36 : decode cX9_fits 36 = .ok (.getfield 41, 3) := by decide +kernel
theorem dX9_fits_39 : decode cX9_fits 39 = .ok (.invokevirtual 329, 3) := by decide +kernel
theorem dX9_fits_42 : decode cX9_fits 42 = .ok (.aload_n 0, 1) := by decide +kernel
theorem dX9_fits_43 : decode cX9_fits 43 = .ok (.getfield 65, 3) := by decide +kernel
theorem dX9_fits_46 : decode cX9_fits 46 = .ok (.aload_n 0, 1) := by decide +kernel
theorem dX9_fits_47 : decode cX9_fits 47 = .ok (.getfield 51, 3) := by decide +kernel
theorem dX9_fits_50 : decode cX9_fits 50 = .ok (.invokevirtual 343, 3) := by decide +kernel
theorem dX9_fits_53 : decode cX9_fits 53 = .ok (.ireturn, 1) := by decide +kernel
theorem dX9_countFitting_0 : decode cX9_countFitting 0 = .ok (.iconst 1, 1) := by decide +kernel
theorem dX9_countFitting_1 : decode cX9_countFitting 1 = .ok (.aload_n 0, 1) := by decide +kernel
theorem dX9_countFitting_2 : decode cX9_countFitting 2 = .ok (.getfield 58, 3) := by decide +kernel
theorem dX9_countFitting_5 : decode cX9_countFitting 5 = .ok (.getfield 102, 3) := by decide +kernel
theorem dX9_countFitting_8 : decode cX9_countFitting 8 = .ok (.ishl, 1) := by decide +kernel
theorem dX9_countFitting_9 : decode cX9_countFitting 9 = .ok (.istore_n 2, 1) := by decide +kernel
theorem dX9_countFitting_10 : decode cX9_countFitting 10 = .ok (.iconst 0, 1) := by decide +kernel
theorem dX9_countFitting_11 : decode cX9_countFitting 11 = .ok (.istore_n 3, 1) := by decide +kernel
theorem dX9_countFitting_12 : decode cX9_countFitting 12 = .ok (.iconst 0, 1) := by decide +kernel
theorem dX9_countFitting_13 : decode cX9_countFitting 13 = .ok (.istore 4, 2) := by decide +kernel
theorem dX9_countFitting_15 : decode cX9_countFitting 15 = .ok (.iload 4, 2) := by decide +kernel
theorem dX9_countFitting_17 : decode cX9_countFitting 17 = .ok (.iload_n 2, 1) := by decide +kernel
theorem dX9_countFitting_18 : decode cX9_countFitting 18 = .ok (.if_icmp .ge 50, 3) := by decide +kernel
theorem dX9_countFitting_21 : decode cX9_countFitting 21 = .ok (.iload 4, 2) := by decide +kernel
theorem dX9_countFitting_23 : decode cX9_countFitting 23 = .ok (.invokestatic 347, 3) := by decide +kernel
theorem dX9_countFitting_26 : decode cX9_countFitting 26 = .ok (.iconst 2, 1) := by decide +kernel
theorem dX9_countFitting_27 : decode cX9_countFitting 27 = .ok (.if_icmp .gt 15, 3) := by decide +kernel
theorem dX9_countFitting_30 : decode cX9_countFitting 30 = .ok (.iload 4, 2) := by decide +kernel
theorem dX9_countFitting_32 : decode cX9_countFitting 32 = .ok (.iload_n 1, 1) := by decide +kernel
theorem dX9_countFitting_33 : decode cX9_countFitting 33 = .ok (.iand, 1) := by decide +kernel
theorem dX9_countFitting_34 : decode cX9_countFitting 34 = .ok (.iload_n 1, 1) := by decide +kernel
theorem dX9_countFitting_35 : decode cX9_countFitting 35 = .ok (.if_icmp .ne 7, 3) := by decide +kernel
theorem dX9_countFitting_38 : decode cX9_countFitting 38 = .ok (.iconst 1, 1) := by decide +kernel
theorem dX9_countFitting_39 : decode cX9_countFitting 39 = .ok (.goto 4, 3) := by decide +kernel
theorem dX9_countFitting_42 : decode cX9_countFitting 42 = .ok (.iconst 0, 1) := by decide +kernel
theorem dX9_countFitting_43 : decode cX9_countFitting 43 = .ok (.istore 5, 2) := by decide +kernel
theorem dX9_countFitting_45 : decode cX9_countFitting 45 = .ok (.iload 5, 2) := by decide +kernel
theorem dX9_countFitting_47 : decode cX9_countFitting 47 = .ok (.ifCond .eq 15, 3) := by decide +kernel
theorem dX9_countFitting_50 : decode cX9_countFitting 50 = .ok (.aload_n 0, 1) := by decide +kernel
theorem dX9_countFitting_51 : decode cX9_countFitting 51 = .ok (.iload 4, 2) := by decide +kernel
theorem dX9_countFitting_53 : decode cX9_countFitting 53 = .ok (.invokevirtual 352, 3) := by decide +kernel
theorem dX9_countFitting_56 : decode cX9_countFitting 56 = .ok (.ifCond .eq 6, 3) := by decide +kernel
theorem dX9_countFitting_59 : decode cX9_countFitting 59 = .ok (.iinc 3 1, 3) := by decide +kernel
theorem dX9_countFitting_62 : decode cX9_countFitting 62 = .ok (.iinc 4 1, 3) := by decide +kernel
theorem dX9_countFitting_65 : decode cX9_countFitting 65 = .ok (.goto (-50), 3) := by decide +kernel
theorem dX9_countFitting_68 : decode cX9_countFitting 68 = .ok (.iload_n 3, 1) := by decide +kernel
theorem dX9_countFitting_69 : decode cX9_countFitting 69 = .ok (.ireturn, 1) := by decide +kernel
theorem dX9_firstOfFewest_0 : decode cX9_firstOfFewest 0 = .ok (.iconst 1, 1) := by decide +kernel
theorem dX9_firstOfFewest_1 : decode cX9_firstOfFewest 1 = .ok (.aload_n 0, 1) := by decide +kernel
theorem dX9_firstOfFewest_2 : decode cX9_firstOfFewest 2 = .ok (.getfield 58, 3) := by decide +kernel
theorem dX9_firstOfFewest_5 : decode cX9_firstOfFewest 5 = .ok (.getfield 102, 3) := by decide +kernel
theorem dX9_firstOfFewest_8 : decode cX9_firstOfFewest 8 = .ok (.ishl, 1) := by decide +kernel
theorem dX9_firstOfFewest_9 : decode cX9_firstOfFewest 9 = .ok (.istore_n 1, 1) := by decide +kernel
theorem dX9_firstOfFewest_10 : decode cX9_firstOfFewest 10 = .ok (.iconst 0, 1) := by decide +kernel
theorem dX9_firstOfFewest_11 : decode cX9_firstOfFewest 11 = .ok (.istore_n 2, 1) := by decide +kernel
theorem dX9_firstOfFewest_12 : decode cX9_firstOfFewest 12 = .ok (.iload_n 2, 1) := by decide +kernel
theorem dX9_firstOfFewest_13 : decode cX9_firstOfFewest 13 = .ok (.iconst 2, 1) := by decide +kernel
theorem dX9_firstOfFewest_14 : decode cX9_firstOfFewest 14 = .ok (.if_icmp .gt 40, 3) := by decide +kernel
theorem dX9_firstOfFewest_17 : decode cX9_firstOfFewest 17 = .ok (.iconst 0, 1) := by decide +kernel
theorem dX9_firstOfFewest_18 : decode cX9_firstOfFewest 18 = .ok (.istore_n 3, 1) := by decide +kernel
theorem dX9_firstOfFewest_19 : decode cX9_firstOfFewest 19 = .ok (.iload_n 3, 1) := by decide +kernel
theorem dX9_firstOfFewest_20 : decode cX9_firstOfFewest 20 = .ok (.iload_n 1, 1) := by decide +kernel
theorem dX9_firstOfFewest_21 : decode cX9_firstOfFewest 21 = .ok (.if_icmp .ge 27, 3) := by decide +kernel
theorem dX9_firstOfFewest_24 : decode cX9_firstOfFewest 24 = .ok (.iload_n 3, 1) := by decide +kernel
theorem dX9_firstOfFewest_25 : decode cX9_firstOfFewest 25 = .ok (.invokestatic 347, 3) := by decide +kernel
theorem dX9_firstOfFewest_28 : decode cX9_firstOfFewest 28 = .ok (.iload_n 2, 1) := by decide +kernel
theorem dX9_firstOfFewest_29 : decode cX9_firstOfFewest 29 = .ok (.if_icmp .ne 13, 3) := by decide +kernel
theorem dX9_firstOfFewest_32 : decode cX9_firstOfFewest 32 = .ok (.aload_n 0, 1) := by decide +kernel
theorem dX9_firstOfFewest_33 : decode cX9_firstOfFewest 33 = .ok (.iload_n 3, 1) := by decide +kernel
theorem dX9_firstOfFewest_34 : decode cX9_firstOfFewest 34 = .ok (.invokevirtual 352, 3) := by decide +kernel
theorem dX9_firstOfFewest_37 : decode cX9_firstOfFewest 37 = .ok (.ifCond .eq 5, 3) := by decide +kernel
theorem dX9_firstOfFewest_40 : decode cX9_firstOfFewest 40 = .ok (.iload_n 3, 1) := by decide +kernel
theorem dX9_firstOfFewest_41 : decode cX9_firstOfFewest 41 = .ok (.ireturn, 1) := by decide +kernel
theorem dX9_firstOfFewest_42 : decode cX9_firstOfFewest 42 = .ok (.iinc 3 1, 3) := by decide +kernel
theorem dX9_firstOfFewest_45 : decode cX9_firstOfFewest 45 = .ok (.goto (-26), 3) := by decide +kernel
theorem dX9_firstOfFewest_48 : decode cX9_firstOfFewest 48 = .ok (.iinc 2 1, 3) := by decide +kernel
theorem dX9_firstOfFewest_51 : decode cX9_firstOfFewest 51 = .ok (.goto (-39), 3) := by decide +kernel
theorem dX9_firstOfFewest_54 : decode cX9_firstOfFewest 54 = .ok (.bipush (-9), 2) := by decide +kernel
theorem dX9_firstOfFewest_56 : decode cX9_firstOfFewest 56 = .ok (.ireturn, 1) := by decide +kernel
theorem dX9_goesStraightEnough_0 : decode cX9_goesStraightEnough 0 = .ok (.aload_n 0, 1) := by decide +kernel
theorem dX9_goesStraightEnough_1 : decode cX9_goesStraightEnough 1 = .ok (.getfield 51, 3) := by decide +kernel
theorem dX9_goesStraightEnough_4 : decode cX9_goesStraightEnough 4 = .ok (.aload_n 1, 1) := by decide +kernel
theorem dX9_goesStraightEnough_5 : decode cX9_goesStraightEnough 5 = .ok (.aload_n 0, 1) := by decide +kernel
theorem dX9_goesStraightEnough_6 : decode cX9_goesStraightEnough 6 = .ok (.getfield 34, 3) := by decide +kernel
theorem dX9_goesStraightEnough_9 : decode cX9_goesStraightEnough 9 = .ok (.aload_n 0, 1) := by decide +kernel
theorem dX9_goesStraightEnough_10 : decode cX9_goesStraightEnough 10 = .ok (.getfield 41, 3) := by decide +kernel
theorem dX9_goesStraightEnough_13 : decode cX9_goesStraightEnough 13 = .ok (.invokevirtual 329, 3) := by decide +kernel
theorem dX9_goesStraightEnough_16 : decode cX9_goesStraightEnough 16 = .ok (.aload_n 0, 1) := by decide +kernel
theorem dX9_goesStraightEnough_17 : decode cX9_goesStraightEnough 17 = .ok (.getfield 51, 3) := by decide +kernel
theorem dX9_goesStraightEnough_20 : decode cX9_goesStraightEnough 20 = .ok (.getfield 199, 3) := by decide +kernel
theorem dX9_goesStraightEnough_23 : decode cX9_goesStraightEnough 23 = .ok (.bipush (-9), 2) := by decide +kernel
theorem dX9_goesStraightEnough_25 : decode cX9_goesStraightEnough 25 = .ok (.if_icmp .ne 18, 3) := by decide +kernel
theorem dX9_goesStraightEnough_28 : decode cX9_goesStraightEnough 28 = .ok (.aload_n 0, 1) := by decide +kernel
theorem dX9_goesStraightEnough_29 : decode cX9_goesStraightEnough 29 = .ok (.getfield 51, 3) := by decide +kernel
theorem dX9_goesStraightEnough_32 : decode cX9_goesStraightEnough 32 = .ok (.getfield 196, 3) := by decide +kernel
theorem dX9_goesStraightEnough_35 : decode cX9_goesStraightEnough 35 = .ok (.iload_n 2, 1) := by decide +kernel
theorem dX9_goesStraightEnough_36 : decode cX9_goesStraightEnough 36 = .ok (.if_icmp .gt 7, 3) := by decide +kernel
theorem dX9_goesStraightEnough_39 : decode cX9_goesStraightEnough 39 = .ok (.iconst 1, 1) := by decide +kernel
theorem dX9_goesStraightEnough_40 : decode cX9_goesStraightEnough 40 = .ok (.goto 4, 3) := by decide +kernel
theorem dX9_goesStraightEnough_43 : decode cX9_goesStraightEnough 43 = .ok (.iconst 0, 1) := by decide +kernel
theorem dX9_goesStraightEnough_44 : decode cX9_goesStraightEnough 44 = .ok (.ireturn, 1) := by decide +kernel
theorem dX9_seekMending_0 : decode cX9_seekMending 0 = .ok (.aload_n 0, 1) := by decide +kernel
theorem dX9_seekMending_1 : decode cX9_seekMending 1 = .ok (.getfield 72, 3) := by decide +kernel
theorem dX9_seekMending_4 : decode cX9_seekMending 4 = .ok (.invokevirtual 355, 3) := by decide +kernel
theorem dX9_seekMending_7 : decode cX9_seekMending 7 = .ok (.aload_n 0, 1) := by decide +kernel
theorem dX9_seekMending_8 : decode cX9_seekMending 8 = .ok (.aload_n 0, 1) := by decide +kernel
theorem dX9_seekMending_9 : decode cX9_seekMending 9 = .ok (.getfield 21, 3) := by decide +kernel
theorem dX9_seekMending_12 : decode cX9_seekMending 12 = .ok (.iload_n 1, 1) := by decide +kernel
theorem dX9_seekMending_13 : decode cX9_seekMending 13 = .ok (.invokevirtual 358, 3) := by decide +kernel
theorem dX9_seekMending_16 : decode cX9_seekMending 16 = .ok (.ifCond .eq 11, 3) := by decide +kernel
theorem dX9_seekMending_19 : decode cX9_seekMending 19 = .ok (.aload_n 0, 1) := by decide +kernel
theorem dX9_seekMending_20 : decode cX9_seekMending 20 = .ok (.getfield 72, 3) := by decide +kernel
theorem dX9_seekMending_23 : decode cX9_seekMending 23 = .ok (.invokevirtual 362, 3) := by decide +kernel
theorem dX9_seekMending_26 : decode cX9_seekMending 26 = .ok (.return_, 1) := by decide +kernel
theorem dX9_seekMending_27 : decode cX9_seekMending 27 = .ok (.aload_n 0, 1) := by decide +kernel
theorem dX9_seekMending_28 : decode cX9_seekMending 28 = .ok (.getfield 21, 3) := by decide +kernel
theorem dX9_seekMending_31 : decode cX9_seekMending 31 = .ok (.getfield 106, 3) := by decide +kernel
theorem dX9_seekMending_34 : decode cX9_seekMending 34 = .ok (.iconst 4, 1) := by decide +kernel
theorem dX9_seekMending_35 : decode cX9_seekMending 35 = .ok (.imul, 1) := by decide +kernel
theorem dX9_seekMending_36 : decode cX9_seekMending 36 = .ok (.istore_n 2, 1) := by decide +kernel
theorem dX9_seekMending_37 : decode cX9_seekMending 37 = .ok (.iconst 0, 1) := by decide +kernel
theorem dX9_seekMending_38 : decode cX9_seekMending 38 = .ok (.istore_n 3, 1) := by decide +kernel
theorem dX9_seekMending_39 : decode cX9_seekMending 39 = .ok (.iload_n 3, 1) := by decide +kernel
theorem dX9_seekMending_40 : decode cX9_seekMending 40 = .ok (.iload_n 2, 1) := by decide +kernel
theorem dX9_seekMending_41 : decode cX9_seekMending 41 = .ok (.if_icmp .ge 70, 3) := by decide +kernel
theorem dX9_seekMending_44 : decode cX9_seekMending 44 = .ok (.aload_n 0, 1) := by decide +kernel
theorem dX9_seekMending_45 : decode cX9_seekMending 45 = .ok (.getfield 25, 3) := by decide +kernel
theorem dX9_seekMending_48 : decode cX9_seekMending 48 = .ok (.aload_n 0, 1) := by decide +kernel
theorem dX9_seekMending_49 : decode cX9_seekMending 49 = .ok (.getfield 21, 3) := by decide +kernel
theorem dX9_seekMending_52 : decode cX9_seekMending 52 = .ok (.invokevirtual 98, 3) := by decide +kernel
theorem dX9_seekMending_55 : decode cX9_seekMending 55 = .ok (.aload_n 0, 1) := by decide +kernel
theorem dX9_seekMending_56 : decode cX9_seekMending 56 = .ok (.getfield 72, 3) := by decide +kernel
theorem dX9_seekMending_59 : decode cX9_seekMending 59 = .ok (.iload_n 3, 1) := by decide +kernel
theorem dX9_seekMending_60 : decode cX9_seekMending 60 = .ok (.invokestatic 365, 3) := by decide +kernel
theorem dX9_seekMending_63 : decode cX9_seekMending 63 = .ok (.invokevirtual 368, 3) := by decide +kernel
theorem dX9_seekMending_66 : decode cX9_seekMending 66 = .ok (.ifCond .eq 39, 3) := by decide +kernel
theorem dX9_seekMending_69 : decode cX9_seekMending 69 = .ok (.aload_n 0, 1) := by decide +kernel
theorem dX9_seekMending_70 : decode cX9_seekMending 70 = .ok (.getfield 25, 3) := by decide +kernel
theorem dX9_seekMending_73 : decode cX9_seekMending 73 = .ok (.iload_n 3, 1) := by decide +kernel
theorem dX9_seekMending_74 : decode cX9_seekMending 74 = .ok (.iconst 4, 1) := by decide +kernel
theorem dX9_seekMending_75 : decode cX9_seekMending 75 = .ok (.idiv, 1) := by decide +kernel
theorem dX9_seekMending_76 : decode cX9_seekMending 76 = .ok (.iload_n 3, 1) := by decide +kernel
theorem dX9_seekMending_77 : decode cX9_seekMending 77 = .ok (.iconst 4, 1) := by decide +kernel
theorem dX9_seekMending_78 : decode cX9_seekMending 78 = .ok (.irem, 1) := by decide +kernel
theorem dX9_seekMending_79 : decode cX9_seekMending 79 = .ok (.invokevirtual 242, 3) := by decide +kernel
theorem dX9_seekMending_82 : decode cX9_seekMending 82 = .ok (.ifCond .eq 23, 3) := by decide +kernel
theorem dX9_seekMending_85 : decode cX9_seekMending 85 = .ok (.aload_n 0, 1) := by decide +kernel
theorem dX9_seekMending_86 : decode cX9_seekMending 86 = .ok (.aload_n 0, 1) := by decide +kernel
theorem dX9_seekMending_87 : decode cX9_seekMending 87 = .ok (.getfield 25, 3) := by decide +kernel
theorem dX9_seekMending_90 : decode cX9_seekMending 90 = .ok (.iload_n 1, 1) := by decide +kernel
theorem dX9_seekMending_91 : decode cX9_seekMending 91 = .ok (.invokevirtual 358, 3) := by decide +kernel
theorem dX9_seekMending_94 : decode cX9_seekMending 94 = .ok (.ifCond .eq 11, 3) := by decide +kernel
theorem dX9_seekMending_97 : decode cX9_seekMending 97 = .ok (.aload_n 0, 1) := by decide +kernel
theorem dX9_seekMending_98 : decode cX9_seekMending 98 = .ok (.getfield 72, 3) := by decide +kernel
theorem dX9_seekMending_101 : decode cX9_seekMending 101 = .ok (.iload_n 3, 1) := by decide +kernel
theorem dX9_seekMending_102 : decode cX9_seekMending 102 = .ok (.invokevirtual 371, 3) := by decide +kernel
theorem dX9_seekMending_105 : decode cX9_seekMending 105 = .ok (.iinc 3 1, 3) := by decide +kernel
theorem dX9_seekMending_108 : decode cX9_seekMending 108 = .ok (.goto (-69), 3) := by decide +kernel
theorem dX9_seekMending_111 : decode cX9_seekMending 111 = .ok (.iconst 0, 1) := by decide +kernel
theorem dX9_seekMending_112 : decode cX9_seekMending 112 = .ok (.istore_n 3, 1) := by decide +kernel
theorem dX9_seekMending_113 : decode cX9_seekMending 113 = .ok (.iload_n 3, 1) := by decide +kernel
theorem dX9_seekMending_114 : decode cX9_seekMending 114 = .ok (.iload_n 2, 1) := by decide +kernel
theorem dX9_seekMending_115 : decode cX9_seekMending 115 = .ok (.if_icmp .ge 42, 3) := by decide +kernel
theorem dX9_seekMending_118 : decode cX9_seekMending 118 = .ok (.aload_n 0, 1) := by decide +kernel
theorem dX9_seekMending_119 : decode cX9_seekMending 119 = .ok (.getfield 25, 3) := by decide +kernel
theorem dX9_seekMending_122 : decode cX9_seekMending 122 = .ok (.aload_n 0, 1) := by decide +kernel
theorem dX9_seekMending_123 : decode cX9_seekMending 123 = .ok (.getfield 21, 3) := by decide +kernel
theorem dX9_seekMending_126 : decode cX9_seekMending 126 = .ok (.invokevirtual 98, 3) := by decide +kernel
theorem dX9_seekMending_129 : decode cX9_seekMending 129 = .ok (.aload_n 0, 1) := by decide +kernel
theorem dX9_seekMending_130 : decode cX9_seekMending 130 = .ok (.getfield 25, 3) := by decide +kernel
theorem dX9_seekMending_133 : decode cX9_seekMending 133 = .ok (.iload_n 3, 1) := by decide +kernel
theorem dX9_seekMending_134 : decode cX9_seekMending 134 = .ok (.iconst 4, 1) := by decide +kernel
theorem dX9_seekMending_135 : decode cX9_seekMending 135 = .ok (.idiv, 1) := by decide +kernel
theorem dX9_seekMending_136 : decode cX9_seekMending 136 = .ok (.iload_n 3, 1) := by decide +kernel
theorem dX9_seekMending_137 : decode cX9_seekMending 137 = .ok (.iconst 4, 1) := by decide +kernel
theorem dX9_seekMending_138 : decode cX9_seekMending 138 = .ok (.irem, 1) := by decide +kernel
theorem dX9_seekMending_139 : decode cX9_seekMending 139 = .ok (.invokevirtual 242, 3) := by decide +kernel
theorem dX9_seekMending_142 : decode cX9_seekMending 142 = .ok (.ifCond .eq 9, 3) := by decide +kernel
theorem dX9_seekMending_145 : decode cX9_seekMending 145 = .ok (.aload_n 0, 1) := by decide +kernel
theorem dX9_seekMending_146 : decode cX9_seekMending 146 = .ok (.iload_n 3, 1) := by decide +kernel
theorem dX9_seekMending_147 : decode cX9_seekMending 147 = .ok (.iload_n 1, 1) := by decide +kernel
theorem dX9_seekMending_148 : decode cX9_seekMending 148 = .ok (.invokevirtual 374, 3) := by decide +kernel
theorem dX9_seekMending_151 : decode cX9_seekMending 151 = .ok (.iinc 3 1, 3) := by decide +kernel
theorem dX9_seekMending_154 : decode cX9_seekMending 154 = .ok (.goto (-41), 3) := by decide +kernel
theorem dX9_seekMending_157 : decode cX9_seekMending 157 = .ok (.return_, 1) := by decide +kernel
theorem dX9_seekSecondAct_0 : decode cX9_seekSecondAct 0 = .ok (.aload_n 0, 1) := by decide +kernel
theorem dX9_seekSecondAct_1 : decode cX9_seekSecondAct 1 = .ok (.getfield 21, 3) := by decide +kernel
theorem dX9_seekSecondAct_4 : decode cX9_seekSecondAct 4 = .ok (.getfield 106, 3) := by decide +kernel
theorem dX9_seekSecondAct_7 : decode cX9_seekSecondAct 7 = .ok (.iconst 4, 1) := by decide +kernel
theorem dX9_seekSecondAct_8 : decode cX9_seekSecondAct 8 = .ok (.imul, 1) := by decide +kernel
theorem dX9_seekSecondAct_9 : decode cX9_seekSecondAct 9 = .ok (.istore_n 3, 1) := by decide +kernel
theorem dX9_seekSecondAct_10 : decode cX9_seekSecondAct 10 = .ok (.iload_n 1, 1) := by decide +kernel
theorem dX9_seekSecondAct_11 : decode cX9_seekSecondAct 11 = .ok (.iload_n 1, 1) := by decide +kernel
theorem dX9_seekSecondAct_12 : decode cX9_seekSecondAct 12 = .ok (.iconst 4, 1) := by decide +kernel
theorem dX9_seekSecondAct_13 : decode cX9_seekSecondAct 13 = .ok (.irem, 1) := by decide +kernel
theorem dX9_seekSecondAct_14 : decode cX9_seekSecondAct 14 = .ok (.isub, 1) := by decide +kernel
theorem dX9_seekSecondAct_15 : decode cX9_seekSecondAct 15 = .ok (.istore 4, 2) := by decide +kernel
theorem dX9_seekSecondAct_17 : decode cX9_seekSecondAct 17 = .ok (.iload 4, 2) := by decide +kernel
theorem dX9_seekSecondAct_19 : decode cX9_seekSecondAct 19 = .ok (.iload_n 3, 1) := by decide +kernel
theorem dX9_seekSecondAct_20 : decode cX9_seekSecondAct 20 = .ok (.if_icmp .ge 83, 3) := by decide +kernel
theorem dX9_seekSecondAct_23 : decode cX9_seekSecondAct 23 = .ok (.aload_n 0, 1) := by decide +kernel
theorem dX9_seekSecondAct_24 : decode cX9_seekSecondAct 24 = .ok (.getfield 72, 3) := by decide +kernel
theorem dX9_seekSecondAct_27 : decode cX9_seekSecondAct 27 = .ok (.iload_n 1, 1) := by decide +kernel
theorem dX9_seekSecondAct_28 : decode cX9_seekSecondAct 28 = .ok (.invokestatic 365, 3) := by decide +kernel
theorem dX9_seekSecondAct_31 : decode cX9_seekSecondAct 31 = .ok (.iload 4, 2) := by decide +kernel
theorem dX9_seekSecondAct_33 : decode cX9_seekSecondAct 33 = .ok (.invokestatic 365, 3) := by decide +kernel
theorem dX9_seekSecondAct_36 : decode cX9_seekSecondAct 36 = .ok (.iadd, 1) := by decide +kernel
theorem dX9_seekSecondAct_37 : decode cX9_seekSecondAct 37 = .ok (.invokevirtual 368, 3) := by decide +kernel
theorem dX9_seekSecondAct_40 : decode cX9_seekSecondAct 40 = .ok (.ifCond .ne 6, 3) := by decide +kernel
theorem dX9_seekSecondAct_43 : decode cX9_seekSecondAct 43 = .ok (.goto 54, 3) := by decide +kernel
theorem dX9_seekSecondAct_46 : decode cX9_seekSecondAct 46 = .ok (.aload_n 0, 1) := by decide +kernel
theorem dX9_seekSecondAct_47 : decode cX9_seekSecondAct 47 = .ok (.getfield 28, 3) := by decide +kernel
theorem dX9_seekSecondAct_50 : decode cX9_seekSecondAct 50 = .ok (.aload_n 0, 1) := by decide +kernel
theorem dX9_seekSecondAct_51 : decode cX9_seekSecondAct 51 = .ok (.getfield 25, 3) := by decide +kernel
theorem dX9_seekSecondAct_54 : decode cX9_seekSecondAct 54 = .ok (.invokevirtual 98, 3) := by decide +kernel
theorem dX9_seekSecondAct_57 : decode cX9_seekSecondAct 57 = .ok (.aload_n 0, 1) := by decide +kernel
theorem dX9_seekSecondAct_58 : decode cX9_seekSecondAct 58 = .ok (.getfield 28, 3) := by decide +kernel
theorem dX9_seekSecondAct_61 : decode cX9_seekSecondAct 61 = .ok (.iload 4, 2) := by decide +kernel
theorem dX9_seekSecondAct_63 : decode cX9_seekSecondAct 63 = .ok (.iconst 4, 1) := by decide +kernel
theorem dX9_seekSecondAct_64 : decode cX9_seekSecondAct 64 = .ok (.idiv, 1) := by decide +kernel
theorem dX9_seekSecondAct_65 : decode cX9_seekSecondAct 65 = .ok (.iload 4, 2) := by decide +kernel
theorem dX9_seekSecondAct_67 : decode cX9_seekSecondAct 67 = .ok (.iconst 4, 1) := by decide +kernel
theorem dX9_seekSecondAct_68 : decode cX9_seekSecondAct 68 = .ok (.irem, 1) := by decide +kernel
theorem dX9_seekSecondAct_69 : decode cX9_seekSecondAct 69 = .ok (.invokevirtual 242, 3) := by decide +kernel
theorem dX9_seekSecondAct_72 : decode cX9_seekSecondAct 72 = .ok (.ifCond .eq 25, 3) := by decide +kernel
theorem dX9_seekSecondAct_75 : decode cX9_seekSecondAct 75 = .ok (.aload_n 0, 1) := by decide +kernel
theorem dX9_seekSecondAct_76 : decode cX9_seekSecondAct 76 = .ok (.aload_n 0, 1) := by decide +kernel
theorem dX9_seekSecondAct_77 : decode cX9_seekSecondAct 77 = .ok (.getfield 28, 3) := by decide +kernel
theorem dX9_seekSecondAct_80 : decode cX9_seekSecondAct 80 = .ok (.iload_n 2, 1) := by decide +kernel
theorem dX9_seekSecondAct_81 : decode cX9_seekSecondAct 81 = .ok (.invokevirtual 358, 3) := by decide +kernel
theorem dX9_seekSecondAct_84 : decode cX9_seekSecondAct 84 = .ok (.ifCond .eq 13, 3) := by decide +kernel
theorem dX9_seekSecondAct_87 : decode cX9_seekSecondAct 87 = .ok (.aload_n 0, 1) := by decide +kernel
theorem dX9_seekSecondAct_88 : decode cX9_seekSecondAct 88 = .ok (.getfield 72, 3) := by decide +kernel
theorem dX9_seekSecondAct_91 : decode cX9_seekSecondAct 91 = .ok (.iload_n 1, 1) := by decide +kernel
theorem dX9_seekSecondAct_92 : decode cX9_seekSecondAct 92 = .ok (.iload 4, 2) := by decide +kernel
theorem dX9_seekSecondAct_94 : decode cX9_seekSecondAct 94 = .ok (.invokevirtual 378, 3) := by decide +kernel
theorem dX9_seekSecondAct_97 : decode cX9_seekSecondAct 97 = .ok (.iinc 4 1, 3) := by decide +kernel
theorem dX9_seekSecondAct_100 : decode cX9_seekSecondAct 100 = .ok (.goto (-83), 3) := by decide +kernel
theorem dX9_seekSecondAct_103 : decode cX9_seekSecondAct 103 = .ok (.return_, 1) := by decide +kernel
theorem dX9_leaveInTrail_0 : decode cX9_leaveInTrail 0 = .ok (.aload_n 0, 1) := by decide +kernel
theorem dX9_leaveInTrail_1 : decode cX9_leaveInTrail 1 = .ok (.bipush 31, 2) := by decide +kernel
theorem dX9_leaveInTrail_3 : decode cX9_leaveInTrail 3 = .ok (.aload_n 0, 1) := by decide +kernel
theorem dX9_leaveInTrail_4 : decode cX9_leaveInTrail 4 = .ok (.getfield 83, 3) := by decide +kernel
theorem dX9_leaveInTrail_7 : decode cX9_leaveInTrail 7 = .ok (.imul, 1) := by decide +kernel
theorem dX9_leaveInTrail_8 : decode cX9_leaveInTrail 8 = .ok (.iload_n 1, 1) := by decide +kernel
theorem dX9_leaveInTrail_9 : decode cX9_leaveInTrail 9 = .ok (.iadd, 1) := by decide +kernel
theorem dX9_leaveInTrail_10 : decode cX9_leaveInTrail 10 = .ok (.putfield 83, 3) := by decide +kernel
theorem dX9_leaveInTrail_13 : decode cX9_leaveInTrail 13 = .ok (.return_, 1) := by decide +kernel
theorem dX9_tellAsTooth_0 : decode cX9_tellAsTooth 0 = .ok (.aload_n 0, 1) := by decide +kernel
theorem dX9_tellAsTooth_1 : decode cX9_tellAsTooth 1 = .ok (.iconst 1, 1) := by decide +kernel
theorem dX9_tellAsTooth_2 : decode cX9_tellAsTooth 2 = .ok (.invokevirtual 323, 3) := by decide +kernel
theorem dX9_tellAsTooth_5 : decode cX9_tellAsTooth 5 = .ok (.aload_n 0, 1) := by decide +kernel
theorem dX9_tellAsTooth_6 : decode cX9_tellAsTooth 6 = .ok (.getfield 21, 3) := by decide +kernel
theorem dX9_tellAsTooth_9 : decode cX9_tellAsTooth 9 = .ok (.iload_n 1, 1) := by decide +kernel
theorem dX9_tellAsTooth_10 : decode cX9_tellAsTooth 10 = .ok (.iconst 2, 1) := by decide +kernel
theorem dX9_tellAsTooth_11 : decode cX9_tellAsTooth 11 = .ok (.invokevirtual 118, 3) := by decide +kernel
theorem dX9_tellAsTooth_14 : decode cX9_tellAsTooth 14 = .ok (.ireturn, 1) := by decide +kernel
theorem dX9_tellAsBent_0 : decode cX9_tellAsBent 0 = .ok (.aload_n 0, 1) := by decide +kernel
theorem dX9_tellAsBent_1 : decode cX9_tellAsBent 1 = .ok (.iconst 2, 1) := by decide +kernel
theorem dX9_tellAsBent_2 : decode cX9_tellAsBent 2 = .ok (.invokevirtual 323, 3) := by decide +kernel
theorem dX9_tellAsBent_5 : decode cX9_tellAsBent 5 = .ok (.aload_n 0, 1) := by decide +kernel
theorem dX9_tellAsBent_6 : decode cX9_tellAsBent 6 = .ok (.iload_n 1, 1) := by decide +kernel
theorem dX9_tellAsBent_7 : decode cX9_tellAsBent 7 = .ok (.invokevirtual 320, 3) := by decide +kernel
theorem dX9_tellAsBent_10 : decode cX9_tellAsBent 10 = .ok (.bipush 100, 2) := by decide +kernel
theorem dX9_tellAsBent_12 : decode cX9_tellAsBent 12 = .ok (.iadd, 1) := by decide +kernel
theorem dX9_tellAsBent_13 : decode cX9_tellAsBent 13 = .ok (.ireturn, 1) := by decide +kernel
theorem dX9_tellAsHooked_0 : decode cX9_tellAsHooked 0 = .ok (.aload_n 0, 1) := by decide +kernel
theorem dX9_tellAsHooked_1 : decode cX9_tellAsHooked 1 = .ok (.iconst 3, 1) := by decide +kernel
theorem dX9_tellAsHooked_2 : decode cX9_tellAsHooked 2 = .ok (.invokevirtual 323, 3) := by decide +kernel
theorem dX9_tellAsHooked_5 : decode cX9_tellAsHooked 5 = .ok (.aload_n 0, 1) := by decide +kernel
theorem dX9_tellAsHooked_6 : decode cX9_tellAsHooked 6 = .ok (.iload_n 1, 1) := by decide +kernel
theorem dX9_tellAsHooked_7 : decode cX9_tellAsHooked 7 = .ok (.invokevirtual 317, 3) := by decide +kernel
theorem dX9_tellAsHooked_10 : decode cX9_tellAsHooked 10 = .ok (.istore_n 2, 1) := by decide +kernel
theorem dX9_tellAsHooked_11 : decode cX9_tellAsHooked 11 = .ok (.iload_n 2, 1) := by decide +kernel
theorem dX9_tellAsHooked_12 : decode cX9_tellAsHooked 12 = .ok (.aload_n 0, 1) := by decide +kernel
theorem dX9_tellAsHooked_13 : decode cX9_tellAsHooked 13 = .ok (.iload_n 1, 1) := by decide +kernel
theorem dX9_tellAsHooked_14 : decode cX9_tellAsHooked 14 = .ok (.invokevirtual 320, 3) := by decide +kernel
theorem dX9_tellAsHooked_17 : decode cX9_tellAsHooked 17 = .ok (.iadd, 1) := by decide +kernel
theorem dX9_tellAsHooked_18 : decode cX9_tellAsHooked 18 = .ok (.ireturn, 1) := by decide +kernel
theorem dX10_init_0 : decode cX10_init 0 = .ok (.aload_n 0, 1) := by decide +kernel
theorem dX10_init_1 : decode cX10_init 1 = .ok (.invokespecial 1, 3) := by decide +kernel
theorem dX10_init_4 : decode cX10_init 4 = .ok (.aload_n 0, 1) := by decide +kernel
theorem dX10_init_5 : decode cX10_init 5 = .ok (.bipush 8, 2) := by decide +kernel
theorem dX10_init_7 : decode cX10_init 7 = .ok (.newarray .int, 2) := by decide +kernel
theorem dX10_init_9 : decode cX10_init 9 = .ok (.putfield 7, 3) := by decide +kernel
theorem dX10_init_12 : decode cX10_init 12 = .ok (.aload_n 0, 1) := by decide +kernel
theorem dX10_init_13 : decode cX10_init 13 = .ok (.bipush 8, 2) := by decide +kernel
theorem dX10_init_15 : decode cX10_init 15 = .ok (.newarray .int, 2) := by decide +kernel
theorem dX10_init_17 : decode cX10_init 17 = .ok (.putfield 13, 3) := by decide +kernel
theorem dX10_init_20 : decode cX10_init 20 = .ok (.aload_n 0, 1) := by decide +kernel
theorem dX10_init_21 : decode cX10_init 21 = .ok (.bipush 8, 2) := by decide +kernel
theorem dX10_init_23 : decode cX10_init 23 = .ok (.newarray .int, 2) := by decide +kernel
theorem dX10_init_25 : decode cX10_init 25 = .ok (.putfield 16, 3) := by decide +kernel
theorem dX10_init_28 : decode cX10_init 28 = .ok (.aload_n 0, 1) := by decide +kernel
theorem dX10_init_29 : decode cX10_init 29 = .ok (.bipush 8, 2) := by decide +kernel
theorem dX10_init_31 : decode cX10_init 31 = .ok (.newarray .int, 2) := by decide +kernel
theorem dX10_init_33 : decode cX10_init 33 = .ok (.putfield 19, 3) := by decide +kernel
theorem dX10_init_36 : decode cX10_init 36 = .ok (.aload_n 0, 1) := by decide +kernel
theorem dX10_init_37 : decode cX10_init 37 = .ok (.bipush 8, 2) := by decide +kernel
theorem dX10_init_39 : decode cX10_init 39 = .ok (.newarray .int, 2) := by decide +kernel
theorem dX10_init_41 : decode cX10_init 41 = .ok (.putfield 22, 3) := by decide +kernel
theorem dX10_init_44 : decode cX10_init 44 = .ok (.aload_n 0, 1) := by decide +kernel
theorem dX10_init_45 : decode cX10_init 45 = .ok (.bipush 8, 2) := by decide +kernel
theorem dX10_init_47 : decode cX10_init 47 = .ok (.newarray .int, 2) := by decide +kernel
theorem dX10_init_49 : decode cX10_init 49 = .ok (.putfield 25, 3) := by decide +kernel
theorem dX10_init_52 : decode cX10_init 52 = .ok (.aload_n 0, 1) := by decide +kernel
theorem dX10_init_53 : decode cX10_init 53 = .ok (.bipush 8, 2) := by decide +kernel
theorem dX10_init_55 : decode cX10_init 55 = .ok (.newarray .int, 2) := by decide +kernel
theorem dX10_init_57 : decode cX10_init 57 = .ok (.putfield 28, 3) := by decide +kernel
theorem dX10_init_60 : decode cX10_init 60 = .ok (.aload_n 0, 1) := by decide +kernel
theorem dX10_init_61 : decode cX10_init 61 = .ok (.bipush 72, 2) := by decide +kernel
theorem dX10_init_63 : decode cX10_init 63 = .ok (.newarray .int, 2) := by decide +kernel
theorem dX10_init_65 : decode cX10_init 65 = .ok (.putfield 31, 3) := by decide +kernel
theorem dX10_init_68 : decode cX10_init 68 = .ok (.aload_n 0, 1) := by decide +kernel
theorem dX10_init_69 : decode cX10_init 69 = .ok (.bipush 24, 2) := by decide +kernel
theorem dX10_init_71 : decode cX10_init 71 = .ok (.newarray .int, 2) := by decide +kernel
theorem dX10_init_73 : decode cX10_init 73 = .ok (.putfield 34, 3) := by decide +kernel
theorem dX10_init_76 : decode cX10_init 76 = .ok (.aload_n 0, 1) := by decide +kernel
theorem dX10_init_77 : decode cX10_init 77 = .ok (.bipush 24, 2) := by decide +kernel
theorem dX10_init_79 : decode cX10_init 79 = .ok (.newarray .int, 2) := by decide +kernel
theorem dX10_init_81 : decode cX10_init 81 = .ok (.putfield 37, 3) := by decide +kernel
theorem dX10_init_84 : decode cX10_init 84 = .ok (.aload_n 0, 1) := by decide +kernel
theorem dX10_init_85 : decode cX10_init 85 = .ok (.bipush 24, 2) := by decide +kernel
theorem dX10_init_87 : decode cX10_init 87 = .ok (.newarray .int, 2) := by decide +kernel
theorem dX10_init_89 : decode cX10_init 89 = .ok (.putfield 40, 3) := by decide +kernel
theorem dX10_init_92 : decode cX10_init 92 = .ok (.aload_n 0, 1) := by decide +kernel
theorem dX10_init_93 : decode cX10_init 93 = .ok (.bipush 24, 2) := by decide +kernel
theorem dX10_init_95 : decode cX10_init 95 = .ok (.newarray .int, 2) := by decide +kernel
theorem dX10_init_97 : decode cX10_init 97 = .ok (.putfield 43, 3) := by decide +kernel
theorem dX10_init_100 : decode cX10_init 100 = .ok (.aload_n 0, 1) := by decide +kernel
theorem dX10_init_101 : decode cX10_init 101 = .ok (.bipush 24, 2) := by decide +kernel
theorem dX10_init_103 : decode cX10_init 103 = .ok (.newarray .int, 2) := by decide +kernel
theorem dX10_init_105 : decode cX10_init 105 = .ok (.putfield 46, 3) := by decide +kernel
theorem dX10_init_108 : decode cX10_init 108 = .ok (.aload_n 0, 1) := by decide +kernel
theorem dX10_init_109 : decode cX10_init 109 = .ok (.bipush 6, 2) := by decide +kernel
theorem dX10_init_111 : decode cX10_init 111 = .ok (.newarray .int, 2) := by decide +kernel
theorem dX10_init_113 : decode cX10_init 113 = .ok (.putfield 49, 3) := by decide +kernel
theorem dX10_init_116 : decode cX10_init 116 = .ok (.aload_n 0, 1) := by decide +kernel
theorem dX10_init_117 : decode cX10_init 117 = .ok (.bipush 6, 2) := by decide +kernel
theorem dX10_init_119 : decode cX10_init 119 = .ok (.newarray .int, 2) := by decide +kernel
theorem dX10_init_121 : decode cX10_init 121 = .ok (.putfield 52, 3) := by decide +kernel
theorem dX10_init_124 : decode cX10_init 124 = .ok (.aload_n 0, 1) := by decide +kernel
theorem dX10_init_125 : decode cX10_init 125 = .ok (.bipush 6, 2) := by decide +kernel
theorem dX10_init_127 : decode cX10_init 127 = .ok (.newarray .int, 2) := by decide +kernel
theorem dX10_init_129 : decode cX10_init 129 = .ok (.putfield 55, 3) := by decide +kernel
theorem dX10_init_132 : decode cX10_init 132 = .ok (.aload_n 0, 1) := by decide +kernel
theorem dX10_init_133 : decode cX10_init 133 = .ok (.bipush 8, 2) := by decide +kernel
theorem dX10_init_135 : decode cX10_init 135 = .ok (.newarray .int, 2) := by decide +kernel
theorem dX10_init_137 : decode cX10_init 137 = .ok (.putfield 58, 3) := by decide +kernel
theorem dX10_init_140 : decode cX10_init 140 = .ok (.aload_n 0, 1) := by decide +kernel
theorem dX10_init_141 : decode cX10_init 141 = .ok (.bipush 8, 2) := by decide +kernel
theorem dX10_init_143 : decode cX10_init 143 = .ok (.newarray .int, 2) := by decide +kernel
theorem dX10_init_145 : decode cX10_init 145 = .ok (.putfield 61, 3) := by decide +kernel
theorem dX10_init_148 : decode cX10_init 148 = .ok (.aload_n 0, 1) := by decide +kernel
theorem dX10_init_149 : decode cX10_init 149 = .ok (.bipush 6, 2) := by decide +kernel
theorem dX10_init_151 : decode cX10_init 151 = .ok (.newarray .int, 2) := by decide +kernel
theorem dX10_init_153 : decode cX10_init 153 = .ok (.putfield 64, 3) := by decide +kernel
theorem dX10_init_156 : decode cX10_init 156 = .ok (.aload_n 0, 1) := by decide +kernel
theorem dX10_init_157 : decode cX10_init 157 = .ok (.bipush 6, 2) := by decide +kernel
theorem dX10_init_159 : decode cX10_init 159 = .ok (.newarray .int, 2) := by decide +kernel
theorem dX10_init_161 : decode cX10_init 161 = .ok (.putfield 67, 3) := by decide +kernel
theorem dX10_init_164 : decode cX10_init 164 = .ok (.aload_n 0, 1) := by decide +kernel
theorem dX10_init_165 : decode cX10_init 165 = .ok (.bipush 7, 2) := by decide +kernel
theorem dX10_init_167 : decode cX10_init 167 = .ok (.newarray .int, 2) := by decide +kernel
theorem dX10_init_169 : decode cX10_init 169 = .ok (.putfield 70, 3) := by decide +kernel
theorem dX10_init_172 : decode cX10_init 172 = .ok (.aload_n 0, 1) := by decide +kernel
theorem dX10_init_173 : decode cX10_init 173 = .ok (.iconst 4, 1) := by decide +kernel
theorem dX10_init_174 : decode cX10_init 174 = .ok (.newarray .int, 2) := by decide +kernel
theorem dX10_init_176 : decode cX10_init 176 = .ok (.putfield 73, 3) := by decide +kernel
theorem dX10_init_179 : decode cX10_init 179 = .ok (.aload_n 0, 1) := by decide +kernel
theorem dX10_init_180 : decode cX10_init 180 = .ok (.iconst 4, 1) := by decide +kernel
theorem dX10_init_181 : decode cX10_init 181 = .ok (.newarray .int, 2) := by decide +kernel
theorem dX10_init_183 : decode cX10_init 183 = .ok (.putfield 76, 3) := by decide +kernel
theorem dX10_init_186 : decode cX10_init 186 = .ok (.aload_n 0, 1) := by decide +kernel
theorem dX10_init_187 : decode cX10_init 187 = .ok (.sipush 320, 3) := by decide +kernel
theorem dX10_init_190 : decode cX10_init 190 = .ok (.newarray .int, 2) := by decide +kernel
theorem dX10_init_192 : decode cX10_init 192 = .ok (.putfield 79, 3) := by decide +kernel
theorem dX10_init_195 : decode cX10_init 195 = .ok (.aload_n 0, 1) := by decide +kernel
theorem dX10_init_196 : decode cX10_init 196 = .ok (.bipush 80, 2) := by decide +kernel
theorem dX10_init_198 : decode cX10_init 198 = .ok (.newarray .int, 2) := by decide +kernel
theorem dX10_init_200 : decode cX10_init 200 = .ok (.putfield 82, 3) := by decide +kernel
theorem dX10_init_203 : decode cX10_init 203 = .ok (.iconst 0, 1) := by decide +kernel
theorem dX10_init_204 : decode cX10_init 204 = .ok (.istore_n 1, 1) := by decide +kernel
theorem dX10_init_205 : decode cX10_init 205 = .ok (.iload_n 1, 1) := by decide +kernel
theorem dX10_init_206 : decode cX10_init 206 = .ok (.iconst 4, 1) := by decide +kernel
theorem dX10_init_207 : decode cX10_init 207 = .ok (.if_icmp .ge 16, 3) := by decide +kernel
theorem dX10_init_210 : decode cX10_init 210 = .ok (.aload_n 0, 1) := by decide +kernel
theorem dX10_init_211 : decode cX10_init 211 = .ok (.getfield 73, 3) := by decide +kernel
theorem dX10_init_214 : decode cX10_init 214 = .ok (.iload_n 1, 1) := by decide +kernel
theorem dX10_init_215 : decode cX10_init 215 = .ok (.iconst (-1), 1) := by decide +kernel
theorem dX10_init_216 : decode cX10_init 216 = .ok (.iastore, 1) := by decide +kernel
theorem dX10_init_217 : decode cX10_init 217 = .ok (.iinc 1 1, 3) := by decide +kernel
theorem dX10_init_220 : decode cX10_init 220 = .ok (.goto (-15), 3) := by decide +kernel
theorem dX10_init_223 : decode cX10_init 223 = .ok (.return_, 1) := by decide +kernel
theorem dX10_in_0 : decode cX10_in 0 = .ok (.lload_n 0, 1) := by decide +kernel
theorem dX10_in_1 : decode cX10_in 1 = .ok (.lload_n 2, 1) := by decide +kernel
theorem dX10_in_2 : decode cX10_in 2 = .ok (.lcmp, 1) := by decide +kernel
theorem dX10_in_3 : decode cX10_in 3 = .ok (.ifCond .lt 14, 3) := by decide +kernel
theorem dX10_in_6 : decode cX10_in 6 = .ok (.lload_n 0, 1) := by decide +kernel
theorem dX10_in_7 : decode cX10_in 7 = .ok (.lload 4, 2) := by decide +kernel
theorem dX10_in_9 : decode cX10_in 9 = .ok (.lcmp, 1) := by decide +kernel
theorem dX10_in_10 : decode cX10_in 10 = .ok (.ifCond .gt 7, 3) := by decide +kernel
theorem dX10_in_13 : decode cX10_in 13 = .ok (.iconst 1, 1) := by decide +kernel
theorem dX10_in_14 : decode cX10_in 14 = .ok (.goto 4, 3) := by decide +kernel
theorem dX10_in_17 : decode cX10_in 17 = .ok (.iconst 0, 1) := by decide +kernel
theorem dX10_in_18 : decode cX10_in 18 = .ok (.ireturn, 1) := by decide +kernel
theorem dX10_lost_0 : decode cX10_lost 0 = .ok (.ldc2_w 85, 3) := by decide +kernel
theorem dX10_lost_3 : decode cX10_lost 3 = .ok (.lreturn, 1) := by decide +kernel
theorem dX10_greater_0 : decode cX10_greater 0 = .ok (.iload_n 0, 1) := by decide +kernel
theorem dX10_greater_1 : decode cX10_greater 1 = .ok (.iload_n 1, 1) := by decide +kernel
theorem dX10_greater_2 : decode cX10_greater 2 = .ok (.if_icmp .le 7, 3) := by decide +kernel
theorem dX10_greater_5 : decode cX10_greater 5 = .ok (.iload_n 0, 1) := by decide +kernel
theorem dX10_greater_6 : decode cX10_greater 6 = .ok (.goto 4, 3) := by decide +kernel
theorem dX10_greater_9 : decode cX10_greater 9 = .ok (.iload_n 1, 1) := by decide +kernel
theorem dX10_greater_10 : decode cX10_greater 10 = .ok (.ireturn, 1) := by decide +kernel
theorem dX10_size_0 : decode cX10_size 0 = .ok (.iload_n 0, 1) := by decide +kernel
theorem dX10_size_1 : decode cX10_size 1 = .ok (.ifCond .ge 8, 3) := by decide +kernel
theorem dX10_size_4 : decode cX10_size 4 = .ok (.iload_n 0, 1) := by decide +kernel
theorem dX10_size_5 : decode cX10_size 5 = .ok (.ineg, 1) := by decide +kernel
theorem dX10_size_6 : decode cX10_size 6 = .ok (.goto 4, 3) := by decide +kernel
theorem dX10_size_9 : decode cX10_size 9 = .ok (.iload_n 0, 1) := by decide +kernel
theorem dX10_size_10 : decode cX10_size 10 = .ok (.ireturn, 1) := by decide +kernel
theorem dX10_refused_0 : decode cX10_refused 0 = .ok (.aload_n 0, 1) := by decide +kernel
theorem dX10_refused_1 : decode cX10_refused 1 = .ok (.iconst 0, 1) := by decide +kernel
theorem dX10_refused_2 : decode cX10_refused 2 = .ok (.putfield 87, 3) := by decide +kernel
theorem dX10_refused_5 : decode cX10_refused 5 = .ok (.iload_n 1, 1) := by decide +kernel
theorem dX10_refused_6 : decode cX10_refused 6 = .ok (.ireturn, 1) := by decide +kernel
theorem dX10_failed_0 : decode cX10_failed 0 = .ok (.aload_n 0, 1) := by decide +kernel
theorem dX10_failed_1 : decode cX10_failed 1 = .ok (.iload_n 1, 1) := by decide +kernel
theorem dX10_failed_2 : decode cX10_failed 2 = .ok (.putfield 87, 3) := by decide +kernel
theorem dX10_failed_5 : decode cX10_failed 5 = .ok (.bipush (-10), 2) := by decide +kernel
theorem dX10_failed_7 : decode cX10_failed 7 = .ok (.iload_n 1, 1) := by decide +kernel
theorem dX10_failed_8 : decode cX10_failed 8 = .ok (.isub, 1) := by decide +kernel
theorem dX10_failed_9 : decode cX10_failed 9 = .ok (.ireturn, 1) := by decide +kernel
theorem dX10_failedLong_0 : decode cX10_failedLong 0 = .ok (.aload_n 0, 1) := by decide +kernel
theorem dX10_failedLong_1 : decode cX10_failedLong 1 = .ok (.iload_n 1, 1) := by decide +kernel
theorem dX10_failedLong_2 : decode cX10_failedLong 2 = .ok (.putfield 87, 3) := by decide +kernel
theorem dX10_failedLong_5 : decode cX10_failedLong 5 = .ok (.invokestatic 91, 3) := by decide +kernel
theorem dX10_failedLong_8 : decode cX10_failedLong 8 = .ok (.lreturn, 1) := by decide +kernel
theorem dX10_barred_0 : decode cX10_barred 0 = .ok (.iload_n 1, 1) := by decide +kernel
theorem dX10_barred_1 : decode cX10_barred 1 = .ok (.invokestatic 95, 3) := by decide +kernel
theorem dX10_barred_4 : decode cX10_barred 4 = .ok (.ifCond .eq 9, 3) := by decide +kernel
theorem dX10_barred_7 : decode cX10_barred 7 = .ok (.aload_n 0, 1) := by decide +kernel
theorem dX10_barred_8 : decode cX10_barred 8 = .ok (.iconst (-1), 1) := by decide +kernel
theorem dX10_barred_9 : decode cX10_barred 9 = .ok (.invokevirtual 99, 3) := by decide +kernel
theorem dX10_barred_12 : decode cX10_barred 12 = .ok (.ireturn, 1) := by decide +kernel
theorem dX10_barred_13 : decode cX10_barred 13 = .ok (.iload_n 2, 1) := by decide +kernel
theorem dX10_barred_14 : decode cX10_barred 14 = .ok (.i2l, 1) := by decide +kernel
theorem dX10_barred_15 : decode cX10_barred 15 = .ok (.lconst 0, 1) := by decide +kernel
theorem dX10_barred_16 : decode cX10_barred 16 = .ok (.ldc2_w 103, 3) := by decide +kernel
theorem dX10_barred_19 : decode cX10_barred 19 = .ok (.invokestatic 105, 3) := by decide +kernel
theorem dX10_barred_22 : decode cX10_barred 22 = .ok (.ifCond .ne 10, 3) := by decide +kernel
theorem dX10_barred_25 : decode cX10_barred 25 = .ok (.aload_n 0, 1) := by decide +kernel
theorem dX10_barred_26 : decode cX10_barred 26 = .ok (.bipush (-2), 2) := by decide +kernel
theorem dX10_barred_28 : decode cX10_barred 28 = .ok (.invokevirtual 99, 3) := by decide +kernel
theorem dX10_barred_31 : decode cX10_barred 31 = .ok (.ireturn, 1) := by decide +kernel
theorem dX10_barred_32 : decode cX10_barred 32 = .ok (.aload_n 0, 1) := by decide +kernel
theorem dX10_barred_33 : decode cX10_barred 33 = .ok (.getfield 73, 3) := by decide +kernel
theorem dX10_barred_36 : decode cX10_barred 36 = .ok (.iload_n 1, 1) := by decide +kernel
theorem dX10_barred_37 : decode cX10_barred 37 = .ok (.iaload, 1) := by decide +kernel
theorem dX10_barred_38 : decode cX10_barred 38 = .ok (.ifCond .lt 19, 3) := by decide +kernel
theorem dX10_barred_41 : decode cX10_barred 41 = .ok (.aload_n 0, 1) := by decide +kernel
theorem dX10_barred_42 : decode cX10_barred 42 = .ok (.getfield 76, 3) := by decide +kernel
theorem dX10_barred_45 : decode cX10_barred 45 = .ok (.iload_n 1, 1) := by decide +kernel
theorem dX10_barred_46 : decode cX10_barred 46 = .ok (.iaload, 1) := by decide +kernel
theorem dX10_barred_47 : decode cX10_barred 47 = .ok (.iload_n 2, 1) := by decide +kernel
theorem dX10_barred_48 : decode cX10_barred 48 = .ok (.if_icmp .eq 9, 3) := by decide +kernel
theorem dX10_barred_51 : decode cX10_barred 51 = .ok (.aload_n 0, 1) := by decide +kernel
theorem dX10_barred_52 : decode cX10_barred 52 = .ok (.iconst 2, 1) := by decide +kernel
theorem dX10_barred_53 : decode cX10_barred 53 = .ok (.invokevirtual 109, 3) := by decide +kernel
theorem dX10_barred_56 : decode cX10_barred 56 = .ok (.ireturn, 1) := by decide +kernel
theorem dX10_barred_57 : decode cX10_barred 57 = .ok (.aload_n 0, 1) := by decide +kernel
theorem dX10_barred_58 : decode cX10_barred 58 = .ok (.getfield 73, 3) := by decide +kernel
theorem dX10_barred_61 : decode cX10_barred 61 = .ok (.iload_n 1, 1) := by decide +kernel
theorem dX10_barred_62 : decode cX10_barred 62 = .ok (.iaload, 1) := by decide +kernel
theorem dX10_barred_63 : decode cX10_barred 63 = .ok (.ifCond .ge 9, 3) := by decide +kernel
theorem dX10_barred_66 : decode cX10_barred 66 = .ok (.aload_n 0, 1) := by decide +kernel
theorem dX10_barred_67 : decode cX10_barred 67 = .ok (.iconst 1, 1) := by decide +kernel
theorem dX10_barred_68 : decode cX10_barred 68 = .ok (.invokevirtual 109, 3) := by decide +kernel
theorem dX10_barred_71 : decode cX10_barred 71 = .ok (.ireturn, 1) := by decide +kernel
theorem dX10_barred_72 : decode cX10_barred 72 = .ok (.lload 4, 2) := by decide +kernel
theorem dX10_barred_74 : decode cX10_barred 74 = .ok (.lconst 0, 1) := by decide +kernel
theorem dX10_barred_75 : decode cX10_barred 75 = .ok (.lcmp, 1) := by decide +kernel
theorem dX10_barred_76 : decode cX10_barred 76 = .ok (.ifCond .ge 9, 3) := by decide +kernel
theorem dX10_barred_79 : decode cX10_barred 79 = .ok (.aload_n 0, 1) := by decide +kernel
theorem dX10_barred_80 : decode cX10_barred 80 = .ok (.iconst 4, 1) := by decide +kernel
theorem dX10_barred_81 : decode cX10_barred 81 = .ok (.invokevirtual 109, 3) := by decide +kernel
theorem dX10_barred_84 : decode cX10_barred 84 = .ok (.ireturn, 1) := by decide +kernel
theorem dX10_barred_85 : decode cX10_barred 85 = .ok (.iload_n 3, 1) := by decide +kernel
theorem dX10_barred_86 : decode cX10_barred 86 = .ok (.lload 4, 2) := by decide +kernel
theorem dX10_barred_88 : decode cX10_barred 88 = .ok (.aload_n 0, 1) := by decide +kernel
theorem dX10_barred_89 : decode cX10_barred 89 = .ok (.getfield 73, 3) := by decide +kernel
theorem dX10_barred_92 : decode cX10_barred 92 = .ok (.iload_n 1, 1) := by decide +kernel
theorem dX10_barred_93 : decode cX10_barred 93 = .ok (.iaload, 1) := by decide +kernel
theorem dX10_barred_94 : decode cX10_barred 94 = .ok (.invokestatic 112, 3) := by decide +kernel
theorem dX10_barred_97 : decode cX10_barred 97 = .ok (.ifCond .eq 11, 3) := by decide +kernel
theorem dX10_barred_100 : decode cX10_barred 100 = .ok (.aload_n 0, 1) := by decide +kernel
theorem dX10_barred_101 : decode cX10_barred 101 = .ok (.iconst 3, 1) := by decide +kernel
theorem dX10_barred_102 : decode cX10_barred 102 = .ok (.invokevirtual 109, 3) := by decide +kernel
theorem dX10_barred_105 : decode cX10_barred 105 = .ok (.goto 4, 3) := by decide +kernel
theorem dX10_barred_108 : decode cX10_barred 108 = .ok (.iconst 0, 1) := by decide +kernel
theorem dX10_barred_109 : decode cX10_barred 109 = .ok (.ireturn, 1) := by decide +kernel
theorem dX10_noTooth_0 : decode cX10_noTooth 0 = .ok (.iload_n 1, 1) := by decide +kernel
theorem dX10_noTooth_1 : decode cX10_noTooth 1 = .ok (.i2l, 1) := by decide +kernel
theorem dX10_noTooth_2 : decode cX10_noTooth 2 = .ok (.lconst 0, 1) := by decide +kernel
theorem dX10_noTooth_3 : decode cX10_noTooth 3 = .ok (.aload_n 0, 1) := by decide +kernel
theorem dX10_noTooth_4 : decode cX10_noTooth 4 = .ok (.getfield 116, 3) := by decide +kernel
theorem dX10_noTooth_7 : decode cX10_noTooth 7 = .ok (.i2l, 1) := by decide +kernel
theorem dX10_noTooth_8 : decode cX10_noTooth 8 = .ok (.lconst 1, 1) := by decide +kernel
theorem dX10_noTooth_9 : decode cX10_noTooth 9 = .ok (.lsub, 1) := by decide +kernel
theorem dX10_noTooth_10 : decode cX10_noTooth 10 = .ok (.invokestatic 105, 3) := by decide +kernel
theorem dX10_noTooth_13 : decode cX10_noTooth 13 = .ok (.ifCond .ne 7, 3) := by decide +kernel
theorem dX10_noTooth_16 : decode cX10_noTooth 16 = .ok (.iconst 1, 1) := by decide +kernel
theorem dX10_noTooth_17 : decode cX10_noTooth 17 = .ok (.goto 4, 3) := by decide +kernel
theorem dX10_noTooth_20 : decode cX10_noTooth 20 = .ok (.iconst 0, 1) := by decide +kernel
theorem dX10_noTooth_21 : decode cX10_noTooth 21 = .ok (.ireturn, 1) := by decide +kernel
theorem dX10_sideBy_0 : decode cX10_sideBy 0 = .ok (.iload_n 0, 1) := by decide +kernel
theorem dX10_sideBy_1 : decode cX10_sideBy 1 = .ok (.bipush 108, 2) := by decide +kernel
theorem dX10_sideBy_3 : decode cX10_sideBy 3 = .ok (.if_icmp .ne 7, 3) := by decide +kernel
theorem dX10_sideBy_6 : decode cX10_sideBy 6 = .ok (.iconst (-1), 1) := by decide +kernel
theorem dX10_sideBy_7 : decode cX10_sideBy 7 = .ok (.goto 25, 3) := by decide +kernel
theorem dX10_sideBy_10 : decode cX10_sideBy 10 = .ok (.iload_n 0, 1) := by decide +kernel
theorem dX10_sideBy_11 : decode cX10_sideBy 11 = .ok (.bipush 99, 2) := by decide +kernel
theorem dX10_sideBy_13 : decode cX10_sideBy 13 = .ok (.if_icmp .ne 7, 3) := by decide +kernel
theorem dX10_sideBy_16 : decode cX10_sideBy 16 = .ok (.iconst 0, 1) := by decide +kernel
theorem dX10_sideBy_17 : decode cX10_sideBy 17 = .ok (.goto 15, 3) := by decide +kernel
theorem dX10_sideBy_20 : decode cX10_sideBy 20 = .ok (.iload_n 0, 1) := by decide +kernel
theorem dX10_sideBy_21 : decode cX10_sideBy 21 = .ok (.bipush 114, 2) := by decide +kernel
theorem dX10_sideBy_23 : decode cX10_sideBy 23 = .ok (.if_icmp .ne 7, 3) := by decide +kernel
theorem dX10_sideBy_26 : decode cX10_sideBy 26 = .ok (.iconst 1, 1) := by decide +kernel
theorem dX10_sideBy_27 : decode cX10_sideBy 27 = .ok (.goto 5, 3) := by decide +kernel
theorem dX10_sideBy_30 : decode cX10_sideBy 30 = .ok (.bipush (-9), 2) := by decide +kernel
theorem dX10_sideBy_32 : decode cX10_sideBy 32 = .ok (.ireturn, 1) := by decide +kernel
theorem dX10_readsFigures_0 : decode cX10_readsFigures 0 = .ok (.iconst 0, 1) := by decide +kernel
theorem dX10_readsFigures_1 : decode cX10_readsFigures 1 = .ok (.istore 4, 2) := by decide +kernel
theorem dX10_readsFigures_3 : decode cX10_readsFigures 3 = .ok (.iload 4, 2) := by decide +kernel
theorem dX10_readsFigures_5 : decode cX10_readsFigures 5 = .ok (.iconst 3, 1) := by decide +kernel
theorem dX10_readsFigures_6 : decode cX10_readsFigures 6 = .ok (.if_icmp .ge 76, 3) := by decide +kernel
theorem dX10_readsFigures_9 : decode cX10_readsFigures 9 = .ok (.aload_n 0, 1) := by decide +kernel
theorem dX10_readsFigures_10 : decode cX10_readsFigures 10 = .ok (.getfield 119, 3) := by decide +kernel
theorem dX10_readsFigures_13 : decode cX10_readsFigures 13 = .ok (.iload_n 2, 1) := by decide +kernel
theorem dX10_readsFigures_14 : decode cX10_readsFigures 14 = .ok (.if_icmp .ge 20, 3) := by decide +kernel
theorem dX10_readsFigures_17 : decode cX10_readsFigures 17 = .ok (.aload_n 0, 1) := by decide +kernel
theorem dX10_readsFigures_18 : decode cX10_readsFigures 18 = .ok (.getfield 79, 3) := by decide +kernel
theorem dX10_readsFigures_21 : decode cX10_readsFigures 21 = .ok (.iload_n 1, 1) := by decide +kernel
theorem dX10_readsFigures_22 : decode cX10_readsFigures 22 = .ok (.aload_n 0, 1) := by decide +kernel
theorem dX10_readsFigures_23 : decode cX10_readsFigures 23 = .ok (.getfield 119, 3) := by decide +kernel
theorem dX10_readsFigures_26 : decode cX10_readsFigures 26 = .ok (.iadd, 1) := by decide +kernel
theorem dX10_readsFigures_27 : decode cX10_readsFigures 27 = .ok (.iaload, 1) := by decide +kernel
theorem dX10_readsFigures_28 : decode cX10_readsFigures 28 = .ok (.bipush 48, 2) := by decide +kernel
theorem dX10_readsFigures_30 : decode cX10_readsFigures 30 = .ok (.isub, 1) := by decide +kernel
theorem dX10_readsFigures_31 : decode cX10_readsFigures 31 = .ok (.goto 5, 3) := by decide +kernel
theorem dX10_readsFigures_34 : decode cX10_readsFigures 34 = .ok (.bipush (-9), 2) := by decide +kernel
theorem dX10_readsFigures_36 : decode cX10_readsFigures 36 = .ok (.istore 5, 2) := by decide +kernel
theorem dX10_readsFigures_38 : decode cX10_readsFigures 38 = .ok (.iload 5, 2) := by decide +kernel
theorem dX10_readsFigures_40 : decode cX10_readsFigures 40 = .ok (.i2l, 1) := by decide +kernel
theorem dX10_readsFigures_41 : decode cX10_readsFigures 41 = .ok (.lconst 0, 1) := by decide +kernel
theorem dX10_readsFigures_42 : decode cX10_readsFigures 42 = .ok (.ldc2_w 122, 3) := by decide +kernel
theorem dX10_readsFigures_45 : decode cX10_readsFigures 45 = .ok (.invokestatic 105, 3) := by decide +kernel
theorem dX10_readsFigures_48 : decode cX10_readsFigures 48 = .ok (.ifCond .ne 5, 3) := by decide +kernel
theorem dX10_readsFigures_51 : decode cX10_readsFigures 51 = .ok (.iconst 0, 1) := by decide +kernel
theorem dX10_readsFigures_52 : decode cX10_readsFigures 52 = .ok (.ireturn, 1) := by decide +kernel
theorem dX10_readsFigures_53 : decode cX10_readsFigures 53 = .ok (.aload_n 0, 1) := by decide +kernel
theorem dX10_readsFigures_54 : decode cX10_readsFigures 54 = .ok (.getfield 31, 3) := by decide +kernel
theorem dX10_readsFigures_57 : decode cX10_readsFigures 57 = .ok (.iconst 3, 1) := by decide +kernel
theorem dX10_readsFigures_58 : decode cX10_readsFigures 58 = .ok (.iload_n 3, 1) := by decide +kernel
theorem dX10_readsFigures_59 : decode cX10_readsFigures 59 = .ok (.imul, 1) := by decide +kernel
theorem dX10_readsFigures_60 : decode cX10_readsFigures 60 = .ok (.iload 4, 2) := by decide +kernel
theorem dX10_readsFigures_62 : decode cX10_readsFigures 62 = .ok (.iadd, 1) := by decide +kernel
theorem dX10_readsFigures_63 : decode cX10_readsFigures 63 = .ok (.iload 5, 2) := by decide +kernel
theorem dX10_readsFigures_65 : decode cX10_readsFigures 65 = .ok (.iastore, 1) := by decide +kernel
theorem dX10_readsFigures_66 : decode cX10_readsFigures 66 = .ok (.aload_n 0, 1) := by decide +kernel
theorem dX10_readsFigures_67 : decode cX10_readsFigures 67 = .ok (.dup, 1) := by decide +kernel
theorem dX10_readsFigures_68 : decode cX10_readsFigures 68 = .ok (.getfield 119, 3) := by decide +kernel
theorem dX10_readsFigures_71 : decode cX10_readsFigures 71 = .ok (.iconst 1, 1) := by decide +kernel
theorem dX10_readsFigures_72 : decode cX10_readsFigures 72 = .ok (.iadd, 1) := by decide +kernel
theorem dX10_readsFigures_73 : decode cX10_readsFigures 73 = .ok (.putfield 119, 3) := by decide +kernel
theorem dX10_readsFigures_76 : decode cX10_readsFigures 76 = .ok (.iinc 4 1, 3) := by decide +kernel
theorem dX10_readsFigures_79 : decode cX10_readsFigures 79 = .ok (.goto (-76), 3) := by decide +kernel
theorem dX10_readsFigures_82 : decode cX10_readsFigures 82 = .ok (.iconst 1, 1) := by decide +kernel
theorem dX10_readsFigures_83 : decode cX10_readsFigures 83 = .ok (.ireturn, 1) := by decide +kernel
theorem dX10_readsSaw_0 : decode cX10_readsSaw 0 = .ok (.aload_n 0, 1) := by decide +kernel
theorem dX10_readsSaw_1 : decode cX10_readsSaw 1 = .ok (.iconst 0, 1) := by decide +kernel
theorem dX10_readsSaw_2 : decode cX10_readsSaw 2 = .ok (.putfield 119, 3) := by decide +kernel
theorem dX10_readsSaw_5 : decode cX10_readsSaw 5 = .ok (.aload_n 0, 1) := by decide +kernel
theorem dX10_readsSaw_6 : decode cX10_readsSaw 6 = .ok (.iconst 0, 1) := by decide +kernel
theorem dX10_readsSaw_7 : decode cX10_readsSaw 7 = .ok (.putfield 124, 3) := by decide +kernel
theorem dX10_readsSaw_10 : decode cX10_readsSaw 10 = .ok (.aload_n 0, 1) := by decide +kernel
theorem dX10_readsSaw_11 : decode cX10_readsSaw 11 = .ok (.getfield 124, 3) := by decide +kernel
theorem dX10_readsSaw_14 : decode cX10_readsSaw 14 = .ok (.ifCond .eq 11, 3) := by decide +kernel
theorem dX10_readsSaw_17 : decode cX10_readsSaw 17 = .ok (.aload_n 0, 1) := by decide +kernel
theorem dX10_readsSaw_18 : decode cX10_readsSaw 18 = .ok (.getfield 119, 3) := by decide +kernel
theorem dX10_readsSaw_21 : decode cX10_readsSaw 21 = .ok (.iload_n 2, 1) := by decide +kernel
theorem dX10_readsSaw_22 : decode cX10_readsSaw 22 = .ok (.if_icmp .ge 212, 3) := by decide +kernel
theorem dX10_readsSaw_25 : decode cX10_readsSaw 25 = .ok (.aload_n 0, 1) := by decide +kernel
theorem dX10_readsSaw_26 : decode cX10_readsSaw 26 = .ok (.getfield 124, 3) := by decide +kernel
theorem dX10_readsSaw_29 : decode cX10_readsSaw 29 = .ok (.ifCond .le 40, 3) := by decide +kernel
theorem dX10_readsSaw_32 : decode cX10_readsSaw 32 = .ok (.aload_n 0, 1) := by decide +kernel
theorem dX10_readsSaw_33 : decode cX10_readsSaw 33 = .ok (.getfield 124, 3) := by decide +kernel
theorem dX10_readsSaw_36 : decode cX10_readsSaw 36 = .ok (.bipush 8, 2) := by decide +kernel
theorem dX10_readsSaw_38 : decode cX10_readsSaw 38 = .ok (.if_icmp .eq 19, 3) := by decide +kernel
theorem dX10_readsSaw_41 : decode cX10_readsSaw 41 = .ok (.aload_n 0, 1) := by decide +kernel
theorem dX10_readsSaw_42 : decode cX10_readsSaw 42 = .ok (.getfield 79, 3) := by decide +kernel
theorem dX10_readsSaw_45 : decode cX10_readsSaw 45 = .ok (.iload_n 1, 1) := by decide +kernel
theorem dX10_readsSaw_46 : decode cX10_readsSaw 46 = .ok (.aload_n 0, 1) := by decide +kernel
theorem dX10_readsSaw_47 : decode cX10_readsSaw 47 = .ok (.getfield 119, 3) := by decide +kernel
theorem dX10_readsSaw_50 : decode cX10_readsSaw 50 = .ok (.iadd, 1) := by decide +kernel
theorem dX10_readsSaw_51 : decode cX10_readsSaw 51 = .ok (.iaload, 1) := by decide +kernel
theorem dX10_readsSaw_52 : decode cX10_readsSaw 52 = .ok (.bipush 59, 2) := by decide +kernel
theorem dX10_readsSaw_54 : decode cX10_readsSaw 54 = .ok (.if_icmp .eq 5, 3) := by decide +kernel
theorem dX10_readsSaw_57 : decode cX10_readsSaw 57 = .ok (.iconst 0, 1) := by decide +kernel
theorem dX10_readsSaw_58 : decode cX10_readsSaw 58 = .ok (.ireturn, 1) := by decide +kernel
theorem dX10_readsSaw_59 : decode cX10_readsSaw 59 = .ok (.aload_n 0, 1) := by decide +kernel
theorem dX10_readsSaw_60 : decode cX10_readsSaw 60 = .ok (.dup, 1) := by decide +kernel
theorem dX10_readsSaw_61 : decode cX10_readsSaw 61 = .ok (.getfield 119, 3) := by decide +kernel
theorem dX10_readsSaw_64 : decode cX10_readsSaw 64 = .ok (.iconst 1, 1) := by decide +kernel
theorem dX10_readsSaw_65 : decode cX10_readsSaw 65 = .ok (.iadd, 1) := by decide +kernel
theorem dX10_readsSaw_66 : decode cX10_readsSaw 66 = .ok (.putfield 119, 3) := by decide +kernel
theorem dX10_readsSaw_69 : decode cX10_readsSaw 69 = .ok (.aload_n 0, 1) := by decide +kernel
theorem dX10_readsSaw_70 : decode cX10_readsSaw 70 = .ok (.getfield 119, 3) := by decide +kernel
theorem dX10_readsSaw_73 : decode cX10_readsSaw 73 = .ok (.iload_n 2, 1) := by decide +kernel
theorem dX10_readsSaw_74 : decode cX10_readsSaw 74 = .ok (.if_icmp .ge 20, 3) := by decide +kernel
theorem dX10_readsSaw_77 : decode cX10_readsSaw 77 = .ok (.aload_n 0, 1) := by decide +kernel
theorem dX10_readsSaw_78 : decode cX10_readsSaw 78 = .ok (.getfield 79, 3) := by decide +kernel
theorem dX10_readsSaw_81 : decode cX10_readsSaw 81 = .ok (.iload_n 1, 1) := by decide +kernel
theorem dX10_readsSaw_82 : decode cX10_readsSaw 82 = .ok (.aload_n 0, 1) := by decide +kernel
theorem dX10_readsSaw_83 : decode cX10_readsSaw 83 = .ok (.getfield 119, 3) := by decide +kernel
theorem dX10_readsSaw_86 : decode cX10_readsSaw 86 = .ok (.iadd, 1) := by decide +kernel
theorem dX10_readsSaw_87 : decode cX10_readsSaw 87 = .ok (.iaload, 1) := by decide +kernel
theorem dX10_readsSaw_88 : decode cX10_readsSaw 88 = .ok (.invokestatic 127, 3) := by decide +kernel
theorem dX10_readsSaw_91 : decode cX10_readsSaw 91 = .ok (.goto 5, 3) := by decide +kernel
theorem dX10_readsSaw_94 : decode cX10_readsSaw 94 = .ok (.bipush (-9), 2) := by decide +kernel
theorem dX10_readsSaw_96 : decode cX10_readsSaw 96 = .ok (.istore_n 3, 1) := by decide +kernel
theorem dX10_readsSaw_97 : decode cX10_readsSaw 97 = .ok (.iload_n 3, 1) := by decide +kernel
theorem dX10_readsSaw_98 : decode cX10_readsSaw 98 = .ok (.bipush (-9), 2) := by decide +kernel
theorem dX10_readsSaw_100 : decode cX10_readsSaw 100 = .ok (.if_icmp .ne 5, 3) := by decide +kernel
theorem dX10_readsSaw_103 : decode cX10_readsSaw 103 = .ok (.iconst 0, 1) := by decide +kernel
theorem dX10_readsSaw_104 : decode cX10_readsSaw 104 = .ok (.ireturn, 1) := by decide +kernel
theorem dX10_readsSaw_105 : decode cX10_readsSaw 105 = .ok (.aload_n 0, 1) := by decide +kernel
theorem dX10_readsSaw_106 : decode cX10_readsSaw 106 = .ok (.dup, 1) := by decide +kernel
theorem dX10_readsSaw_107 : decode cX10_readsSaw 107 = .ok (.getfield 119, 3) := by decide +kernel
theorem dX10_readsSaw_110 : decode cX10_readsSaw 110 = .ok (.iconst 1, 1) := by decide +kernel
theorem dX10_readsSaw_111 : decode cX10_readsSaw 111 = .ok (.iadd, 1) := by decide +kernel
theorem dX10_readsSaw_112 : decode cX10_readsSaw 112 = .ok (.putfield 119, 3) := by decide +kernel
theorem dX10_readsSaw_115 : decode cX10_readsSaw 115 = .ok (.aload_n 0, 1) := by decide +kernel
theorem dX10_readsSaw_116 : decode cX10_readsSaw 116 = .ok (.iload_n 1, 1) := by decide +kernel
theorem dX10_readsSaw_117 : decode cX10_readsSaw 117 = .ok (.iload_n 2, 1) := by decide +kernel
theorem dX10_readsSaw_118 : decode cX10_readsSaw 118 = .ok (.aload_n 0, 1) := by decide +kernel
theorem dX10_readsSaw_119 : decode cX10_readsSaw 119 = .ok (.getfield 124, 3) := by decide +kernel
theorem dX10_readsSaw_122 : decode cX10_readsSaw 122 = .ok (.invokevirtual 130, 3) := by decide +kernel
theorem dX10_readsSaw_125 : decode cX10_readsSaw 125 = .ok (.ifCond .ne 5, 3) := by decide +kernel
theorem dX10_readsSaw_128 : decode cX10_readsSaw 128 = .ok (.iconst 0, 1) := by decide +kernel
theorem dX10_readsSaw_129 : decode cX10_readsSaw 129 = .ok (.ireturn, 1) := by decide +kernel
theorem dX10_readsSaw_130 : decode cX10_readsSaw 130 = .ok (.iload_n 3, 1) := by decide +kernel
theorem dX10_readsSaw_131 : decode cX10_readsSaw 131 = .ok (.ifCond .eq 31, 3) := by decide +kernel
theorem dX10_readsSaw_134 : decode cX10_readsSaw 134 = .ok (.aload_n 0, 1) := by decide +kernel
theorem dX10_readsSaw_135 : decode cX10_readsSaw 135 = .ok (.getfield 119, 3) := by decide +kernel
theorem dX10_readsSaw_138 : decode cX10_readsSaw 138 = .ok (.iload_n 2, 1) := by decide +kernel
theorem dX10_readsSaw_139 : decode cX10_readsSaw 139 = .ok (.if_icmp .ge 23, 3) := by decide +kernel
theorem dX10_readsSaw_142 : decode cX10_readsSaw 142 = .ok (.aload_n 0, 1) := by decide +kernel
theorem dX10_readsSaw_143 : decode cX10_readsSaw 143 = .ok (.getfield 79, 3) := by decide +kernel
theorem dX10_readsSaw_146 : decode cX10_readsSaw 146 = .ok (.iload_n 1, 1) := by decide +kernel
theorem dX10_readsSaw_147 : decode cX10_readsSaw 147 = .ok (.aload_n 0, 1) := by decide +kernel
theorem dX10_readsSaw_148 : decode cX10_readsSaw 148 = .ok (.getfield 119, 3) := by decide +kernel
theorem dX10_readsSaw_151 : decode cX10_readsSaw 151 = .ok (.iadd, 1) := by decide +kernel
theorem dX10_readsSaw_152 : decode cX10_readsSaw 152 = .ok (.iaload, 1) := by decide +kernel
theorem dX10_readsSaw_153 : decode cX10_readsSaw 153 = .ok (.bipush 104, 2) := by decide +kernel
theorem dX10_readsSaw_155 : decode cX10_readsSaw 155 = .ok (.if_icmp .ne 7, 3) := by decide +kernel
theorem dX10_readsSaw_158 : decode cX10_readsSaw 158 = .ok (.iconst 1, 1) := by decide +kernel
theorem dX10_readsSaw_159 : decode cX10_readsSaw 159 = .ok (.goto 4, 3) := by decide +kernel
theorem dX10_readsSaw_162 : decode cX10_readsSaw 162 = .ok (.iconst 0, 1) := by decide +kernel
theorem dX10_readsSaw_163 : decode cX10_readsSaw 163 = .ok (.istore 4, 2) := by decide +kernel
theorem dX10_readsSaw_165 : decode cX10_readsSaw 165 = .ok (.aload_n 0, 1) := by decide +kernel
theorem dX10_readsSaw_166 : decode cX10_readsSaw 166 = .ok (.dup, 1) := by decide +kernel
theorem dX10_readsSaw_167 : decode cX10_readsSaw 167 = .ok (.getfield 119, 3) := by decide +kernel
theorem dX10_readsSaw_170 : decode cX10_readsSaw 170 = .ok (.iload 4, 2) := by decide +kernel
theorem dX10_readsSaw_172 : decode cX10_readsSaw 172 = .ok (.ifCond .eq 7, 3) := by decide +kernel
theorem dX10_readsSaw_175 : decode cX10_readsSaw 175 = .ok (.iconst 1, 1) := by decide +kernel
theorem dX10_readsSaw_176 : decode cX10_readsSaw 176 = .ok (.goto 4, 3) := by decide +kernel
theorem dX10_readsSaw_179 : decode cX10_readsSaw 179 = .ok (.iconst 0, 1) := by decide +kernel
theorem dX10_readsSaw_180 : decode cX10_readsSaw 180 = .ok (.iadd, 1) := by decide +kernel
theorem dX10_readsSaw_181 : decode cX10_readsSaw 181 = .ok (.putfield 119, 3) := by decide +kernel
theorem dX10_readsSaw_184 : decode cX10_readsSaw 184 = .ok (.aload_n 0, 1) := by decide +kernel
theorem dX10_readsSaw_185 : decode cX10_readsSaw 185 = .ok (.getfield 28, 3) := by decide +kernel
theorem dX10_readsSaw_188 : decode cX10_readsSaw 188 = .ok (.aload_n 0, 1) := by decide +kernel
theorem dX10_readsSaw_189 : decode cX10_readsSaw 189 = .ok (.getfield 124, 3) := by decide +kernel
theorem dX10_readsSaw_192 : decode cX10_readsSaw 192 = .ok (.iload_n 3, 1) := by decide +kernel
theorem dX10_readsSaw_193 : decode cX10_readsSaw 193 = .ok (.iastore, 1) := by decide +kernel
theorem dX10_readsSaw_194 : decode cX10_readsSaw 194 = .ok (.aload_n 0, 1) := by decide +kernel
theorem dX10_readsSaw_195 : decode cX10_readsSaw 195 = .ok (.getfield 25, 3) := by decide +kernel
theorem dX10_readsSaw_198 : decode cX10_readsSaw 198 = .ok (.aload_n 0, 1) := by decide +kernel
theorem dX10_readsSaw_199 : decode cX10_readsSaw 199 = .ok (.getfield 124, 3) := by decide +kernel
theorem dX10_readsSaw_202 : decode cX10_readsSaw 202 = .ok (.iload_n 3, 1) := by decide +kernel
theorem dX10_readsSaw_203 : decode cX10_readsSaw 203 = .ok (.ifCond .ne 7, 3) := by decide +kernel
theorem dX10_readsSaw_206 : decode cX10_readsSaw 206 = .ok (.iconst 0, 1) := by decide +kernel
theorem dX10_readsSaw_207 : decode cX10_readsSaw 207 = .ok (.goto 13, 3) := by decide +kernel
theorem dX10_readsSaw_210 : decode cX10_readsSaw 210 = .ok (.iload 4, 2) := by decide +kernel
theorem dX10_readsSaw_212 : decode cX10_readsSaw 212 = .ok (.ifCond .eq 7, 3) := by decide +kernel
theorem dX10_readsSaw_215 : decode cX10_readsSaw 215 = .ok (.iconst 2, 1) := by decide +kernel
theorem dX10_readsSaw_216 : decode cX10_readsSaw 216 = .ok (.goto 4, 3) := by decide +kernel
theorem dX10_readsSaw_219 : decode cX10_readsSaw 219 = .ok (.iconst 1, 1) := by decide +kernel
theorem dX10_readsSaw_220 : decode cX10_readsSaw 220 = .ok (.iastore, 1) := by decide +kernel
theorem dX10_readsSaw_221 : decode cX10_readsSaw 221 = .ok (.aload_n 0, 1) := by decide +kernel
theorem dX10_readsSaw_222 : decode cX10_readsSaw 222 = .ok (.dup, 1) := by decide +kernel
theorem dX10_readsSaw_223 : decode cX10_readsSaw 223 = .ok (.getfield 124, 3) := by decide +kernel
theorem dX10_readsSaw_226 : decode cX10_readsSaw 226 = .ok (.iconst 1, 1) := by decide +kernel
theorem dX10_readsSaw_227 : decode cX10_readsSaw 227 = .ok (.iadd, 1) := by decide +kernel
theorem dX10_readsSaw_228 : decode cX10_readsSaw 228 = .ok (.putfield 124, 3) := by decide +kernel
theorem dX10_readsSaw_231 : decode cX10_readsSaw 231 = .ok (.goto (-221), 3) := by decide +kernel
theorem dX10_readsSaw_234 : decode cX10_readsSaw 234 = .ok (.iconst 1, 1) := by decide +kernel
theorem dX10_readsSaw_235 : decode cX10_readsSaw 235 = .ok (.ireturn, 1) := by decide +kernel
theorem dX10_saw_0 : decode cX10_saw 0 = .ok (.aload_n 0, 1) := by decide +kernel
theorem dX10_saw_1 : decode cX10_saw 1 = .ok (.iload_n 1, 1) := by decide +kernel
theorem dX10_saw_2 : decode cX10_saw 2 = .ok (.iload_n 2, 1) := by decide +kernel
theorem dX10_saw_3 : decode cX10_saw 3 = .ok (.iload_n 3, 1) := by decide +kernel
theorem dX10_saw_4 : decode cX10_saw 4 = .ok (.iload 4, 2) := by decide +kernel
theorem dX10_saw_6 : decode cX10_saw 6 = .ok (.i2l, 1) := by decide +kernel
theorem dX10_saw_7 : decode cX10_saw 7 = .ok (.invokevirtual 134, 3) := by decide +kernel
theorem dX10_saw_10 : decode cX10_saw 10 = .ok (.istore 5, 2) := by decide +kernel
theorem dX10_saw_12 : decode cX10_saw 12 = .ok (.iload 5, 2) := by decide +kernel
theorem dX10_saw_14 : decode cX10_saw 14 = .ok (.ifCond .ge 6, 3) := by decide +kernel
theorem dX10_saw_17 : decode cX10_saw 17 = .ok (.iload 5, 2) := by decide +kernel
theorem dX10_saw_19 : decode cX10_saw 19 = .ok (.ireturn, 1) := by decide +kernel
theorem dX10_saw_20 : decode cX10_saw 20 = .ok (.aload_n 0, 1) := by decide +kernel
theorem dX10_saw_21 : decode cX10_saw 21 = .ok (.bipush 80, 2) := by decide +kernel
theorem dX10_saw_23 : decode cX10_saw 23 = .ok (.iload_n 1, 1) := by decide +kernel
theorem dX10_saw_24 : decode cX10_saw 24 = .ok (.imul, 1) := by decide +kernel
theorem dX10_saw_25 : decode cX10_saw 25 = .ok (.iload_n 3, 1) := by decide +kernel
theorem dX10_saw_26 : decode cX10_saw 26 = .ok (.iadd, 1) := by decide +kernel
theorem dX10_saw_27 : decode cX10_saw 27 = .ok (.iload 4, 2) := by decide +kernel
theorem dX10_saw_29 : decode cX10_saw 29 = .ok (.invokevirtual 138, 3) := by decide +kernel
theorem dX10_saw_32 : decode cX10_saw 32 = .ok (.ifCond .ne 15, 3) := by decide +kernel
theorem dX10_saw_35 : decode cX10_saw 35 = .ok (.aload_n 0, 1) := by decide +kernel
theorem dX10_saw_36 : decode cX10_saw 36 = .ok (.bipush (-100), 2) := by decide +kernel
theorem dX10_saw_38 : decode cX10_saw 38 = .ok (.aload_n 0, 1) := by decide +kernel
theorem dX10_saw_39 : decode cX10_saw 39 = .ok (.getfield 119, 3) := by decide +kernel
theorem dX10_saw_42 : decode cX10_saw 42 = .ok (.isub, 1) := by decide +kernel
theorem dX10_saw_43 : decode cX10_saw 43 = .ok (.invokevirtual 99, 3) := by decide +kernel
end
section
theorem dX10_saw_46 : decode cX10_saw 46 = .ok (.ireturn, 1) := by decide +kernel
theorem dX10_saw_47 : decode cX10_saw 47 = .ok (.aload_n 0, 1) := by decide +kernel
theorem dX10_saw_48 : decode cX10_saw 48 = .ok (.aload_n 0, 1) := by decide +kernel
theorem dX10_saw_49 : decode cX10_saw 49 = .ok (.getfield 124, 3) := by decide +kernel
theorem dX10_saw_52 : decode cX10_saw 52 = .ok (.putfield 116, 3) := by decide +kernel
theorem dX10_saw_55 : decode cX10_saw 55 = .ok (.iconst 0, 1) := by decide +kernel
theorem dX10_saw_56 : decode cX10_saw 56 = .ok (.istore 6, 2) := by decide +kernel
theorem dX10_saw_58 : decode cX10_saw 58 = .ok (.iload 6, 2) := by decide +kernel
theorem dX10_saw_60 : decode cX10_saw 60 = .ok (.aload_n 0, 1) := by decide +kernel
theorem dX10_saw_61 : decode cX10_saw 61 = .ok (.getfield 116, 3) := by decide +kernel
theorem dX10_saw_64 : decode cX10_saw 64 = .ok (.if_icmp .ge 89, 3) := by decide +kernel
theorem dX10_saw_67 : decode cX10_saw 67 = .ok (.aload_n 0, 1) := by decide +kernel
theorem dX10_saw_68 : decode cX10_saw 68 = .ok (.getfield 7, 3) := by decide +kernel
theorem dX10_saw_71 : decode cX10_saw 71 = .ok (.iload 6, 2) := by decide +kernel
theorem dX10_saw_73 : decode cX10_saw 73 = .ok (.aload_n 0, 1) := by decide +kernel
theorem dX10_saw_74 : decode cX10_saw 74 = .ok (.getfield 25, 3) := by decide +kernel
theorem dX10_saw_77 : decode cX10_saw 77 = .ok (.iload 6, 2) := by decide +kernel
theorem dX10_saw_79 : decode cX10_saw 79 = .ok (.iaload, 1) := by decide +kernel
theorem dX10_saw_80 : decode cX10_saw 80 = .ok (.iastore, 1) := by decide +kernel
theorem dX10_saw_81 : decode cX10_saw 81 = .ok (.aload_n 0, 1) := by decide +kernel
theorem dX10_saw_82 : decode cX10_saw 82 = .ok (.getfield 13, 3) := by decide +kernel
theorem dX10_saw_85 : decode cX10_saw 85 = .ok (.iload 6, 2) := by decide +kernel
theorem dX10_saw_87 : decode cX10_saw 87 = .ok (.aload_n 0, 1) := by decide +kernel
theorem dX10_saw_88 : decode cX10_saw 88 = .ok (.getfield 28, 3) := by decide +kernel
theorem dX10_saw_91 : decode cX10_saw 91 = .ok (.iload 6, 2) := by decide +kernel
theorem dX10_saw_93 : decode cX10_saw 93 = .ok (.iaload, 1) := by decide +kernel
theorem dX10_saw_94 : decode cX10_saw 94 = .ok (.iastore, 1) := by decide +kernel
theorem dX10_saw_95 : decode cX10_saw 95 = .ok (.aload_n 0, 1) := by decide +kernel
theorem dX10_saw_96 : decode cX10_saw 96 = .ok (.getfield 16, 3) := by decide +kernel
theorem dX10_saw_99 : decode cX10_saw 99 = .ok (.iload 6, 2) := by decide +kernel
theorem dX10_saw_101 : decode cX10_saw 101 = .ok (.aload_n 0, 1) := by decide +kernel
theorem dX10_saw_102 : decode cX10_saw 102 = .ok (.getfield 31, 3) := by decide +kernel
theorem dX10_saw_105 : decode cX10_saw 105 = .ok (.iconst 3, 1) := by decide +kernel
theorem dX10_saw_106 : decode cX10_saw 106 = .ok (.iload 6, 2) := by decide +kernel
theorem dX10_saw_108 : decode cX10_saw 108 = .ok (.imul, 1) := by decide +kernel
theorem dX10_saw_109 : decode cX10_saw 109 = .ok (.iaload, 1) := by decide +kernel
theorem dX10_saw_110 : decode cX10_saw 110 = .ok (.iastore, 1) := by decide +kernel
theorem dX10_saw_111 : decode cX10_saw 111 = .ok (.aload_n 0, 1) := by decide +kernel
theorem dX10_saw_112 : decode cX10_saw 112 = .ok (.getfield 19, 3) := by decide +kernel
theorem dX10_saw_115 : decode cX10_saw 115 = .ok (.iload 6, 2) := by decide +kernel
theorem dX10_saw_117 : decode cX10_saw 117 = .ok (.aload_n 0, 1) := by decide +kernel
theorem dX10_saw_118 : decode cX10_saw 118 = .ok (.getfield 31, 3) := by decide +kernel
theorem dX10_saw_121 : decode cX10_saw 121 = .ok (.iconst 3, 1) := by decide +kernel
theorem dX10_saw_122 : decode cX10_saw 122 = .ok (.iload 6, 2) := by decide +kernel
theorem dX10_saw_124 : decode cX10_saw 124 = .ok (.imul, 1) := by decide +kernel
theorem dX10_saw_125 : decode cX10_saw 125 = .ok (.iconst 1, 1) := by decide +kernel
theorem dX10_saw_126 : decode cX10_saw 126 = .ok (.iadd, 1) := by decide +kernel
theorem dX10_saw_127 : decode cX10_saw 127 = .ok (.iaload, 1) := by decide +kernel
theorem dX10_saw_128 : decode cX10_saw 128 = .ok (.iastore, 1) := by decide +kernel
theorem dX10_saw_129 : decode cX10_saw 129 = .ok (.aload_n 0, 1) := by decide +kernel
theorem dX10_saw_130 : decode cX10_saw 130 = .ok (.getfield 22, 3) := by decide +kernel
theorem dX10_saw_133 : decode cX10_saw 133 = .ok (.iload 6, 2) := by decide +kernel
theorem dX10_saw_135 : decode cX10_saw 135 = .ok (.aload_n 0, 1) := by decide +kernel
theorem dX10_saw_136 : decode cX10_saw 136 = .ok (.getfield 31, 3) := by decide +kernel
theorem dX10_saw_139 : decode cX10_saw 139 = .ok (.iconst 3, 1) := by decide +kernel
theorem dX10_saw_140 : decode cX10_saw 140 = .ok (.iload 6, 2) := by decide +kernel
theorem dX10_saw_142 : decode cX10_saw 142 = .ok (.imul, 1) := by decide +kernel
theorem dX10_saw_143 : decode cX10_saw 143 = .ok (.iconst 2, 1) := by decide +kernel
theorem dX10_saw_144 : decode cX10_saw 144 = .ok (.iadd, 1) := by decide +kernel
theorem dX10_saw_145 : decode cX10_saw 145 = .ok (.iaload, 1) := by decide +kernel
theorem dX10_saw_146 : decode cX10_saw 146 = .ok (.iastore, 1) := by decide +kernel
theorem dX10_saw_147 : decode cX10_saw 147 = .ok (.iinc 6 1, 3) := by decide +kernel
theorem dX10_saw_150 : decode cX10_saw 150 = .ok (.goto (-92), 3) := by decide +kernel
theorem dX10_saw_153 : decode cX10_saw 153 = .ok (.aload_n 0, 1) := by decide +kernel
theorem dX10_saw_154 : decode cX10_saw 154 = .ok (.iconst 0, 1) := by decide +kernel
theorem dX10_saw_155 : decode cX10_saw 155 = .ok (.putfield 142, 3) := by decide +kernel
theorem dX10_saw_158 : decode cX10_saw 158 = .ok (.aload_n 0, 1) := by decide +kernel
theorem dX10_saw_159 : decode cX10_saw 159 = .ok (.iconst 0, 1) := by decide +kernel
theorem dX10_saw_160 : decode cX10_saw 160 = .ok (.putfield 145, 3) := by decide +kernel
theorem dX10_saw_163 : decode cX10_saw 163 = .ok (.aload_n 0, 1) := by decide +kernel
theorem dX10_saw_164 : decode cX10_saw 164 = .ok (.aload_n 0, 1) := by decide +kernel
theorem dX10_saw_165 : decode cX10_saw 165 = .ok (.getfield 116, 3) := by decide +kernel
theorem dX10_saw_168 : decode cX10_saw 168 = .ok (.invokevirtual 99, 3) := by decide +kernel
theorem dX10_saw_171 : decode cX10_saw 171 = .ok (.ireturn, 1) := by decide +kernel
theorem dX10_takesOf_0 : decode cX10_takesOf 0 = .ok (.aload_n 0, 1) := by decide +kernel
theorem dX10_takesOf_1 : decode cX10_takesOf 1 = .ok (.getfield 19, 3) := by decide +kernel
theorem dX10_takesOf_4 : decode cX10_takesOf 4 = .ok (.iload_n 1, 1) := by decide +kernel
theorem dX10_takesOf_5 : decode cX10_takesOf 5 = .ok (.iaload, 1) := by decide +kernel
theorem dX10_takesOf_6 : decode cX10_takesOf 6 = .ok (.aload_n 0, 1) := by decide +kernel
theorem dX10_takesOf_7 : decode cX10_takesOf 7 = .ok (.getfield 22, 3) := by decide +kernel
theorem dX10_takesOf_10 : decode cX10_takesOf 10 = .ok (.iload_n 1, 1) := by decide +kernel
theorem dX10_takesOf_11 : decode cX10_takesOf 11 = .ok (.iaload, 1) := by decide +kernel
theorem dX10_takesOf_12 : decode cX10_takesOf 12 = .ok (.imul, 1) := by decide +kernel
theorem dX10_takesOf_13 : decode cX10_takesOf 13 = .ok (.istore_n 2, 1) := by decide +kernel
theorem dX10_takesOf_14 : decode cX10_takesOf 14 = .ok (.iload_n 2, 1) := by decide +kernel
theorem dX10_takesOf_15 : decode cX10_takesOf 15 = .ok (.ifCond .le 19, 3) := by decide +kernel
theorem dX10_takesOf_18 : decode cX10_takesOf 18 = .ok (.aload_n 0, 1) := by decide +kernel
theorem dX10_takesOf_19 : decode cX10_takesOf 19 = .ok (.getfield 7, 3) := by decide +kernel
theorem dX10_takesOf_22 : decode cX10_takesOf 22 = .ok (.iload_n 1, 1) := by decide +kernel
theorem dX10_takesOf_23 : decode cX10_takesOf 23 = .ok (.iaload, 1) := by decide +kernel
theorem dX10_takesOf_24 : decode cX10_takesOf 24 = .ok (.iconst 2, 1) := by decide +kernel
theorem dX10_takesOf_25 : decode cX10_takesOf 25 = .ok (.if_icmp .ne 9, 3) := by decide +kernel
theorem dX10_takesOf_28 : decode cX10_takesOf 28 = .ok (.iload_n 2, 1) := by decide +kernel
theorem dX10_takesOf_29 : decode cX10_takesOf 29 = .ok (.iconst 2, 1) := by decide +kernel
theorem dX10_takesOf_30 : decode cX10_takesOf 30 = .ok (.iadd, 1) := by decide +kernel
theorem dX10_takesOf_31 : decode cX10_takesOf 31 = .ok (.goto 4, 3) := by decide +kernel
theorem dX10_takesOf_34 : decode cX10_takesOf 34 = .ok (.iload_n 2, 1) := by decide +kernel
theorem dX10_takesOf_35 : decode cX10_takesOf 35 = .ok (.ireturn, 1) := by decide +kernel
theorem dX10_pushOf_0 : decode cX10_pushOf 0 = .ok (.aload_n 0, 1) := by decide +kernel
theorem dX10_pushOf_1 : decode cX10_pushOf 1 = .ok (.iload_n 1, 1) := by decide +kernel
theorem dX10_pushOf_2 : decode cX10_pushOf 2 = .ok (.invokevirtual 148, 3) := by decide +kernel
theorem dX10_pushOf_5 : decode cX10_pushOf 5 = .ok (.aload_n 0, 1) := by decide +kernel
theorem dX10_pushOf_6 : decode cX10_pushOf 6 = .ok (.getfield 16, 3) := by decide +kernel
theorem dX10_pushOf_9 : decode cX10_pushOf 9 = .ok (.iload_n 1, 1) := by decide +kernel
theorem dX10_pushOf_10 : decode cX10_pushOf 10 = .ok (.iaload, 1) := by decide +kernel
theorem dX10_pushOf_11 : decode cX10_pushOf 11 = .ok (.imul, 1) := by decide +kernel
theorem dX10_pushOf_12 : decode cX10_pushOf 12 = .ok (.aload_n 0, 1) := by decide +kernel
theorem dX10_pushOf_13 : decode cX10_pushOf 13 = .ok (.getfield 13, 3) := by decide +kernel
theorem dX10_pushOf_16 : decode cX10_pushOf 16 = .ok (.iload_n 1, 1) := by decide +kernel
theorem dX10_pushOf_17 : decode cX10_pushOf 17 = .ok (.iaload, 1) := by decide +kernel
theorem dX10_pushOf_18 : decode cX10_pushOf 18 = .ok (.imul, 1) := by decide +kernel
theorem dX10_pushOf_19 : decode cX10_pushOf 19 = .ok (.ireturn, 1) := by decide +kernel
theorem dX10_ofTooth_0 : decode cX10_ofTooth 0 = .ok (.aload_n 0, 1) := by decide +kernel
theorem dX10_ofTooth_1 : decode cX10_ofTooth 1 = .ok (.iload_n 1, 1) := by decide +kernel
theorem dX10_ofTooth_2 : decode cX10_ofTooth 2 = .ok (.invokevirtual 151, 3) := by decide +kernel
theorem dX10_ofTooth_5 : decode cX10_ofTooth 5 = .ok (.ifCond .eq 5, 3) := by decide +kernel
theorem dX10_ofTooth_8 : decode cX10_ofTooth 8 = .ok (.iconst (-1), 1) := by decide +kernel
theorem dX10_ofTooth_9 : decode cX10_ofTooth 9 = .ok (.ireturn, 1) := by decide +kernel
theorem dX10_ofTooth_10 : decode cX10_ofTooth 10 = .ok (.iload_n 2, 1) := by decide +kernel
theorem dX10_ofTooth_11 : decode cX10_ofTooth 11 = .ok (.tableswitch 88 0 6 #[41, 48, 55, 62, 69, 76, 82], 41) := by decide +kernel
theorem dX10_ofTooth_52 : decode cX10_ofTooth 52 = .ok (.aload_n 0, 1) := by decide +kernel
theorem dX10_ofTooth_53 : decode cX10_ofTooth 53 = .ok (.getfield 7, 3) := by decide +kernel
theorem dX10_ofTooth_56 : decode cX10_ofTooth 56 = .ok (.iload_n 1, 1) := by decide +kernel
theorem dX10_ofTooth_57 : decode cX10_ofTooth 57 = .ok (.iaload, 1) := by decide +kernel
theorem dX10_ofTooth_58 : decode cX10_ofTooth 58 = .ok (.ireturn, 1) := by decide +kernel
theorem dX10_ofTooth_59 : decode cX10_ofTooth 59 = .ok (.aload_n 0, 1) := by decide +kernel
theorem dX10_ofTooth_60 : decode cX10_ofTooth 60 = .ok (.getfield 13, 3) := by decide +kernel
theorem dX10_ofTooth_63 : decode cX10_ofTooth 63 = .ok (.iload_n 1, 1) := by decide +kernel
theorem dX10_ofTooth_64 : decode cX10_ofTooth 64 = .ok (.iaload, 1) := by decide +kernel
theorem dX10_ofTooth_65 : decode cX10_ofTooth 65 = .ok (.ireturn, 1) := by decide +kernel
theorem dX10_ofTooth_66 : decode cX10_ofTooth 66 = .ok (.aload_n 0, 1) := by decide +kernel
theorem dX10_ofTooth_67 : decode cX10_ofTooth 67 = .ok (.getfield 16, 3) := by decide +kernel
theorem dX10_ofTooth_70 : decode cX10_ofTooth 70 = .ok (.iload_n 1, 1) := by decide +kernel
theorem dX10_ofTooth_71 : decode cX10_ofTooth 71 = .ok (.iaload, 1) := by decide +kernel
theorem dX10_ofTooth_72 : decode cX10_ofTooth 72 = .ok (.ireturn, 1) := by decide +kernel
theorem dX10_ofTooth_73 : decode cX10_ofTooth 73 = .ok (.aload_n 0, 1) := by decide +kernel
theorem dX10_ofTooth_74 : decode cX10_ofTooth 74 = .ok (.getfield 19, 3) := by decide +kernel
theorem dX10_ofTooth_77 : decode cX10_ofTooth 77 = .ok (.iload_n 1, 1) := by decide +kernel
theorem dX10_ofTooth_78 : decode cX10_ofTooth 78 = .ok (.iaload, 1) := by decide +kernel
theorem dX10_ofTooth_79 : decode cX10_ofTooth 79 = .ok (.ireturn, 1) := by decide +kernel
theorem dX10_ofTooth_80 : decode cX10_ofTooth 80 = .ok (.aload_n 0, 1) := by decide +kernel
theorem dX10_ofTooth_81 : decode cX10_ofTooth 81 = .ok (.getfield 22, 3) := by decide +kernel
theorem dX10_ofTooth_84 : decode cX10_ofTooth 84 = .ok (.iload_n 1, 1) := by decide +kernel
theorem dX10_ofTooth_85 : decode cX10_ofTooth 85 = .ok (.iaload, 1) := by decide +kernel
theorem dX10_ofTooth_86 : decode cX10_ofTooth 86 = .ok (.ireturn, 1) := by decide +kernel
theorem dX10_ofTooth_87 : decode cX10_ofTooth 87 = .ok (.aload_n 0, 1) := by decide +kernel
theorem dX10_ofTooth_88 : decode cX10_ofTooth 88 = .ok (.iload_n 1, 1) := by decide +kernel
theorem dX10_ofTooth_89 : decode cX10_ofTooth 89 = .ok (.invokevirtual 148, 3) := by decide +kernel
theorem dX10_ofTooth_92 : decode cX10_ofTooth 92 = .ok (.ireturn, 1) := by decide +kernel
theorem dX10_ofTooth_93 : decode cX10_ofTooth 93 = .ok (.aload_n 0, 1) := by decide +kernel
theorem dX10_ofTooth_94 : decode cX10_ofTooth 94 = .ok (.iload_n 1, 1) := by decide +kernel
theorem dX10_ofTooth_95 : decode cX10_ofTooth 95 = .ok (.invokevirtual 154, 3) := by decide +kernel
theorem dX10_ofTooth_98 : decode cX10_ofTooth 98 = .ok (.ireturn, 1) := by decide +kernel
theorem dX10_ofTooth_99 : decode cX10_ofTooth 99 = .ok (.bipush (-2), 2) := by decide +kernel
theorem dX10_ofTooth_101 : decode cX10_ofTooth 101 = .ok (.ireturn, 1) := by decide +kernel
theorem dX10_change_0 : decode cX10_change 0 = .ok (.iload_n 2, 1) := by decide +kernel
theorem dX10_change_1 : decode cX10_change 1 = .ok (.ifCond .ne 12, 3) := by decide +kernel
theorem dX10_change_4 : decode cX10_change 4 = .ok (.aload_n 0, 1) := by decide +kernel
theorem dX10_change_5 : decode cX10_change 5 = .ok (.getfield 16, 3) := by decide +kernel
theorem dX10_change_8 : decode cX10_change 8 = .ok (.iload_n 1, 1) := by decide +kernel
theorem dX10_change_9 : decode cX10_change 9 = .ok (.iaload, 1) := by decide +kernel
theorem dX10_change_10 : decode cX10_change 10 = .ok (.goto 23, 3) := by decide +kernel
theorem dX10_change_13 : decode cX10_change 13 = .ok (.iload_n 2, 1) := by decide +kernel
theorem dX10_change_14 : decode cX10_change 14 = .ok (.iconst 1, 1) := by decide +kernel
theorem dX10_change_15 : decode cX10_change 15 = .ok (.if_icmp .ne 12, 3) := by decide +kernel
theorem dX10_change_18 : decode cX10_change 18 = .ok (.aload_n 0, 1) := by decide +kernel
theorem dX10_change_19 : decode cX10_change 19 = .ok (.getfield 19, 3) := by decide +kernel
theorem dX10_change_22 : decode cX10_change 22 = .ok (.iload_n 1, 1) := by decide +kernel
theorem dX10_change_23 : decode cX10_change 23 = .ok (.iaload, 1) := by decide +kernel
theorem dX10_change_24 : decode cX10_change 24 = .ok (.goto 9, 3) := by decide +kernel
theorem dX10_change_27 : decode cX10_change 27 = .ok (.aload_n 0, 1) := by decide +kernel
theorem dX10_change_28 : decode cX10_change 28 = .ok (.getfield 22, 3) := by decide +kernel
theorem dX10_change_31 : decode cX10_change 31 = .ok (.iload_n 1, 1) := by decide +kernel
theorem dX10_change_32 : decode cX10_change 32 = .ok (.iaload, 1) := by decide +kernel
theorem dX10_change_33 : decode cX10_change 33 = .ok (.istore 4, 2) := by decide +kernel
theorem dX10_change_35 : decode cX10_change 35 = .ok (.iload_n 2, 1) := by decide +kernel
theorem dX10_change_36 : decode cX10_change 36 = .ok (.ifCond .ne 13, 3) := by decide +kernel
theorem dX10_change_39 : decode cX10_change 39 = .ok (.aload_n 0, 1) := by decide +kernel
theorem dX10_change_40 : decode cX10_change 40 = .ok (.getfield 16, 3) := by decide +kernel
theorem dX10_change_43 : decode cX10_change 43 = .ok (.iload_n 1, 1) := by decide +kernel
theorem dX10_change_44 : decode cX10_change 44 = .ok (.iload_n 3, 1) := by decide +kernel
theorem dX10_change_45 : decode cX10_change 45 = .ok (.iastore, 1) := by decide +kernel
theorem dX10_change_46 : decode cX10_change 46 = .ok (.goto 25, 3) := by decide +kernel
theorem dX10_change_49 : decode cX10_change 49 = .ok (.iload_n 2, 1) := by decide +kernel
theorem dX10_change_50 : decode cX10_change 50 = .ok (.iconst 1, 1) := by decide +kernel
theorem dX10_change_51 : decode cX10_change 51 = .ok (.if_icmp .ne 13, 3) := by decide +kernel
theorem dX10_change_54 : decode cX10_change 54 = .ok (.aload_n 0, 1) := by decide +kernel
theorem dX10_change_55 : decode cX10_change 55 = .ok (.getfield 19, 3) := by decide +kernel
theorem dX10_change_58 : decode cX10_change 58 = .ok (.iload_n 1, 1) := by decide +kernel
theorem dX10_change_59 : decode cX10_change 59 = .ok (.iload_n 3, 1) := by decide +kernel
theorem dX10_change_60 : decode cX10_change 60 = .ok (.iastore, 1) := by decide +kernel
theorem dX10_change_61 : decode cX10_change 61 = .ok (.goto 10, 3) := by decide +kernel
theorem dX10_change_64 : decode cX10_change 64 = .ok (.aload_n 0, 1) := by decide +kernel
theorem dX10_change_65 : decode cX10_change 65 = .ok (.getfield 22, 3) := by decide +kernel
theorem dX10_change_68 : decode cX10_change 68 = .ok (.iload_n 1, 1) := by decide +kernel
theorem dX10_change_69 : decode cX10_change 69 = .ok (.iload_n 3, 1) := by decide +kernel
theorem dX10_change_70 : decode cX10_change 70 = .ok (.iastore, 1) := by decide +kernel
theorem dX10_change_71 : decode cX10_change 71 = .ok (.iload 4, 2) := by decide +kernel
theorem dX10_change_73 : decode cX10_change 73 = .ok (.ireturn, 1) := by decide +kernel
theorem dX10_set_0 : decode cX10_set 0 = .ok (.aload_n 0, 1) := by decide +kernel
theorem dX10_set_1 : decode cX10_set 1 = .ok (.iload_n 1, 1) := by decide +kernel
theorem dX10_set_2 : decode cX10_set 2 = .ok (.invokevirtual 151, 3) := by decide +kernel
theorem dX10_set_5 : decode cX10_set 5 = .ok (.ifCond .eq 5, 3) := by decide +kernel
theorem dX10_set_8 : decode cX10_set 8 = .ok (.iconst (-1), 1) := by decide +kernel
theorem dX10_set_9 : decode cX10_set 9 = .ok (.ireturn, 1) := by decide +kernel
theorem dX10_set_10 : decode cX10_set 10 = .ok (.iload_n 2, 1) := by decide +kernel
theorem dX10_set_11 : decode cX10_set 11 = .ok (.i2l, 1) := by decide +kernel
theorem dX10_set_12 : decode cX10_set 12 = .ok (.lconst 0, 1) := by decide +kernel
theorem dX10_set_13 : decode cX10_set 13 = .ok (.ldc2_w 103, 3) := by decide +kernel
theorem dX10_set_16 : decode cX10_set 16 = .ok (.invokestatic 105, 3) := by decide +kernel
theorem dX10_set_19 : decode cX10_set 19 = .ok (.ifCond .eq 25, 3) := by decide +kernel
theorem dX10_set_22 : decode cX10_set 22 = .ok (.iload_n 3, 1) := by decide +kernel
theorem dX10_set_23 : decode cX10_set 23 = .ok (.i2l, 1) := by decide +kernel
theorem dX10_set_24 : decode cX10_set 24 = .ok (.lconst 0, 1) := by decide +kernel
theorem dX10_set_25 : decode cX10_set 25 = .ok (.ldc2_w 122, 3) := by decide +kernel
theorem dX10_set_28 : decode cX10_set 28 = .ok (.invokestatic 105, 3) := by decide +kernel
theorem dX10_set_31 : decode cX10_set 31 = .ok (.ifCond .eq 13, 3) := by decide +kernel
theorem dX10_set_34 : decode cX10_set 34 = .ok (.aload_n 0, 1) := by decide +kernel
theorem dX10_set_35 : decode cX10_set 35 = .ok (.iload_n 1, 1) := by decide +kernel
theorem dX10_set_36 : decode cX10_set 36 = .ok (.iload_n 2, 1) := by decide +kernel
theorem dX10_set_37 : decode cX10_set 37 = .ok (.iload_n 3, 1) := by decide +kernel
theorem dX10_set_38 : decode cX10_set 38 = .ok (.invokevirtual 157, 3) := by decide +kernel
theorem dX10_set_41 : decode cX10_set 41 = .ok (.goto 5, 3) := by decide +kernel
theorem dX10_set_44 : decode cX10_set 44 = .ok (.bipush (-2), 2) := by decide +kernel
theorem dX10_set_46 : decode cX10_set 46 = .ok (.ireturn, 1) := by decide +kernel
theorem dX10_pushNow_0 : decode cX10_pushNow 0 = .ok (.iconst 0, 1) := by decide +kernel
theorem dX10_pushNow_1 : decode cX10_pushNow 1 = .ok (.istore_n 1, 1) := by decide +kernel
theorem dX10_pushNow_2 : decode cX10_pushNow 2 = .ok (.iconst 0, 1) := by decide +kernel
theorem dX10_pushNow_3 : decode cX10_pushNow 3 = .ok (.istore_n 2, 1) := by decide +kernel
theorem dX10_pushNow_4 : decode cX10_pushNow 4 = .ok (.iload_n 2, 1) := by decide +kernel
theorem dX10_pushNow_5 : decode cX10_pushNow 5 = .ok (.aload_n 0, 1) := by decide +kernel
theorem dX10_pushNow_6 : decode cX10_pushNow 6 = .ok (.getfield 116, 3) := by decide +kernel
theorem dX10_pushNow_9 : decode cX10_pushNow 9 = .ok (.if_icmp .ge 17, 3) := by decide +kernel
theorem dX10_pushNow_12 : decode cX10_pushNow 12 = .ok (.iload_n 1, 1) := by decide +kernel
theorem dX10_pushNow_13 : decode cX10_pushNow 13 = .ok (.aload_n 0, 1) := by decide +kernel
theorem dX10_pushNow_14 : decode cX10_pushNow 14 = .ok (.iload_n 2, 1) := by decide +kernel
theorem dX10_pushNow_15 : decode cX10_pushNow 15 = .ok (.invokevirtual 154, 3) := by decide +kernel
theorem dX10_pushNow_18 : decode cX10_pushNow 18 = .ok (.iadd, 1) := by decide +kernel
theorem dX10_pushNow_19 : decode cX10_pushNow 19 = .ok (.istore_n 1, 1) := by decide +kernel
theorem dX10_pushNow_20 : decode cX10_pushNow 20 = .ok (.iinc 2 1, 3) := by decide +kernel
theorem dX10_pushNow_23 : decode cX10_pushNow 23 = .ok (.goto (-19), 3) := by decide +kernel
theorem dX10_pushNow_26 : decode cX10_pushNow 26 = .ok (.iload_n 1, 1) := by decide +kernel
theorem dX10_pushNow_27 : decode cX10_pushNow 27 = .ok (.ireturn, 1) := by decide +kernel
theorem dX10_kerfNow_0 : decode cX10_kerfNow 0 = .ok (.iconst 0, 1) := by decide +kernel
theorem dX10_kerfNow_1 : decode cX10_kerfNow 1 = .ok (.istore_n 1, 1) := by decide +kernel
theorem dX10_kerfNow_2 : decode cX10_kerfNow 2 = .ok (.iconst 0, 1) := by decide +kernel
theorem dX10_kerfNow_3 : decode cX10_kerfNow 3 = .ok (.istore_n 2, 1) := by decide +kernel
theorem dX10_kerfNow_4 : decode cX10_kerfNow 4 = .ok (.iconst 0, 1) := by decide +kernel
theorem dX10_kerfNow_5 : decode cX10_kerfNow 5 = .ok (.istore_n 3, 1) := by decide +kernel
theorem dX10_kerfNow_6 : decode cX10_kerfNow 6 = .ok (.iload_n 3, 1) := by decide +kernel
theorem dX10_kerfNow_7 : decode cX10_kerfNow 7 = .ok (.aload_n 0, 1) := by decide +kernel
theorem dX10_kerfNow_8 : decode cX10_kerfNow 8 = .ok (.getfield 116, 3) := by decide +kernel
theorem dX10_kerfNow_11 : decode cX10_kerfNow 11 = .ok (.if_icmp .ge 82, 3) := by decide +kernel
theorem dX10_kerfNow_14 : decode cX10_kerfNow 14 = .ok (.aload_n 0, 1) := by decide +kernel
theorem dX10_kerfNow_15 : decode cX10_kerfNow 15 = .ok (.iload_n 3, 1) := by decide +kernel
theorem dX10_kerfNow_16 : decode cX10_kerfNow 16 = .ok (.invokevirtual 148, 3) := by decide +kernel
theorem dX10_kerfNow_19 : decode cX10_kerfNow 19 = .ok (.ifCond .le 7, 3) := by decide +kernel
theorem dX10_kerfNow_22 : decode cX10_kerfNow 22 = .ok (.iconst 1, 1) := by decide +kernel
theorem dX10_kerfNow_23 : decode cX10_kerfNow 23 = .ok (.goto 4, 3) := by decide +kernel
theorem dX10_kerfNow_26 : decode cX10_kerfNow 26 = .ok (.iconst 0, 1) := by decide +kernel
theorem dX10_kerfNow_27 : decode cX10_kerfNow 27 = .ok (.istore 4, 2) := by decide +kernel
theorem dX10_kerfNow_29 : decode cX10_kerfNow 29 = .ok (.iload 4, 2) := by decide +kernel
theorem dX10_kerfNow_31 : decode cX10_kerfNow 31 = .ok (.ifCond .eq 25, 3) := by decide +kernel
theorem dX10_kerfNow_34 : decode cX10_kerfNow 34 = .ok (.aload_n 0, 1) := by decide +kernel
theorem dX10_kerfNow_35 : decode cX10_kerfNow 35 = .ok (.getfield 13, 3) := by decide +kernel
theorem dX10_kerfNow_38 : decode cX10_kerfNow 38 = .ok (.iload_n 3, 1) := by decide +kernel
theorem dX10_kerfNow_39 : decode cX10_kerfNow 39 = .ok (.iaload, 1) := by decide +kernel
theorem dX10_kerfNow_40 : decode cX10_kerfNow 40 = .ok (.ifCond .ge 16, 3) := by decide +kernel
theorem dX10_kerfNow_43 : decode cX10_kerfNow 43 = .ok (.iload_n 1, 1) := by decide +kernel
theorem dX10_kerfNow_44 : decode cX10_kerfNow 44 = .ok (.aload_n 0, 1) := by decide +kernel
theorem dX10_kerfNow_45 : decode cX10_kerfNow 45 = .ok (.getfield 16, 3) := by decide +kernel
theorem dX10_kerfNow_48 : decode cX10_kerfNow 48 = .ok (.iload_n 3, 1) := by decide +kernel
theorem dX10_kerfNow_49 : decode cX10_kerfNow 49 = .ok (.iaload, 1) := by decide +kernel
theorem dX10_kerfNow_50 : decode cX10_kerfNow 50 = .ok (.invokestatic 161, 3) := by decide +kernel
theorem dX10_kerfNow_53 : decode cX10_kerfNow 53 = .ok (.goto 4, 3) := by decide +kernel
theorem dX10_kerfNow_56 : decode cX10_kerfNow 56 = .ok (.iload_n 1, 1) := by decide +kernel
theorem dX10_kerfNow_57 : decode cX10_kerfNow 57 = .ok (.istore_n 1, 1) := by decide +kernel
theorem dX10_kerfNow_58 : decode cX10_kerfNow 58 = .ok (.iload 4, 2) := by decide +kernel
theorem dX10_kerfNow_60 : decode cX10_kerfNow 60 = .ok (.ifCond .eq 25, 3) := by decide +kernel
theorem dX10_kerfNow_63 : decode cX10_kerfNow 63 = .ok (.aload_n 0, 1) := by decide +kernel
theorem dX10_kerfNow_64 : decode cX10_kerfNow 64 = .ok (.getfield 13, 3) := by decide +kernel
theorem dX10_kerfNow_67 : decode cX10_kerfNow 67 = .ok (.iload_n 3, 1) := by decide +kernel
theorem dX10_kerfNow_68 : decode cX10_kerfNow 68 = .ok (.iaload, 1) := by decide +kernel
theorem dX10_kerfNow_69 : decode cX10_kerfNow 69 = .ok (.ifCond .le 16, 3) := by decide +kernel
theorem dX10_kerfNow_72 : decode cX10_kerfNow 72 = .ok (.iload_n 2, 1) := by decide +kernel
theorem dX10_kerfNow_73 : decode cX10_kerfNow 73 = .ok (.aload_n 0, 1) := by decide +kernel
theorem dX10_kerfNow_74 : decode cX10_kerfNow 74 = .ok (.getfield 16, 3) := by decide +kernel
theorem dX10_kerfNow_77 : decode cX10_kerfNow 77 = .ok (.iload_n 3, 1) := by decide +kernel
theorem dX10_kerfNow_78 : decode cX10_kerfNow 78 = .ok (.iaload, 1) := by decide +kernel
theorem dX10_kerfNow_79 : decode cX10_kerfNow 79 = .ok (.invokestatic 161, 3) := by decide +kernel
theorem dX10_kerfNow_82 : decode cX10_kerfNow 82 = .ok (.goto 4, 3) := by decide +kernel
theorem dX10_kerfNow_85 : decode cX10_kerfNow 85 = .ok (.iload_n 2, 1) := by decide +kernel
theorem dX10_kerfNow_86 : decode cX10_kerfNow 86 = .ok (.istore_n 2, 1) := by decide +kernel
theorem dX10_kerfNow_87 : decode cX10_kerfNow 87 = .ok (.iinc 3 1, 3) := by decide +kernel
theorem dX10_kerfNow_90 : decode cX10_kerfNow 90 = .ok (.goto (-84), 3) := by decide +kernel
theorem dX10_kerfNow_93 : decode cX10_kerfNow 93 = .ok (.iconst 1, 1) := by decide +kernel
theorem dX10_kerfNow_94 : decode cX10_kerfNow 94 = .ok (.iload_n 1, 1) := by decide +kernel
theorem dX10_kerfNow_95 : decode cX10_kerfNow 95 = .ok (.iadd, 1) := by decide +kernel
theorem dX10_kerfNow_96 : decode cX10_kerfNow 96 = .ok (.iload_n 2, 1) := by decide +kernel
theorem dX10_kerfNow_97 : decode cX10_kerfNow 97 = .ok (.iadd, 1) := by decide +kernel
theorem dX10_kerfNow_98 : decode cX10_kerfNow 98 = .ok (.ireturn, 1) := by decide +kernel
theorem dX10_ofSaw_0 : decode cX10_ofSaw 0 = .ok (.iload_n 1, 1) := by decide +kernel
theorem dX10_ofSaw_1 : decode cX10_ofSaw 1 = .ok (.i2l, 1) := by decide +kernel
theorem dX10_ofSaw_2 : decode cX10_ofSaw 2 = .ok (.lconst 0, 1) := by decide +kernel
theorem dX10_ofSaw_3 : decode cX10_ofSaw 3 = .ok (.ldc2_w 103, 3) := by decide +kernel
theorem dX10_ofSaw_6 : decode cX10_ofSaw 6 = .ok (.invokestatic 105, 3) := by decide +kernel
theorem dX10_ofSaw_9 : decode cX10_ofSaw 9 = .ok (.ifCond .ne 6, 3) := by decide +kernel
theorem dX10_ofSaw_12 : decode cX10_ofSaw 12 = .ok (.bipush (-2), 2) := by decide +kernel
theorem dX10_ofSaw_14 : decode cX10_ofSaw 14 = .ok (.ireturn, 1) := by decide +kernel
theorem dX10_ofSaw_15 : decode cX10_ofSaw 15 = .ok (.aload_n 0, 1) := by decide +kernel
theorem dX10_ofSaw_16 : decode cX10_ofSaw 16 = .ok (.getfield 116, 3) := by decide +kernel
theorem dX10_ofSaw_19 : decode cX10_ofSaw 19 = .ok (.ifCond .ne 6, 3) := by decide +kernel
theorem dX10_ofSaw_22 : decode cX10_ofSaw 22 = .ok (.bipush (-3), 2) := by decide +kernel
theorem dX10_ofSaw_24 : decode cX10_ofSaw 24 = .ok (.ireturn, 1) := by decide +kernel
theorem dX10_ofSaw_25 : decode cX10_ofSaw 25 = .ok (.iconst 0, 1) := by decide +kernel
theorem dX10_ofSaw_26 : decode cX10_ofSaw 26 = .ok (.istore_n 2, 1) := by decide +kernel
theorem dX10_ofSaw_27 : decode cX10_ofSaw 27 = .ok (.iconst 0, 1) := by decide +kernel
theorem dX10_ofSaw_28 : decode cX10_ofSaw 28 = .ok (.istore_n 3, 1) := by decide +kernel
theorem dX10_ofSaw_29 : decode cX10_ofSaw 29 = .ok (.iload_n 3, 1) := by decide +kernel
theorem dX10_ofSaw_30 : decode cX10_ofSaw 30 = .ok (.aload_n 0, 1) := by decide +kernel
theorem dX10_ofSaw_31 : decode cX10_ofSaw 31 = .ok (.getfield 116, 3) := by decide +kernel
theorem dX10_ofSaw_34 : decode cX10_ofSaw 34 = .ok (.if_icmp .ge 17, 3) := by decide +kernel
theorem dX10_ofSaw_37 : decode cX10_ofSaw 37 = .ok (.iload_n 2, 1) := by decide +kernel
theorem dX10_ofSaw_38 : decode cX10_ofSaw 38 = .ok (.aload_n 0, 1) := by decide +kernel
theorem dX10_ofSaw_39 : decode cX10_ofSaw 39 = .ok (.iload_n 3, 1) := by decide +kernel
theorem dX10_ofSaw_40 : decode cX10_ofSaw 40 = .ok (.invokevirtual 148, 3) := by decide +kernel
theorem dX10_ofSaw_43 : decode cX10_ofSaw 43 = .ok (.iadd, 1) := by decide +kernel
theorem dX10_ofSaw_44 : decode cX10_ofSaw 44 = .ok (.istore_n 2, 1) := by decide +kernel
theorem dX10_ofSaw_45 : decode cX10_ofSaw 45 = .ok (.iinc 3 1, 3) := by decide +kernel
theorem dX10_ofSaw_48 : decode cX10_ofSaw 48 = .ok (.goto (-19), 3) := by decide +kernel
theorem dX10_ofSaw_51 : decode cX10_ofSaw 51 = .ok (.iload_n 1, 1) := by decide +kernel
theorem dX10_ofSaw_52 : decode cX10_ofSaw 52 = .ok (.ifCond .ne 10, 3) := by decide +kernel
theorem dX10_ofSaw_55 : decode cX10_ofSaw 55 = .ok (.aload_n 0, 1) := by decide +kernel
theorem dX10_ofSaw_56 : decode cX10_ofSaw 56 = .ok (.invokevirtual 165, 3) := by decide +kernel
theorem dX10_ofSaw_59 : decode cX10_ofSaw 59 = .ok (.goto 16, 3) := by decide +kernel
theorem dX10_ofSaw_62 : decode cX10_ofSaw 62 = .ok (.iload_n 1, 1) := by decide +kernel
theorem dX10_ofSaw_63 : decode cX10_ofSaw 63 = .ok (.iconst 1, 1) := by decide +kernel
theorem dX10_ofSaw_64 : decode cX10_ofSaw 64 = .ok (.if_icmp .ne 10, 3) := by decide +kernel
theorem dX10_ofSaw_67 : decode cX10_ofSaw 67 = .ok (.aload_n 0, 1) := by decide +kernel
theorem dX10_ofSaw_68 : decode cX10_ofSaw 68 = .ok (.invokevirtual 169, 3) := by decide +kernel
theorem dX10_ofSaw_71 : decode cX10_ofSaw 71 = .ok (.goto 4, 3) := by decide +kernel
theorem dX10_ofSaw_74 : decode cX10_ofSaw 74 = .ok (.iload_n 2, 1) := by decide +kernel
theorem dX10_ofSaw_75 : decode cX10_ofSaw 75 = .ok (.ireturn, 1) := by decide +kernel
theorem dX10_noLine_0 : decode cX10_noLine 0 = .ok (.iload_n 1, 1) := by decide +kernel
theorem dX10_noLine_1 : decode cX10_noLine 1 = .ok (.i2l, 1) := by decide +kernel
theorem dX10_noLine_2 : decode cX10_noLine 2 = .ok (.lconst 0, 1) := by decide +kernel
theorem dX10_noLine_3 : decode cX10_noLine 3 = .ok (.aload_n 0, 1) := by decide +kernel
theorem dX10_noLine_4 : decode cX10_noLine 4 = .ok (.getfield 172, 3) := by decide +kernel
theorem dX10_noLine_7 : decode cX10_noLine 7 = .ok (.i2l, 1) := by decide +kernel
theorem dX10_noLine_8 : decode cX10_noLine 8 = .ok (.lconst 1, 1) := by decide +kernel
theorem dX10_noLine_9 : decode cX10_noLine 9 = .ok (.lsub, 1) := by decide +kernel
theorem dX10_noLine_10 : decode cX10_noLine 10 = .ok (.invokestatic 105, 3) := by decide +kernel
theorem dX10_noLine_13 : decode cX10_noLine 13 = .ok (.ifCond .ne 7, 3) := by decide +kernel
theorem dX10_noLine_16 : decode cX10_noLine 16 = .ok (.iconst 1, 1) := by decide +kernel
theorem dX10_noLine_17 : decode cX10_noLine 17 = .ok (.goto 4, 3) := by decide +kernel
theorem dX10_noLine_20 : decode cX10_noLine 20 = .ok (.iconst 0, 1) := by decide +kernel
theorem dX10_noLine_21 : decode cX10_noLine 21 = .ok (.ireturn, 1) := by decide +kernel
theorem dX10_readsBoard_0 : decode cX10_readsBoard 0 = .ok (.aload_n 0, 1) := by decide +kernel
theorem dX10_readsBoard_1 : decode cX10_readsBoard 1 = .ok (.iconst 0, 1) := by decide +kernel
theorem dX10_readsBoard_2 : decode cX10_readsBoard 2 = .ok (.putfield 119, 3) := by decide +kernel
theorem dX10_readsBoard_5 : decode cX10_readsBoard 5 = .ok (.aload_n 0, 1) := by decide +kernel
theorem dX10_readsBoard_6 : decode cX10_readsBoard 6 = .ok (.iconst 0, 1) := by decide +kernel
theorem dX10_readsBoard_7 : decode cX10_readsBoard 7 = .ok (.putfield 124, 3) := by decide +kernel
theorem dX10_readsBoard_10 : decode cX10_readsBoard 10 = .ok (.aload_n 0, 1) := by decide +kernel
theorem dX10_readsBoard_11 : decode cX10_readsBoard 11 = .ok (.getfield 124, 3) := by decide +kernel
theorem dX10_readsBoard_14 : decode cX10_readsBoard 14 = .ok (.ifCond .eq 11, 3) := by decide +kernel
theorem dX10_readsBoard_17 : decode cX10_readsBoard 17 = .ok (.aload_n 0, 1) := by decide +kernel
theorem dX10_readsBoard_18 : decode cX10_readsBoard 18 = .ok (.getfield 119, 3) := by decide +kernel
theorem dX10_readsBoard_21 : decode cX10_readsBoard 21 = .ok (.iload_n 2, 1) := by decide +kernel
theorem dX10_readsBoard_22 : decode cX10_readsBoard 22 = .ok (.if_icmp .ge 237, 3) := by decide +kernel
theorem dX10_readsBoard_25 : decode cX10_readsBoard 25 = .ok (.aload_n 0, 1) := by decide +kernel
theorem dX10_readsBoard_26 : decode cX10_readsBoard 26 = .ok (.getfield 119, 3) := by decide +kernel
theorem dX10_readsBoard_29 : decode cX10_readsBoard 29 = .ok (.iload_n 2, 1) := by decide +kernel
theorem dX10_readsBoard_30 : decode cX10_readsBoard 30 = .ok (.if_icmp .ge 20, 3) := by decide +kernel
theorem dX10_readsBoard_33 : decode cX10_readsBoard 33 = .ok (.aload_n 0, 1) := by decide +kernel
theorem dX10_readsBoard_34 : decode cX10_readsBoard 34 = .ok (.getfield 79, 3) := by decide +kernel
theorem dX10_readsBoard_37 : decode cX10_readsBoard 37 = .ok (.iload_n 1, 1) := by decide +kernel
theorem dX10_readsBoard_38 : decode cX10_readsBoard 38 = .ok (.aload_n 0, 1) := by decide +kernel
theorem dX10_readsBoard_39 : decode cX10_readsBoard 39 = .ok (.getfield 119, 3) := by decide +kernel
theorem dX10_readsBoard_42 : decode cX10_readsBoard 42 = .ok (.iadd, 1) := by decide +kernel
theorem dX10_readsBoard_43 : decode cX10_readsBoard 43 = .ok (.iaload, 1) := by decide +kernel
theorem dX10_readsBoard_44 : decode cX10_readsBoard 44 = .ok (.bipush 48, 2) := by decide +kernel
theorem dX10_readsBoard_46 : decode cX10_readsBoard 46 = .ok (.isub, 1) := by decide +kernel
theorem dX10_readsBoard_47 : decode cX10_readsBoard 47 = .ok (.goto 5, 3) := by decide +kernel
theorem dX10_readsBoard_50 : decode cX10_readsBoard 50 = .ok (.bipush (-9), 2) := by decide +kernel
theorem dX10_readsBoard_52 : decode cX10_readsBoard 52 = .ok (.istore_n 3, 1) := by decide +kernel
theorem dX10_readsBoard_53 : decode cX10_readsBoard 53 = .ok (.aload_n 0, 1) := by decide +kernel
theorem dX10_readsBoard_54 : decode cX10_readsBoard 54 = .ok (.getfield 124, 3) := by decide +kernel
theorem dX10_readsBoard_57 : decode cX10_readsBoard 57 = .ok (.bipush 24, 2) := by decide +kernel
theorem dX10_readsBoard_59 : decode cX10_readsBoard 59 = .ok (.if_icmp .eq 15, 3) := by decide +kernel
theorem dX10_readsBoard_62 : decode cX10_readsBoard 62 = .ok (.iload_n 3, 1) := by decide +kernel
theorem dX10_readsBoard_63 : decode cX10_readsBoard 63 = .ok (.i2l, 1) := by decide +kernel
theorem dX10_readsBoard_64 : decode cX10_readsBoard 64 = .ok (.lconst 1, 1) := by decide +kernel
theorem dX10_readsBoard_65 : decode cX10_readsBoard 65 = .ok (.ldc2_w 122, 3) := by decide +kernel
theorem dX10_readsBoard_68 : decode cX10_readsBoard 68 = .ok (.invokestatic 105, 3) := by decide +kernel
theorem dX10_readsBoard_71 : decode cX10_readsBoard 71 = .ok (.ifCond .ne 5, 3) := by decide +kernel
theorem dX10_readsBoard_74 : decode cX10_readsBoard 74 = .ok (.iconst 0, 1) := by decide +kernel
theorem dX10_readsBoard_75 : decode cX10_readsBoard 75 = .ok (.ireturn, 1) := by decide +kernel
theorem dX10_readsBoard_76 : decode cX10_readsBoard 76 = .ok (.aload_n 0, 1) := by decide +kernel
theorem dX10_readsBoard_77 : decode cX10_readsBoard 77 = .ok (.getfield 119, 3) := by decide +kernel
theorem dX10_readsBoard_80 : decode cX10_readsBoard 80 = .ok (.iconst 1, 1) := by decide +kernel
theorem dX10_readsBoard_81 : decode cX10_readsBoard 81 = .ok (.iadd, 1) := by decide +kernel
theorem dX10_readsBoard_82 : decode cX10_readsBoard 82 = .ok (.iload_n 2, 1) := by decide +kernel
theorem dX10_readsBoard_83 : decode cX10_readsBoard 83 = .ok (.if_icmp .ge 22, 3) := by decide +kernel
theorem dX10_readsBoard_86 : decode cX10_readsBoard 86 = .ok (.aload_n 0, 1) := by decide +kernel
theorem dX10_readsBoard_87 : decode cX10_readsBoard 87 = .ok (.getfield 79, 3) := by decide +kernel
theorem dX10_readsBoard_90 : decode cX10_readsBoard 90 = .ok (.iload_n 1, 1) := by decide +kernel
theorem dX10_readsBoard_91 : decode cX10_readsBoard 91 = .ok (.aload_n 0, 1) := by decide +kernel
theorem dX10_readsBoard_92 : decode cX10_readsBoard 92 = .ok (.getfield 119, 3) := by decide +kernel
theorem dX10_readsBoard_95 : decode cX10_readsBoard 95 = .ok (.iadd, 1) := by decide +kernel
theorem dX10_readsBoard_96 : decode cX10_readsBoard 96 = .ok (.iconst 1, 1) := by decide +kernel
theorem dX10_readsBoard_97 : decode cX10_readsBoard 97 = .ok (.iadd, 1) := by decide +kernel
theorem dX10_readsBoard_98 : decode cX10_readsBoard 98 = .ok (.iaload, 1) := by decide +kernel
theorem dX10_readsBoard_99 : decode cX10_readsBoard 99 = .ok (.bipush 48, 2) := by decide +kernel
theorem dX10_readsBoard_101 : decode cX10_readsBoard 101 = .ok (.isub, 1) := by decide +kernel
theorem dX10_readsBoard_102 : decode cX10_readsBoard 102 = .ok (.goto 5, 3) := by decide +kernel
theorem dX10_readsBoard_105 : decode cX10_readsBoard 105 = .ok (.bipush (-9), 2) := by decide +kernel
theorem dX10_readsBoard_107 : decode cX10_readsBoard 107 = .ok (.istore 4, 2) := by decide +kernel
theorem dX10_readsBoard_109 : decode cX10_readsBoard 109 = .ok (.iload 4, 2) := by decide +kernel
theorem dX10_readsBoard_111 : decode cX10_readsBoard 111 = .ok (.i2l, 1) := by decide +kernel
theorem dX10_readsBoard_112 : decode cX10_readsBoard 112 = .ok (.lconst 0, 1) := by decide +kernel
theorem dX10_readsBoard_113 : decode cX10_readsBoard 113 = .ok (.ldc2_w 175, 3) := by decide +kernel
theorem dX10_readsBoard_116 : decode cX10_readsBoard 116 = .ok (.invokestatic 105, 3) := by decide +kernel
theorem dX10_readsBoard_119 : decode cX10_readsBoard 119 = .ok (.ifCond .ne 15, 3) := by decide +kernel
theorem dX10_readsBoard_122 : decode cX10_readsBoard 122 = .ok (.aload_n 0, 1) := by decide +kernel
theorem dX10_readsBoard_123 : decode cX10_readsBoard 123 = .ok (.dup, 1) := by decide +kernel
theorem dX10_readsBoard_124 : decode cX10_readsBoard 124 = .ok (.getfield 119, 3) := by decide +kernel
theorem dX10_readsBoard_127 : decode cX10_readsBoard 127 = .ok (.iconst 1, 1) := by decide +kernel
theorem dX10_readsBoard_128 : decode cX10_readsBoard 128 = .ok (.iadd, 1) := by decide +kernel
theorem dX10_readsBoard_129 : decode cX10_readsBoard 129 = .ok (.putfield 119, 3) := by decide +kernel
theorem dX10_readsBoard_132 : decode cX10_readsBoard 132 = .ok (.iconst 0, 1) := by decide +kernel
theorem dX10_readsBoard_133 : decode cX10_readsBoard 133 = .ok (.ireturn, 1) := by decide +kernel
theorem dX10_readsBoard_134 : decode cX10_readsBoard 134 = .ok (.aload_n 0, 1) := by decide +kernel
theorem dX10_readsBoard_135 : decode cX10_readsBoard 135 = .ok (.getfield 119, 3) := by decide +kernel
theorem dX10_readsBoard_138 : decode cX10_readsBoard 138 = .ok (.iconst 2, 1) := by decide +kernel
theorem dX10_readsBoard_139 : decode cX10_readsBoard 139 = .ok (.iadd, 1) := by decide +kernel
theorem dX10_readsBoard_140 : decode cX10_readsBoard 140 = .ok (.iload_n 2, 1) := by decide +kernel
theorem dX10_readsBoard_141 : decode cX10_readsBoard 141 = .ok (.if_icmp .ge 22, 3) := by decide +kernel
theorem dX10_readsBoard_144 : decode cX10_readsBoard 144 = .ok (.aload_n 0, 1) := by decide +kernel
theorem dX10_readsBoard_145 : decode cX10_readsBoard 145 = .ok (.getfield 79, 3) := by decide +kernel
theorem dX10_readsBoard_148 : decode cX10_readsBoard 148 = .ok (.iload_n 1, 1) := by decide +kernel
theorem dX10_readsBoard_149 : decode cX10_readsBoard 149 = .ok (.aload_n 0, 1) := by decide +kernel
theorem dX10_readsBoard_150 : decode cX10_readsBoard 150 = .ok (.getfield 119, 3) := by decide +kernel
theorem dX10_readsBoard_153 : decode cX10_readsBoard 153 = .ok (.iadd, 1) := by decide +kernel
theorem dX10_readsBoard_154 : decode cX10_readsBoard 154 = .ok (.iconst 2, 1) := by decide +kernel
theorem dX10_readsBoard_155 : decode cX10_readsBoard 155 = .ok (.iadd, 1) := by decide +kernel
theorem dX10_readsBoard_156 : decode cX10_readsBoard 156 = .ok (.iaload, 1) := by decide +kernel
theorem dX10_readsBoard_157 : decode cX10_readsBoard 157 = .ok (.bipush 48, 2) := by decide +kernel
theorem dX10_readsBoard_159 : decode cX10_readsBoard 159 = .ok (.isub, 1) := by decide +kernel
theorem dX10_readsBoard_160 : decode cX10_readsBoard 160 = .ok (.goto 5, 3) := by decide +kernel
theorem dX10_readsBoard_163 : decode cX10_readsBoard 163 = .ok (.bipush (-9), 2) := by decide +kernel
theorem dX10_readsBoard_165 : decode cX10_readsBoard 165 = .ok (.istore 5, 2) := by decide +kernel
theorem dX10_readsBoard_167 : decode cX10_readsBoard 167 = .ok (.iload 5, 2) := by decide +kernel
theorem dX10_readsBoard_169 : decode cX10_readsBoard 169 = .ok (.i2l, 1) := by decide +kernel
theorem dX10_readsBoard_170 : decode cX10_readsBoard 170 = .ok (.lconst 0, 1) := by decide +kernel
theorem dX10_readsBoard_171 : decode cX10_readsBoard 171 = .ok (.ldc2_w 122, 3) := by decide +kernel
theorem dX10_readsBoard_174 : decode cX10_readsBoard 174 = .ok (.invokestatic 105, 3) := by decide +kernel
theorem dX10_readsBoard_177 : decode cX10_readsBoard 177 = .ok (.ifCond .ne 15, 3) := by decide +kernel
theorem dX10_readsBoard_180 : decode cX10_readsBoard 180 = .ok (.aload_n 0, 1) := by decide +kernel
theorem dX10_readsBoard_181 : decode cX10_readsBoard 181 = .ok (.dup, 1) := by decide +kernel
theorem dX10_readsBoard_182 : decode cX10_readsBoard 182 = .ok (.getfield 119, 3) := by decide +kernel
theorem dX10_readsBoard_185 : decode cX10_readsBoard 185 = .ok (.iconst 2, 1) := by decide +kernel
theorem dX10_readsBoard_186 : decode cX10_readsBoard 186 = .ok (.iadd, 1) := by decide +kernel
theorem dX10_readsBoard_187 : decode cX10_readsBoard 187 = .ok (.putfield 119, 3) := by decide +kernel
theorem dX10_readsBoard_190 : decode cX10_readsBoard 190 = .ok (.iconst 0, 1) := by decide +kernel
theorem dX10_readsBoard_191 : decode cX10_readsBoard 191 = .ok (.ireturn, 1) := by decide +kernel
theorem dX10_readsBoard_192 : decode cX10_readsBoard 192 = .ok (.aload_n 0, 1) := by decide +kernel
theorem dX10_readsBoard_193 : decode cX10_readsBoard 193 = .ok (.getfield 31, 3) := by decide +kernel
theorem dX10_readsBoard_196 : decode cX10_readsBoard 196 = .ok (.iconst 3, 1) := by decide +kernel
theorem dX10_readsBoard_197 : decode cX10_readsBoard 197 = .ok (.aload_n 0, 1) := by decide +kernel
theorem dX10_readsBoard_198 : decode cX10_readsBoard 198 = .ok (.getfield 124, 3) := by decide +kernel
theorem dX10_readsBoard_201 : decode cX10_readsBoard 201 = .ok (.imul, 1) := by decide +kernel
theorem dX10_readsBoard_202 : decode cX10_readsBoard 202 = .ok (.iload_n 3, 1) := by decide +kernel
theorem dX10_readsBoard_203 : decode cX10_readsBoard 203 = .ok (.iastore, 1) := by decide +kernel
theorem dX10_readsBoard_204 : decode cX10_readsBoard 204 = .ok (.aload_n 0, 1) := by decide +kernel
theorem dX10_readsBoard_205 : decode cX10_readsBoard 205 = .ok (.getfield 31, 3) := by decide +kernel
theorem dX10_readsBoard_208 : decode cX10_readsBoard 208 = .ok (.iconst 3, 1) := by decide +kernel
theorem dX10_readsBoard_209 : decode cX10_readsBoard 209 = .ok (.aload_n 0, 1) := by decide +kernel
theorem dX10_readsBoard_210 : decode cX10_readsBoard 210 = .ok (.getfield 124, 3) := by decide +kernel
theorem dX10_readsBoard_213 : decode cX10_readsBoard 213 = .ok (.imul, 1) := by decide +kernel
theorem dX10_readsBoard_214 : decode cX10_readsBoard 214 = .ok (.iconst 1, 1) := by decide +kernel
theorem dX10_readsBoard_215 : decode cX10_readsBoard 215 = .ok (.iadd, 1) := by decide +kernel
theorem dX10_readsBoard_216 : decode cX10_readsBoard 216 = .ok (.iload 4, 2) := by decide +kernel
theorem dX10_readsBoard_218 : decode cX10_readsBoard 218 = .ok (.iconst 4, 1) := by decide +kernel
theorem dX10_readsBoard_219 : decode cX10_readsBoard 219 = .ok (.isub, 1) := by decide +kernel
theorem dX10_readsBoard_220 : decode cX10_readsBoard 220 = .ok (.iastore, 1) := by decide +kernel
theorem dX10_readsBoard_221 : decode cX10_readsBoard 221 = .ok (.aload_n 0, 1) := by decide +kernel
theorem dX10_readsBoard_222 : decode cX10_readsBoard 222 = .ok (.getfield 31, 3) := by decide +kernel
theorem dX10_readsBoard_225 : decode cX10_readsBoard 225 = .ok (.iconst 3, 1) := by decide +kernel
theorem dX10_readsBoard_226 : decode cX10_readsBoard 226 = .ok (.aload_n 0, 1) := by decide +kernel
theorem dX10_readsBoard_227 : decode cX10_readsBoard 227 = .ok (.getfield 124, 3) := by decide +kernel
theorem dX10_readsBoard_230 : decode cX10_readsBoard 230 = .ok (.imul, 1) := by decide +kernel
theorem dX10_readsBoard_231 : decode cX10_readsBoard 231 = .ok (.iconst 2, 1) := by decide +kernel
theorem dX10_readsBoard_232 : decode cX10_readsBoard 232 = .ok (.iadd, 1) := by decide +kernel
theorem dX10_readsBoard_233 : decode cX10_readsBoard 233 = .ok (.iload 5, 2) := by decide +kernel
theorem dX10_readsBoard_235 : decode cX10_readsBoard 235 = .ok (.iastore, 1) := by decide +kernel
theorem dX10_readsBoard_236 : decode cX10_readsBoard 236 = .ok (.aload_n 0, 1) := by decide +kernel
theorem dX10_readsBoard_237 : decode cX10_readsBoard 237 = .ok (.dup, 1) := by decide +kernel
theorem dX10_readsBoard_238 : decode cX10_readsBoard 238 = .ok (.getfield 119, 3) := by decide +kernel
theorem dX10_readsBoard_241 : decode cX10_readsBoard 241 = .ok (.iconst 3, 1) := by decide +kernel
theorem dX10_readsBoard_242 : decode cX10_readsBoard 242 = .ok (.iadd, 1) := by decide +kernel
theorem dX10_readsBoard_243 : decode cX10_readsBoard 243 = .ok (.putfield 119, 3) := by decide +kernel
theorem dX10_readsBoard_246 : decode cX10_readsBoard 246 = .ok (.aload_n 0, 1) := by decide +kernel
theorem dX10_readsBoard_247 : decode cX10_readsBoard 247 = .ok (.dup, 1) := by decide +kernel
theorem dX10_readsBoard_248 : decode cX10_readsBoard 248 = .ok (.getfield 124, 3) := by decide +kernel
theorem dX10_readsBoard_251 : decode cX10_readsBoard 251 = .ok (.iconst 1, 1) := by decide +kernel
theorem dX10_readsBoard_252 : decode cX10_readsBoard 252 = .ok (.iadd, 1) := by decide +kernel
theorem dX10_readsBoard_253 : decode cX10_readsBoard 253 = .ok (.putfield 124, 3) := by decide +kernel
theorem dX10_readsBoard_256 : decode cX10_readsBoard 256 = .ok (.goto (-246), 3) := by decide +kernel
theorem dX10_readsBoard_259 : decode cX10_readsBoard 259 = .ok (.iconst 1, 1) := by decide +kernel
theorem dX10_readsBoard_260 : decode cX10_readsBoard 260 = .ok (.ireturn, 1) := by decide +kernel
theorem dX10_board_0 : decode cX10_board 0 = .ok (.aload_n 0, 1) := by decide +kernel
theorem dX10_board_1 : decode cX10_board 1 = .ok (.iload_n 1, 1) := by decide +kernel
theorem dX10_board_2 : decode cX10_board 2 = .ok (.iload_n 2, 1) := by decide +kernel
theorem dX10_board_3 : decode cX10_board 3 = .ok (.iload_n 3, 1) := by decide +kernel
theorem dX10_board_4 : decode cX10_board 4 = .ok (.iload 4, 2) := by decide +kernel
theorem dX10_board_6 : decode cX10_board 6 = .ok (.i2l, 1) := by decide +kernel
theorem dX10_board_7 : decode cX10_board 7 = .ok (.invokevirtual 134, 3) := by decide +kernel
theorem dX10_board_10 : decode cX10_board 10 = .ok (.istore 5, 2) := by decide +kernel
theorem dX10_board_12 : decode cX10_board 12 = .ok (.iload 5, 2) := by decide +kernel
theorem dX10_board_14 : decode cX10_board 14 = .ok (.ifCond .ge 6, 3) := by decide +kernel
theorem dX10_board_17 : decode cX10_board 17 = .ok (.iload 5, 2) := by decide +kernel
theorem dX10_board_19 : decode cX10_board 19 = .ok (.ireturn, 1) := by decide +kernel
theorem dX10_board_20 : decode cX10_board 20 = .ok (.aload_n 0, 1) := by decide +kernel
theorem dX10_board_21 : decode cX10_board 21 = .ok (.bipush 80, 2) := by decide +kernel
theorem dX10_board_23 : decode cX10_board 23 = .ok (.iload_n 1, 1) := by decide +kernel
theorem dX10_board_24 : decode cX10_board 24 = .ok (.imul, 1) := by decide +kernel
theorem dX10_board_25 : decode cX10_board 25 = .ok (.iload_n 3, 1) := by decide +kernel
theorem dX10_board_26 : decode cX10_board 26 = .ok (.iadd, 1) := by decide +kernel
theorem dX10_board_27 : decode cX10_board 27 = .ok (.iload 4, 2) := by decide +kernel
theorem dX10_board_29 : decode cX10_board 29 = .ok (.invokevirtual 177, 3) := by decide +kernel
theorem dX10_board_32 : decode cX10_board 32 = .ok (.ifCond .ne 15, 3) := by decide +kernel
theorem dX10_board_35 : decode cX10_board 35 = .ok (.aload_n 0, 1) := by decide +kernel
theorem dX10_board_36 : decode cX10_board 36 = .ok (.bipush (-100), 2) := by decide +kernel
theorem dX10_board_38 : decode cX10_board 38 = .ok (.aload_n 0, 1) := by decide +kernel
theorem dX10_board_39 : decode cX10_board 39 = .ok (.getfield 119, 3) := by decide +kernel
theorem dX10_board_42 : decode cX10_board 42 = .ok (.isub, 1) := by decide +kernel
theorem dX10_board_43 : decode cX10_board 43 = .ok (.invokevirtual 99, 3) := by decide +kernel
theorem dX10_board_46 : decode cX10_board 46 = .ok (.ireturn, 1) := by decide +kernel
theorem dX10_board_47 : decode cX10_board 47 = .ok (.aload_n 0, 1) := by decide +kernel
theorem dX10_board_48 : decode cX10_board 48 = .ok (.aload_n 0, 1) := by decide +kernel
theorem dX10_board_49 : decode cX10_board 49 = .ok (.getfield 124, 3) := by decide +kernel
theorem dX10_board_52 : decode cX10_board 52 = .ok (.putfield 172, 3) := by decide +kernel
theorem dX10_board_55 : decode cX10_board 55 = .ok (.iconst 0, 1) := by decide +kernel
theorem dX10_board_56 : decode cX10_board 56 = .ok (.istore 6, 2) := by decide +kernel
theorem dX10_board_58 : decode cX10_board 58 = .ok (.iload 6, 2) := by decide +kernel
theorem dX10_board_60 : decode cX10_board 60 = .ok (.aload_n 0, 1) := by decide +kernel
theorem dX10_board_61 : decode cX10_board 61 = .ok (.getfield 172, 3) := by decide +kernel
theorem dX10_board_64 : decode cX10_board 64 = .ok (.if_icmp .ge 61, 3) := by decide +kernel
theorem dX10_board_67 : decode cX10_board 67 = .ok (.aload_n 0, 1) := by decide +kernel
theorem dX10_board_68 : decode cX10_board 68 = .ok (.getfield 34, 3) := by decide +kernel
theorem dX10_board_71 : decode cX10_board 71 = .ok (.iload 6, 2) := by decide +kernel
theorem dX10_board_73 : decode cX10_board 73 = .ok (.aload_n 0, 1) := by decide +kernel
theorem dX10_board_74 : decode cX10_board 74 = .ok (.getfield 31, 3) := by decide +kernel
theorem dX10_board_77 : decode cX10_board 77 = .ok (.iconst 3, 1) := by decide +kernel
theorem dX10_board_78 : decode cX10_board 78 = .ok (.iload 6, 2) := by decide +kernel
theorem dX10_board_80 : decode cX10_board 80 = .ok (.imul, 1) := by decide +kernel
theorem dX10_board_81 : decode cX10_board 81 = .ok (.iaload, 1) := by decide +kernel
theorem dX10_board_82 : decode cX10_board 82 = .ok (.iastore, 1) := by decide +kernel
theorem dX10_board_83 : decode cX10_board 83 = .ok (.aload_n 0, 1) := by decide +kernel
theorem dX10_board_84 : decode cX10_board 84 = .ok (.getfield 37, 3) := by decide +kernel
theorem dX10_board_87 : decode cX10_board 87 = .ok (.iload 6, 2) := by decide +kernel
theorem dX10_board_89 : decode cX10_board 89 = .ok (.aload_n 0, 1) := by decide +kernel
theorem dX10_board_90 : decode cX10_board 90 = .ok (.getfield 31, 3) := by decide +kernel
theorem dX10_board_93 : decode cX10_board 93 = .ok (.iconst 3, 1) := by decide +kernel
theorem dX10_board_94 : decode cX10_board 94 = .ok (.iload 6, 2) := by decide +kernel
theorem dX10_board_96 : decode cX10_board 96 = .ok (.imul, 1) := by decide +kernel
theorem dX10_board_97 : decode cX10_board 97 = .ok (.iconst 1, 1) := by decide +kernel
theorem dX10_board_98 : decode cX10_board 98 = .ok (.iadd, 1) := by decide +kernel
theorem dX10_board_99 : decode cX10_board 99 = .ok (.iaload, 1) := by decide +kernel
theorem dX10_board_100 : decode cX10_board 100 = .ok (.iastore, 1) := by decide +kernel
theorem dX10_board_101 : decode cX10_board 101 = .ok (.aload_n 0, 1) := by decide +kernel
theorem dX10_board_102 : decode cX10_board 102 = .ok (.getfield 40, 3) := by decide +kernel
theorem dX10_board_105 : decode cX10_board 105 = .ok (.iload 6, 2) := by decide +kernel
theorem dX10_board_107 : decode cX10_board 107 = .ok (.aload_n 0, 1) := by decide +kernel
theorem dX10_board_108 : decode cX10_board 108 = .ok (.getfield 31, 3) := by decide +kernel
theorem dX10_board_111 : decode cX10_board 111 = .ok (.iconst 3, 1) := by decide +kernel
theorem dX10_board_112 : decode cX10_board 112 = .ok (.iload 6, 2) := by decide +kernel
theorem dX10_board_114 : decode cX10_board 114 = .ok (.imul, 1) := by decide +kernel
theorem dX10_board_115 : decode cX10_board 115 = .ok (.iconst 2, 1) := by decide +kernel
theorem dX10_board_116 : decode cX10_board 116 = .ok (.iadd, 1) := by decide +kernel
theorem dX10_board_117 : decode cX10_board 117 = .ok (.iaload, 1) := by decide +kernel
theorem dX10_board_118 : decode cX10_board 118 = .ok (.iastore, 1) := by decide +kernel
theorem dX10_board_119 : decode cX10_board 119 = .ok (.iinc 6 1, 3) := by decide +kernel
theorem dX10_board_122 : decode cX10_board 122 = .ok (.goto (-64), 3) := by decide +kernel
theorem dX10_board_125 : decode cX10_board 125 = .ok (.aload_n 0, 1) := by decide +kernel
theorem dX10_board_126 : decode cX10_board 126 = .ok (.iconst 0, 1) := by decide +kernel
theorem dX10_board_127 : decode cX10_board 127 = .ok (.putfield 145, 3) := by decide +kernel
theorem dX10_board_130 : decode cX10_board 130 = .ok (.aload_n 0, 1) := by decide +kernel
theorem dX10_board_131 : decode cX10_board 131 = .ok (.aload_n 0, 1) := by decide +kernel
theorem dX10_board_132 : decode cX10_board 132 = .ok (.getfield 172, 3) := by decide +kernel
theorem dX10_board_135 : decode cX10_board 135 = .ok (.invokevirtual 99, 3) := by decide +kernel
theorem dX10_board_138 : decode cX10_board 138 = .ok (.ireturn, 1) := by decide +kernel
theorem dX10_ofLine_0 : decode cX10_ofLine 0 = .ok (.aload_n 0, 1) := by decide +kernel
theorem dX10_ofLine_1 : decode cX10_ofLine 1 = .ok (.iload_n 1, 1) := by decide +kernel
theorem dX10_ofLine_2 : decode cX10_ofLine 2 = .ok (.invokevirtual 180, 3) := by decide +kernel
theorem dX10_ofLine_5 : decode cX10_ofLine 5 = .ok (.ifCond .eq 5, 3) := by decide +kernel
theorem dX10_ofLine_8 : decode cX10_ofLine 8 = .ok (.iconst (-1), 1) := by decide +kernel
theorem dX10_ofLine_9 : decode cX10_ofLine 9 = .ok (.ireturn, 1) := by decide +kernel
theorem dX10_ofLine_10 : decode cX10_ofLine 10 = .ok (.iload_n 2, 1) := by decide +kernel
theorem dX10_ofLine_11 : decode cX10_ofLine 11 = .ok (.ifCond .ne 12, 3) := by decide +kernel
theorem dX10_ofLine_14 : decode cX10_ofLine 14 = .ok (.aload_n 0, 1) := by decide +kernel
theorem dX10_ofLine_15 : decode cX10_ofLine 15 = .ok (.getfield 34, 3) := by decide +kernel
theorem dX10_ofLine_18 : decode cX10_ofLine 18 = .ok (.iload_n 1, 1) := by decide +kernel
theorem dX10_ofLine_19 : decode cX10_ofLine 19 = .ok (.iaload, 1) := by decide +kernel
theorem dX10_ofLine_20 : decode cX10_ofLine 20 = .ok (.goto 33, 3) := by decide +kernel
theorem dX10_ofLine_23 : decode cX10_ofLine 23 = .ok (.iload_n 2, 1) := by decide +kernel
theorem dX10_ofLine_24 : decode cX10_ofLine 24 = .ok (.iconst 1, 1) := by decide +kernel
theorem dX10_ofLine_25 : decode cX10_ofLine 25 = .ok (.if_icmp .ne 12, 3) := by decide +kernel
theorem dX10_ofLine_28 : decode cX10_ofLine 28 = .ok (.aload_n 0, 1) := by decide +kernel
theorem dX10_ofLine_29 : decode cX10_ofLine 29 = .ok (.getfield 37, 3) := by decide +kernel
theorem dX10_ofLine_32 : decode cX10_ofLine 32 = .ok (.iload_n 1, 1) := by decide +kernel
theorem dX10_ofLine_33 : decode cX10_ofLine 33 = .ok (.iaload, 1) := by decide +kernel
theorem dX10_ofLine_34 : decode cX10_ofLine 34 = .ok (.goto 19, 3) := by decide +kernel
theorem dX10_ofLine_37 : decode cX10_ofLine 37 = .ok (.iload_n 2, 1) := by decide +kernel
theorem dX10_ofLine_38 : decode cX10_ofLine 38 = .ok (.iconst 2, 1) := by decide +kernel
theorem dX10_ofLine_39 : decode cX10_ofLine 39 = .ok (.if_icmp .ne 12, 3) := by decide +kernel
theorem dX10_ofLine_42 : decode cX10_ofLine 42 = .ok (.aload_n 0, 1) := by decide +kernel
theorem dX10_ofLine_43 : decode cX10_ofLine 43 = .ok (.getfield 40, 3) := by decide +kernel
theorem dX10_ofLine_46 : decode cX10_ofLine 46 = .ok (.iload_n 1, 1) := by decide +kernel
theorem dX10_ofLine_47 : decode cX10_ofLine 47 = .ok (.iaload, 1) := by decide +kernel
theorem dX10_ofLine_48 : decode cX10_ofLine 48 = .ok (.goto 5, 3) := by decide +kernel
theorem dX10_ofLine_51 : decode cX10_ofLine 51 = .ok (.bipush (-2), 2) := by decide +kernel
theorem dX10_ofLine_53 : decode cX10_ofLine 53 = .ok (.ireturn, 1) := by decide +kernel
theorem dX10_hand_0 : decode cX10_hand 0 = .ok (.iload_n 1, 1) := by decide +kernel
theorem dX10_hand_1 : decode cX10_hand 1 = .ok (.i2l, 1) := by decide +kernel
theorem dX10_hand_2 : decode cX10_hand 2 = .ok (.ldc2_w 183, 3) := by decide +kernel
theorem dX10_hand_5 : decode cX10_hand 5 = .ok (.ldc2_w 122, 3) := by decide +kernel
theorem dX10_hand_8 : decode cX10_hand 8 = .ok (.invokestatic 105, 3) := by decide +kernel
theorem dX10_hand_11 : decode cX10_hand 11 = .ok (.ifCond .eq 27, 3) := by decide +kernel
theorem dX10_hand_14 : decode cX10_hand 14 = .ok (.iload_n 2, 1) := by decide +kernel
theorem dX10_hand_15 : decode cX10_hand 15 = .ok (.i2l, 1) := by decide +kernel
theorem dX10_hand_16 : decode cX10_hand 16 = .ok (.lconst 0, 1) := by decide +kernel
theorem dX10_hand_17 : decode cX10_hand 17 = .ok (.ldc2_w 122, 3) := by decide +kernel
theorem dX10_hand_20 : decode cX10_hand 20 = .ok (.invokestatic 105, 3) := by decide +kernel
theorem dX10_hand_23 : decode cX10_hand 23 = .ok (.ifCond .eq 15, 3) := by decide +kernel
theorem dX10_hand_26 : decode cX10_hand 26 = .ok (.iload_n 3, 1) := by decide +kernel
theorem dX10_hand_27 : decode cX10_hand 27 = .ok (.i2l, 1) := by decide +kernel
theorem dX10_hand_28 : decode cX10_hand 28 = .ok (.lconst 0, 1) := by decide +kernel
theorem dX10_hand_29 : decode cX10_hand 29 = .ok (.ldc2_w 185, 3) := by decide +kernel
theorem dX10_hand_32 : decode cX10_hand 32 = .ok (.invokestatic 105, 3) := by decide +kernel
theorem dX10_hand_35 : decode cX10_hand 35 = .ok (.ifCond .ne 6, 3) := by decide +kernel
theorem dX10_hand_38 : decode cX10_hand 38 = .ok (.bipush (-2), 2) := by decide +kernel
theorem dX10_hand_40 : decode cX10_hand 40 = .ok (.ireturn, 1) := by decide +kernel
theorem dX10_hand_41 : decode cX10_hand 41 = .ok (.aload_n 0, 1) := by decide +kernel
theorem dX10_hand_42 : decode cX10_hand 42 = .ok (.iload_n 1, 1) := by decide +kernel
theorem dX10_hand_43 : decode cX10_hand 43 = .ok (.putfield 187, 3) := by decide +kernel
theorem dX10_hand_46 : decode cX10_hand 46 = .ok (.aload_n 0, 1) := by decide +kernel
theorem dX10_hand_47 : decode cX10_hand 47 = .ok (.iload_n 2, 1) := by decide +kernel
theorem dX10_hand_48 : decode cX10_hand 48 = .ok (.putfield 190, 3) := by decide +kernel
theorem dX10_hand_51 : decode cX10_hand 51 = .ok (.aload_n 0, 1) := by decide +kernel
theorem dX10_hand_52 : decode cX10_hand 52 = .ok (.iload_n 3, 1) := by decide +kernel
theorem dX10_hand_53 : decode cX10_hand 53 = .ok (.putfield 193, 3) := by decide +kernel
theorem dX10_hand_56 : decode cX10_hand 56 = .ok (.iconst 1, 1) := by decide +kernel
theorem dX10_hand_57 : decode cX10_hand 57 = .ok (.ireturn, 1) := by decide +kernel
theorem dX10_ofHand_0 : decode cX10_ofHand 0 = .ok (.iload_n 1, 1) := by decide +kernel
theorem dX10_ofHand_1 : decode cX10_ofHand 1 = .ok (.ifCond .ne 10, 3) := by decide +kernel
theorem dX10_ofHand_4 : decode cX10_ofHand 4 = .ok (.aload_n 0, 1) := by decide +kernel
theorem dX10_ofHand_5 : decode cX10_ofHand 5 = .ok (.getfield 187, 3) := by decide +kernel
theorem dX10_ofHand_8 : decode cX10_ofHand 8 = .ok (.goto 29, 3) := by decide +kernel
theorem dX10_ofHand_11 : decode cX10_ofHand 11 = .ok (.iload_n 1, 1) := by decide +kernel
theorem dX10_ofHand_12 : decode cX10_ofHand 12 = .ok (.iconst 1, 1) := by decide +kernel
theorem dX10_ofHand_13 : decode cX10_ofHand 13 = .ok (.if_icmp .ne 10, 3) := by decide +kernel
theorem dX10_ofHand_16 : decode cX10_ofHand 16 = .ok (.aload_n 0, 1) := by decide +kernel
theorem dX10_ofHand_17 : decode cX10_ofHand 17 = .ok (.getfield 190, 3) := by decide +kernel
theorem dX10_ofHand_20 : decode cX10_ofHand 20 = .ok (.goto 17, 3) := by decide +kernel
theorem dX10_ofHand_23 : decode cX10_ofHand 23 = .ok (.iload_n 1, 1) := by decide +kernel
theorem dX10_ofHand_24 : decode cX10_ofHand 24 = .ok (.iconst 2, 1) := by decide +kernel
theorem dX10_ofHand_25 : decode cX10_ofHand 25 = .ok (.if_icmp .ne 10, 3) := by decide +kernel
theorem dX10_ofHand_28 : decode cX10_ofHand 28 = .ok (.aload_n 0, 1) := by decide +kernel
theorem dX10_ofHand_29 : decode cX10_ofHand 29 = .ok (.getfield 193, 3) := by decide +kernel
theorem dX10_ofHand_32 : decode cX10_ofHand 32 = .ok (.goto 5, 3) := by decide +kernel
theorem dX10_ofHand_35 : decode cX10_ofHand 35 = .ok (.bipush (-2), 2) := by decide +kernel
theorem dX10_ofHand_37 : decode cX10_ofHand 37 = .ok (.ireturn, 1) := by decide +kernel
theorem dX10_fence_0 : decode cX10_fence 0 = .ok (.iload_n 1, 1) := by decide +kernel
theorem dX10_fence_1 : decode cX10_fence 1 = .ok (.i2l, 1) := by decide +kernel
theorem dX10_fence_2 : decode cX10_fence 2 = .ok (.lconst 0, 1) := by decide +kernel
theorem dX10_fence_3 : decode cX10_fence 3 = .ok (.ldc2_w 196, 3) := by decide +kernel
theorem dX10_fence_6 : decode cX10_fence 6 = .ok (.invokestatic 105, 3) := by decide +kernel
theorem dX10_fence_9 : decode cX10_fence 9 = .ok (.ifCond .ne 6, 3) := by decide +kernel
theorem dX10_fence_12 : decode cX10_fence 12 = .ok (.bipush (-2), 2) := by decide +kernel
theorem dX10_fence_14 : decode cX10_fence 14 = .ok (.ireturn, 1) := by decide +kernel
theorem dX10_fence_15 : decode cX10_fence 15 = .ok (.aload_n 0, 1) := by decide +kernel
theorem dX10_fence_16 : decode cX10_fence 16 = .ok (.getfield 198, 3) := by decide +kernel
theorem dX10_fence_19 : decode cX10_fence 19 = .ok (.istore_n 2, 1) := by decide +kernel
theorem dX10_fence_20 : decode cX10_fence 20 = .ok (.aload_n 0, 1) := by decide +kernel
theorem dX10_fence_21 : decode cX10_fence 21 = .ok (.iload_n 1, 1) := by decide +kernel
theorem dX10_fence_22 : decode cX10_fence 22 = .ok (.putfield 198, 3) := by decide +kernel
theorem dX10_fence_25 : decode cX10_fence 25 = .ok (.iload_n 2, 1) := by decide +kernel
theorem dX10_fence_26 : decode cX10_fence 26 = .ok (.ireturn, 1) := by decide +kernel
theorem dX10_cut_0 : decode cX10_cut 0 = .ok (.aload_n 0, 1) := by decide +kernel
theorem dX10_cut_1 : decode cX10_cut 1 = .ok (.invokevirtual 165, 3) := by decide +kernel
theorem dX10_cut_4 : decode cX10_cut 4 = .ok (.istore_n 1, 1) := by decide +kernel
theorem dX10_cut_5 : decode cX10_cut 5 = .ok (.aload_n 0, 1) := by decide +kernel
theorem dX10_cut_6 : decode cX10_cut 6 = .ok (.invokevirtual 169, 3) := by decide +kernel
theorem dX10_cut_9 : decode cX10_cut 9 = .ok (.istore_n 2, 1) := by decide +kernel
theorem dX10_cut_10 : decode cX10_cut 10 = .ok (.iconst 0, 1) := by decide +kernel
theorem dX10_cut_11 : decode cX10_cut 11 = .ok (.istore_n 3, 1) := by decide +kernel
theorem dX10_cut_12 : decode cX10_cut 12 = .ok (.iconst 0, 1) := by decide +kernel
theorem dX10_cut_13 : decode cX10_cut 13 = .ok (.istore 4, 2) := by decide +kernel
theorem dX10_cut_15 : decode cX10_cut 15 = .ok (.aload_n 0, 1) := by decide +kernel
theorem dX10_cut_16 : decode cX10_cut 16 = .ok (.iconst 0, 1) := by decide +kernel
theorem dX10_cut_17 : decode cX10_cut 17 = .ok (.putfield 201, 3) := by decide +kernel
theorem dX10_cut_20 : decode cX10_cut 20 = .ok (.aload_n 0, 1) := by decide +kernel
theorem dX10_cut_21 : decode cX10_cut 21 = .ok (.iconst 0, 1) := by decide +kernel
theorem dX10_cut_22 : decode cX10_cut 22 = .ok (.putfield 204, 3) := by decide +kernel
theorem dX10_cut_25 : decode cX10_cut 25 = .ok (.iconst 0, 1) := by decide +kernel
theorem dX10_cut_26 : decode cX10_cut 26 = .ok (.istore 5, 2) := by decide +kernel
theorem dX10_cut_28 : decode cX10_cut 28 = .ok (.iload 5, 2) := by decide +kernel
theorem dX10_cut_30 : decode cX10_cut 30 = .ok (.aload_n 0, 1) := by decide +kernel
theorem dX10_cut_31 : decode cX10_cut 31 = .ok (.getfield 172, 3) := by decide +kernel
theorem dX10_cut_34 : decode cX10_cut 34 = .ok (.if_icmp .ge 210, 3) := by decide +kernel
theorem dX10_cut_37 : decode cX10_cut 37 = .ok (.aload_n 0, 1) := by decide +kernel
theorem dX10_cut_38 : decode cX10_cut 38 = .ok (.getfield 116, 3) := by decide +kernel
theorem dX10_cut_41 : decode cX10_cut 41 = .ok (.ifCond .le 203, 3) := by decide +kernel
theorem dX10_cut_44 : decode cX10_cut 44 = .ok (.aload_n 0, 1) := by decide +kernel
theorem dX10_cut_45 : decode cX10_cut 45 = .ok (.getfield 40, 3) := by decide +kernel
theorem dX10_cut_48 : decode cX10_cut 48 = .ok (.iload 5, 2) := by decide +kernel
theorem dX10_cut_50 : decode cX10_cut 50 = .ok (.iaload, 1) := by decide +kernel
theorem dX10_cut_51 : decode cX10_cut 51 = .ok (.iload_n 2, 1) := by decide +kernel
theorem dX10_cut_52 : decode cX10_cut 52 = .ok (.if_icmp .gt 192, 3) := by decide +kernel
theorem dX10_cut_55 : decode cX10_cut 55 = .ok (.iload 5, 2) := by decide +kernel
theorem dX10_cut_57 : decode cX10_cut 57 = .ok (.iconst 1, 1) := by decide +kernel
theorem dX10_cut_58 : decode cX10_cut 58 = .ok (.isub, 1) := by decide +kernel
theorem dX10_cut_59 : decode cX10_cut 59 = .ok (.aload_n 0, 1) := by decide +kernel
theorem dX10_cut_60 : decode cX10_cut 60 = .ok (.getfield 193, 3) := by decide +kernel
theorem dX10_cut_63 : decode cX10_cut 63 = .ok (.isub, 1) := by decide +kernel
theorem dX10_cut_64 : decode cX10_cut 64 = .ok (.istore 6, 2) := by decide +kernel
theorem dX10_cut_66 : decode cX10_cut 66 = .ok (.iload 6, 2) := by decide +kernel
theorem dX10_cut_68 : decode cX10_cut 68 = .ok (.ifCond .ge 7, 3) := by decide +kernel
theorem dX10_cut_71 : decode cX10_cut 71 = .ok (.iconst 0, 1) := by decide +kernel
theorem dX10_cut_72 : decode cX10_cut 72 = .ok (.goto 10, 3) := by decide +kernel
theorem dX10_cut_75 : decode cX10_cut 75 = .ok (.aload_n 0, 1) := by decide +kernel
theorem dX10_cut_76 : decode cX10_cut 76 = .ok (.getfield 43, 3) := by decide +kernel
theorem dX10_cut_79 : decode cX10_cut 79 = .ok (.iload 6, 2) := by decide +kernel
theorem dX10_cut_81 : decode cX10_cut 81 = .ok (.iaload, 1) := by decide +kernel
theorem dX10_cut_82 : decode cX10_cut 82 = .ok (.istore 7, 2) := by decide +kernel
theorem dX10_cut_84 : decode cX10_cut 84 = .ok (.iload 4, 2) := by decide +kernel
theorem dX10_cut_86 : decode cX10_cut 86 = .ok (.iload_n 1, 1) := by decide +kernel
theorem dX10_cut_87 : decode cX10_cut 87 = .ok (.bipush 10, 2) := by decide +kernel
theorem dX10_cut_89 : decode cX10_cut 89 = .ok (.aload_n 0, 1) := by decide +kernel
theorem dX10_cut_90 : decode cX10_cut 90 = .ok (.getfield 34, 3) := by decide +kernel
theorem dX10_cut_93 : decode cX10_cut 93 = .ok (.iload 5, 2) := by decide +kernel
theorem dX10_cut_95 : decode cX10_cut 95 = .ok (.iaload, 1) := by decide +kernel
theorem dX10_cut_96 : decode cX10_cut 96 = .ok (.imul, 1) := by decide +kernel
theorem dX10_cut_97 : decode cX10_cut 97 = .ok (.idiv, 1) := by decide +kernel
theorem dX10_cut_98 : decode cX10_cut 98 = .ok (.aload_n 0, 1) := by decide +kernel
theorem dX10_cut_99 : decode cX10_cut 99 = .ok (.getfield 37, 3) := by decide +kernel
theorem dX10_cut_102 : decode cX10_cut 102 = .ok (.iload 5, 2) := by decide +kernel
theorem dX10_cut_104 : decode cX10_cut 104 = .ok (.iaload, 1) := by decide +kernel
theorem dX10_cut_105 : decode cX10_cut 105 = .ok (.iadd, 1) := by decide +kernel
theorem dX10_cut_106 : decode cX10_cut 106 = .ok (.aload_n 0, 1) := by decide +kernel
theorem dX10_cut_107 : decode cX10_cut 107 = .ok (.getfield 187, 3) := by decide +kernel
theorem dX10_cut_110 : decode cX10_cut 110 = .ok (.iadd, 1) := by decide +kernel
theorem dX10_cut_111 : decode cX10_cut 111 = .ok (.aload_n 0, 1) := by decide +kernel
theorem dX10_cut_112 : decode cX10_cut 112 = .ok (.getfield 190, 3) := by decide +kernel
theorem dX10_cut_115 : decode cX10_cut 115 = .ok (.iload 7, 2) := by decide +kernel
theorem dX10_cut_117 : decode cX10_cut 117 = .ok (.imul, 1) := by decide +kernel
theorem dX10_cut_118 : decode cX10_cut 118 = .ok (.bipush 8, 2) := by decide +kernel
theorem dX10_cut_120 : decode cX10_cut 120 = .ok (.idiv, 1) := by decide +kernel
theorem dX10_cut_121 : decode cX10_cut 121 = .ok (.isub, 1) := by decide +kernel
theorem dX10_cut_122 : decode cX10_cut 122 = .ok (.iadd, 1) := by decide +kernel
theorem dX10_cut_123 : decode cX10_cut 123 = .ok (.istore 4, 2) := by decide +kernel
theorem dX10_cut_125 : decode cX10_cut 125 = .ok (.iload 4, 2) := by decide +kernel
theorem dX10_cut_127 : decode cX10_cut 127 = .ok (.bipush 99, 2) := by decide +kernel
theorem dX10_cut_129 : decode cX10_cut 129 = .ok (.if_icmp .le 8, 3) := by decide +kernel
theorem dX10_cut_132 : decode cX10_cut 132 = .ok (.bipush 99, 2) := by decide +kernel
theorem dX10_cut_134 : decode cX10_cut 134 = .ok (.goto 17, 3) := by decide +kernel
theorem dX10_cut_137 : decode cX10_cut 137 = .ok (.iload 4, 2) := by decide +kernel
theorem dX10_cut_139 : decode cX10_cut 139 = .ok (.bipush (-99), 2) := by decide +kernel
theorem dX10_cut_141 : decode cX10_cut 141 = .ok (.if_icmp .ge 8, 3) := by decide +kernel
theorem dX10_cut_144 : decode cX10_cut 144 = .ok (.bipush (-99), 2) := by decide +kernel
theorem dX10_cut_146 : decode cX10_cut 146 = .ok (.goto 5, 3) := by decide +kernel
theorem dX10_cut_149 : decode cX10_cut 149 = .ok (.iload 4, 2) := by decide +kernel
theorem dX10_cut_151 : decode cX10_cut 151 = .ok (.istore 4, 2) := by decide +kernel
theorem dX10_cut_153 : decode cX10_cut 153 = .ok (.iload_n 3, 1) := by decide +kernel
theorem dX10_cut_154 : decode cX10_cut 154 = .ok (.iload 4, 2) := by decide +kernel
theorem dX10_cut_156 : decode cX10_cut 156 = .ok (.iadd, 1) := by decide +kernel
theorem dX10_cut_157 : decode cX10_cut 157 = .ok (.istore_n 3, 1) := by decide +kernel
theorem dX10_cut_158 : decode cX10_cut 158 = .ok (.aload_n 0, 1) := by decide +kernel
theorem dX10_cut_159 : decode cX10_cut 159 = .ok (.getfield 198, 3) := by decide +kernel
theorem dX10_cut_162 : decode cX10_cut 162 = .ok (.ifCond .le 34, 3) := by decide +kernel
theorem dX10_cut_165 : decode cX10_cut 165 = .ok (.iload_n 3, 1) := by decide +kernel
theorem dX10_cut_166 : decode cX10_cut 166 = .ok (.invokestatic 207, 3) := by decide +kernel
theorem dX10_cut_169 : decode cX10_cut 169 = .ok (.aload_n 0, 1) := by decide +kernel
theorem dX10_cut_170 : decode cX10_cut 170 = .ok (.getfield 198, 3) := by decide +kernel
theorem dX10_cut_173 : decode cX10_cut 173 = .ok (.if_icmp .le 23, 3) := by decide +kernel
theorem dX10_cut_176 : decode cX10_cut 176 = .ok (.iload_n 3, 1) := by decide +kernel
theorem dX10_cut_177 : decode cX10_cut 177 = .ok (.ifCond .le 10, 3) := by decide +kernel
theorem dX10_cut_180 : decode cX10_cut 180 = .ok (.aload_n 0, 1) := by decide +kernel
theorem dX10_cut_181 : decode cX10_cut 181 = .ok (.getfield 198, 3) := by decide +kernel
theorem dX10_cut_184 : decode cX10_cut 184 = .ok (.goto 8, 3) := by decide +kernel
theorem dX10_cut_187 : decode cX10_cut 187 = .ok (.aload_n 0, 1) := by decide +kernel
theorem dX10_cut_188 : decode cX10_cut 188 = .ok (.getfield 198, 3) := by decide +kernel
theorem dX10_cut_191 : decode cX10_cut 191 = .ok (.ineg, 1) := by decide +kernel
theorem dX10_cut_192 : decode cX10_cut 192 = .ok (.istore_n 3, 1) := by decide +kernel
theorem dX10_cut_193 : decode cX10_cut 193 = .ok (.iconst 0, 1) := by decide +kernel
theorem dX10_cut_194 : decode cX10_cut 194 = .ok (.istore 4, 2) := by decide +kernel
theorem dX10_cut_196 : decode cX10_cut 196 = .ok (.aload_n 0, 1) := by decide +kernel
theorem dX10_cut_197 : decode cX10_cut 197 = .ok (.getfield 43, 3) := by decide +kernel
theorem dX10_cut_200 : decode cX10_cut 200 = .ok (.iload 5, 2) := by decide +kernel
theorem dX10_cut_202 : decode cX10_cut 202 = .ok (.iload_n 3, 1) := by decide +kernel
theorem dX10_cut_203 : decode cX10_cut 203 = .ok (.iastore, 1) := by decide +kernel
theorem dX10_cut_204 : decode cX10_cut 204 = .ok (.aload_n 0, 1) := by decide +kernel
theorem dX10_cut_205 : decode cX10_cut 205 = .ok (.getfield 46, 3) := by decide +kernel
theorem dX10_cut_208 : decode cX10_cut 208 = .ok (.iload 5, 2) := by decide +kernel
theorem dX10_cut_210 : decode cX10_cut 210 = .ok (.iload 4, 2) := by decide +kernel
theorem dX10_cut_212 : decode cX10_cut 212 = .ok (.iastore, 1) := by decide +kernel
theorem dX10_cut_213 : decode cX10_cut 213 = .ok (.aload_n 0, 1) := by decide +kernel
theorem dX10_cut_214 : decode cX10_cut 214 = .ok (.aload_n 0, 1) := by decide +kernel
theorem dX10_cut_215 : decode cX10_cut 215 = .ok (.getfield 204, 3) := by decide +kernel
theorem dX10_cut_218 : decode cX10_cut 218 = .ok (.iload_n 3, 1) := by decide +kernel
theorem dX10_cut_219 : decode cX10_cut 219 = .ok (.invokestatic 207, 3) := by decide +kernel
theorem dX10_cut_222 : decode cX10_cut 222 = .ok (.invokestatic 161, 3) := by decide +kernel
theorem dX10_cut_225 : decode cX10_cut 225 = .ok (.putfield 204, 3) := by decide +kernel
theorem dX10_cut_228 : decode cX10_cut 228 = .ok (.aload_n 0, 1) := by decide +kernel
theorem dX10_cut_229 : decode cX10_cut 229 = .ok (.dup, 1) := by decide +kernel
theorem dX10_cut_230 : decode cX10_cut 230 = .ok (.getfield 201, 3) := by decide +kernel
theorem dX10_cut_233 : decode cX10_cut 233 = .ok (.iconst 1, 1) := by decide +kernel
theorem dX10_cut_234 : decode cX10_cut 234 = .ok (.iadd, 1) := by decide +kernel
theorem dX10_cut_235 : decode cX10_cut 235 = .ok (.putfield 201, 3) := by decide +kernel
theorem dX10_cut_238 : decode cX10_cut 238 = .ok (.iinc 5 1, 3) := by decide +kernel
theorem dX10_cut_241 : decode cX10_cut 241 = .ok (.goto (-213), 3) := by decide +kernel
theorem dX10_cut_244 : decode cX10_cut 244 = .ok (.return_, 1) := by decide +kernel
theorem dX10_isBare_0 : decode cX10_isBare 0 = .ok (.aload_n 0, 1) := by decide +kernel
theorem dX10_isBare_1 : decode cX10_isBare 1 = .ok (.getfield 116, 3) := by decide +kernel
theorem dX10_isBare_4 : decode cX10_isBare 4 = .ok (.ifCond .eq 10, 3) := by decide +kernel
theorem dX10_isBare_7 : decode cX10_isBare 7 = .ok (.aload_n 0, 1) := by decide +kernel
theorem dX10_isBare_8 : decode cX10_isBare 8 = .ok (.getfield 172, 3) := by decide +kernel
theorem dX10_isBare_11 : decode cX10_isBare 11 = .ok (.ifCond .ne 7, 3) := by decide +kernel
theorem dX10_isBare_14 : decode cX10_isBare 14 = .ok (.iconst 1, 1) := by decide +kernel
theorem dX10_isBare_15 : decode cX10_isBare 15 = .ok (.goto 4, 3) := by decide +kernel
theorem dX10_isBare_18 : decode cX10_isBare 18 = .ok (.iconst 0, 1) := by decide +kernel
theorem dX10_isBare_19 : decode cX10_isBare 19 = .ok (.ireturn, 1) := by decide +kernel
theorem dX10_isUncut_0 : decode cX10_isUncut 0 = .ok (.aload_n 0, 1) := by decide +kernel
theorem dX10_isUncut_1 : decode cX10_isUncut 1 = .ok (.invokevirtual 210, 3) := by decide +kernel
theorem dX10_isUncut_4 : decode cX10_isUncut 4 = .ok (.iload_n 1, 1) := by decide +kernel
theorem dX10_isUncut_5 : decode cX10_isUncut 5 = .ok (.aload_n 0, 1) := by decide +kernel
theorem dX10_isUncut_6 : decode cX10_isUncut 6 = .ok (.getfield 201, 3) := by decide +kernel
theorem dX10_isUncut_9 : decode cX10_isUncut 9 = .ok (.if_icmp .lt 7, 3) := by decide +kernel
theorem dX10_isUncut_12 : decode cX10_isUncut 12 = .ok (.iconst 1, 1) := by decide +kernel
theorem dX10_isUncut_13 : decode cX10_isUncut 13 = .ok (.goto 4, 3) := by decide +kernel
theorem dX10_isUncut_16 : decode cX10_isUncut 16 = .ok (.iconst 0, 1) := by decide +kernel
theorem dX10_isUncut_17 : decode cX10_isUncut 17 = .ok (.ireturn, 1) := by decide +kernel
theorem dX10_where_0 : decode cX10_where 0 = .ok (.aload_n 0, 1) := by decide +kernel
theorem dX10_where_1 : decode cX10_where 1 = .ok (.iload_n 1, 1) := by decide +kernel
theorem dX10_where_2 : decode cX10_where 2 = .ok (.invokevirtual 180, 3) := by decide +kernel
theorem dX10_where_5 : decode cX10_where 5 = .ok (.ifCond .ne 11, 3) := by decide +kernel
theorem dX10_where_8 : decode cX10_where 8 = .ok (.aload_n 0, 1) := by decide +kernel
theorem dX10_where_9 : decode cX10_where 9 = .ok (.iload_n 1, 1) := by decide +kernel
theorem dX10_where_10 : decode cX10_where 10 = .ok (.invokevirtual 213, 3) := by decide +kernel
theorem dX10_where_13 : decode cX10_where 13 = .ok (.ifCond .eq 9, 3) := by decide +kernel
theorem dX10_where_16 : decode cX10_where 16 = .ok (.invokestatic 91, 3) := by decide +kernel
theorem dX10_where_19 : decode cX10_where 19 = .ok (.goto 10, 3) := by decide +kernel
theorem dX10_where_22 : decode cX10_where 22 = .ok (.aload_n 0, 1) := by decide +kernel
theorem dX10_where_23 : decode cX10_where 23 = .ok (.getfield 43, 3) := by decide +kernel
theorem dX10_where_26 : decode cX10_where 26 = .ok (.iload_n 1, 1) := by decide +kernel
theorem dX10_where_27 : decode cX10_where 27 = .ok (.iaload, 1) := by decide +kernel
theorem dX10_where_28 : decode cX10_where 28 = .ok (.i2l, 1) := by decide +kernel
theorem dX10_where_29 : decode cX10_where 29 = .ok (.lreturn, 1) := by decide +kernel
theorem dX10_heading_0 : decode cX10_heading 0 = .ok (.aload_n 0, 1) := by decide +kernel
theorem dX10_heading_1 : decode cX10_heading 1 = .ok (.iload_n 1, 1) := by decide +kernel
theorem dX10_heading_2 : decode cX10_heading 2 = .ok (.invokevirtual 180, 3) := by decide +kernel
theorem dX10_heading_5 : decode cX10_heading 5 = .ok (.ifCond .ne 11, 3) := by decide +kernel
theorem dX10_heading_8 : decode cX10_heading 8 = .ok (.aload_n 0, 1) := by decide +kernel
theorem dX10_heading_9 : decode cX10_heading 9 = .ok (.iload_n 1, 1) := by decide +kernel
theorem dX10_heading_10 : decode cX10_heading 10 = .ok (.invokevirtual 213, 3) := by decide +kernel
theorem dX10_heading_13 : decode cX10_heading 13 = .ok (.ifCond .eq 9, 3) := by decide +kernel
theorem dX10_heading_16 : decode cX10_heading 16 = .ok (.invokestatic 91, 3) := by decide +kernel
theorem dX10_heading_19 : decode cX10_heading 19 = .ok (.goto 10, 3) := by decide +kernel
theorem dX10_heading_22 : decode cX10_heading 22 = .ok (.aload_n 0, 1) := by decide +kernel
theorem dX10_heading_23 : decode cX10_heading 23 = .ok (.getfield 46, 3) := by decide +kernel
theorem dX10_heading_26 : decode cX10_heading 26 = .ok (.iload_n 1, 1) := by decide +kernel
theorem dX10_heading_27 : decode cX10_heading 27 = .ok (.iaload, 1) := by decide +kernel
theorem dX10_heading_28 : decode cX10_heading 28 = .ok (.i2l, 1) := by decide +kernel
theorem dX10_heading_29 : decode cX10_heading 29 = .ok (.lreturn, 1) := by decide +kernel
theorem dX10_off_0 : decode cX10_off 0 = .ok (.aload_n 0, 1) := by decide +kernel
theorem dX10_off_1 : decode cX10_off 1 = .ok (.invokevirtual 216, 3) := by decide +kernel
theorem dX10_off_4 : decode cX10_off 4 = .ok (.ifCond .eq 6, 3) := by decide +kernel
theorem dX10_off_7 : decode cX10_off 7 = .ok (.bipush (-3), 2) := by decide +kernel
theorem dX10_off_9 : decode cX10_off 9 = .ok (.ireturn, 1) := by decide +kernel
theorem dX10_off_10 : decode cX10_off 10 = .ok (.aload_n 0, 1) := by decide +kernel
theorem dX10_off_11 : decode cX10_off 11 = .ok (.invokevirtual 210, 3) := by decide +kernel
theorem dX10_off_14 : decode cX10_off 14 = .ok (.aload_n 0, 1) := by decide +kernel
theorem dX10_off_15 : decode cX10_off 15 = .ok (.getfield 204, 3) := by decide +kernel
theorem dX10_off_18 : decode cX10_off 18 = .ok (.ireturn, 1) := by decide +kernel
theorem dX10_pinched_0 : decode cX10_pinched 0 = .ok (.aload_n 0, 1) := by decide +kernel
theorem dX10_pinched_1 : decode cX10_pinched 1 = .ok (.invokevirtual 216, 3) := by decide +kernel
theorem dX10_pinched_4 : decode cX10_pinched 4 = .ok (.ifCond .eq 6, 3) := by decide +kernel
theorem dX10_pinched_7 : decode cX10_pinched 7 = .ok (.bipush (-3), 2) := by decide +kernel
theorem dX10_pinched_9 : decode cX10_pinched 9 = .ok (.ireturn, 1) := by decide +kernel
theorem dX10_pinched_10 : decode cX10_pinched 10 = .ok (.aload_n 0, 1) := by decide +kernel
theorem dX10_pinched_11 : decode cX10_pinched 11 = .ok (.invokevirtual 210, 3) := by decide +kernel
theorem dX10_pinched_14 : decode cX10_pinched 14 = .ok (.aload_n 0, 1) := by decide +kernel
theorem dX10_pinched_15 : decode cX10_pinched 15 = .ok (.getfield 201, 3) := by decide +kernel
theorem dX10_pinched_18 : decode cX10_pinched 18 = .ok (.aload_n 0, 1) := by decide +kernel
theorem dX10_pinched_19 : decode cX10_pinched 19 = .ok (.getfield 172, 3) := by decide +kernel
theorem dX10_pinched_22 : decode cX10_pinched 22 = .ok (.if_icmp .ge 10, 3) := by decide +kernel
theorem dX10_pinched_25 : decode cX10_pinched 25 = .ok (.aload_n 0, 1) := by decide +kernel
theorem dX10_pinched_26 : decode cX10_pinched 26 = .ok (.getfield 201, 3) := by decide +kernel
theorem dX10_pinched_29 : decode cX10_pinched 29 = .ok (.goto 5, 3) := by decide +kernel
theorem dX10_pinched_32 : decode cX10_pinched 32 = .ok (.bipush (-9), 2) := by decide +kernel
theorem dX10_pinched_34 : decode cX10_pinched 34 = .ok (.ireturn, 1) := by decide +kernel
theorem dX10_markOf_0 : decode cX10_markOf 0 = .ok (.iload_n 2, 1) := by decide +kernel
theorem dX10_markOf_1 : decode cX10_markOf 1 = .ok (.aload_n 0, 1) := by decide +kernel
theorem dX10_markOf_2 : decode cX10_markOf 2 = .ok (.getfield 13, 3) := by decide +kernel
theorem dX10_markOf_5 : decode cX10_markOf 5 = .ok (.iload_n 1, 1) := by decide +kernel
theorem dX10_markOf_6 : decode cX10_markOf 6 = .ok (.iaload, 1) := by decide +kernel
theorem dX10_markOf_7 : decode cX10_markOf 7 = .ok (.aload_n 0, 1) := by decide +kernel
theorem dX10_markOf_8 : decode cX10_markOf 8 = .ok (.getfield 16, 3) := by decide +kernel
theorem dX10_markOf_11 : decode cX10_markOf 11 = .ok (.iload_n 1, 1) := by decide +kernel
theorem dX10_markOf_12 : decode cX10_markOf 12 = .ok (.iaload, 1) := by decide +kernel
theorem dX10_markOf_13 : decode cX10_markOf 13 = .ok (.imul, 1) := by decide +kernel
theorem dX10_markOf_14 : decode cX10_markOf 14 = .ok (.iadd, 1) := by decide +kernel
theorem dX10_markOf_15 : decode cX10_markOf 15 = .ok (.ireturn, 1) := by decide +kernel
theorem dX10_marks_0 : decode cX10_marks 0 = .ok (.aload_n 0, 1) := by decide +kernel
theorem dX10_marks_1 : decode cX10_marks 1 = .ok (.iload_n 1, 1) := by decide +kernel
theorem dX10_marks_2 : decode cX10_marks 2 = .ok (.invokevirtual 180, 3) := by decide +kernel
theorem dX10_marks_5 : decode cX10_marks 5 = .ok (.ifCond .eq 5, 3) := by decide +kernel
theorem dX10_marks_8 : decode cX10_marks 8 = .ok (.iconst (-1), 1) := by decide +kernel
theorem dX10_marks_9 : decode cX10_marks 9 = .ok (.ireturn, 1) := by decide +kernel
theorem dX10_marks_10 : decode cX10_marks 10 = .ok (.aload_n 0, 1) := by decide +kernel
theorem dX10_marks_11 : decode cX10_marks 11 = .ok (.iload_n 1, 1) := by decide +kernel
theorem dX10_marks_12 : decode cX10_marks 12 = .ok (.invokevirtual 213, 3) := by decide +kernel
theorem dX10_marks_15 : decode cX10_marks 15 = .ok (.ifCond .eq 6, 3) := by decide +kernel
theorem dX10_marks_18 : decode cX10_marks 18 = .ok (.bipush (-3), 2) := by decide +kernel
theorem dX10_marks_20 : decode cX10_marks 20 = .ok (.ireturn, 1) := by decide +kernel
theorem dX10_marks_21 : decode cX10_marks 21 = .ok (.iconst 0, 1) := by decide +kernel
theorem dX10_marks_22 : decode cX10_marks 22 = .ok (.istore_n 2, 1) := by decide +kernel
theorem dX10_marks_23 : decode cX10_marks 23 = .ok (.iconst 0, 1) := by decide +kernel
theorem dX10_marks_24 : decode cX10_marks 24 = .ok (.istore_n 3, 1) := by decide +kernel
theorem dX10_marks_25 : decode cX10_marks 25 = .ok (.iload_n 3, 1) := by decide +kernel
theorem dX10_marks_26 : decode cX10_marks 26 = .ok (.aload_n 0, 1) := by decide +kernel
theorem dX10_marks_27 : decode cX10_marks 27 = .ok (.getfield 116, 3) := by decide +kernel
theorem dX10_marks_30 : decode cX10_marks 30 = .ok (.if_icmp .ge 89, 3) := by decide +kernel
theorem dX10_marks_33 : decode cX10_marks 33 = .ok (.aload_n 0, 1) := by decide +kernel
theorem dX10_marks_34 : decode cX10_marks 34 = .ok (.iload_n 3, 1) := by decide +kernel
theorem dX10_marks_35 : decode cX10_marks 35 = .ok (.invokevirtual 148, 3) := by decide +kernel
theorem dX10_marks_38 : decode cX10_marks 38 = .ok (.ifCond .le 7, 3) := by decide +kernel
theorem dX10_marks_41 : decode cX10_marks 41 = .ok (.iconst 1, 1) := by decide +kernel
theorem dX10_marks_42 : decode cX10_marks 42 = .ok (.goto 4, 3) := by decide +kernel
theorem dX10_marks_45 : decode cX10_marks 45 = .ok (.iconst 0, 1) := by decide +kernel
theorem dX10_marks_46 : decode cX10_marks 46 = .ok (.istore 4, 2) := by decide +kernel
theorem dX10_marks_48 : decode cX10_marks 48 = .ok (.iconst 0, 1) := by decide +kernel
theorem dX10_marks_49 : decode cX10_marks 49 = .ok (.istore 5, 2) := by decide +kernel
theorem dX10_marks_51 : decode cX10_marks 51 = .ok (.iload 5, 2) := by decide +kernel
theorem dX10_marks_53 : decode cX10_marks 53 = .ok (.iload_n 3, 1) := by decide +kernel
theorem dX10_marks_54 : decode cX10_marks 54 = .ok (.if_icmp .ge 46, 3) := by decide +kernel
theorem dX10_marks_57 : decode cX10_marks 57 = .ok (.iload 4, 2) := by decide +kernel
theorem dX10_marks_59 : decode cX10_marks 59 = .ok (.ifCond .eq 32, 3) := by decide +kernel
theorem dX10_marks_62 : decode cX10_marks 62 = .ok (.aload_n 0, 1) := by decide +kernel
theorem dX10_marks_63 : decode cX10_marks 63 = .ok (.iload 5, 2) := by decide +kernel
theorem dX10_marks_65 : decode cX10_marks 65 = .ok (.invokevirtual 148, 3) := by decide +kernel
theorem dX10_marks_68 : decode cX10_marks 68 = .ok (.ifCond .le 19, 3) := by decide +kernel
theorem dX10_marks_71 : decode cX10_marks 71 = .ok (.aload_n 0, 1) := by decide +kernel
theorem dX10_marks_72 : decode cX10_marks 72 = .ok (.iload 5, 2) := by decide +kernel
theorem dX10_marks_74 : decode cX10_marks 74 = .ok (.iconst 0, 1) := by decide +kernel
theorem dX10_marks_75 : decode cX10_marks 75 = .ok (.invokevirtual 220, 3) := by decide +kernel
theorem dX10_marks_78 : decode cX10_marks 78 = .ok (.aload_n 0, 1) := by decide +kernel
theorem dX10_marks_79 : decode cX10_marks 79 = .ok (.iload_n 3, 1) := by decide +kernel
theorem dX10_marks_80 : decode cX10_marks 80 = .ok (.iconst 0, 1) := by decide +kernel
theorem dX10_marks_81 : decode cX10_marks 81 = .ok (.invokevirtual 220, 3) := by decide +kernel
theorem dX10_marks_84 : decode cX10_marks 84 = .ok (.if_icmp .eq 7, 3) := by decide +kernel
theorem dX10_marks_87 : decode cX10_marks 87 = .ok (.iconst 1, 1) := by decide +kernel
theorem dX10_marks_88 : decode cX10_marks 88 = .ok (.goto 4, 3) := by decide +kernel
theorem dX10_marks_91 : decode cX10_marks 91 = .ok (.iconst 0, 1) := by decide +kernel
theorem dX10_marks_92 : decode cX10_marks 92 = .ok (.istore 4, 2) := by decide +kernel
theorem dX10_marks_94 : decode cX10_marks 94 = .ok (.iinc 5 1, 3) := by decide +kernel
theorem dX10_marks_97 : decode cX10_marks 97 = .ok (.goto (-46), 3) := by decide +kernel
theorem dX10_marks_100 : decode cX10_marks 100 = .ok (.iload_n 2, 1) := by decide +kernel
theorem dX10_marks_101 : decode cX10_marks 101 = .ok (.iload 4, 2) := by decide +kernel
theorem dX10_marks_103 : decode cX10_marks 103 = .ok (.ifCond .eq 7, 3) := by decide +kernel
theorem dX10_marks_106 : decode cX10_marks 106 = .ok (.iconst 1, 1) := by decide +kernel
theorem dX10_marks_107 : decode cX10_marks 107 = .ok (.goto 4, 3) := by decide +kernel
theorem dX10_marks_110 : decode cX10_marks 110 = .ok (.iconst 0, 1) := by decide +kernel
theorem dX10_marks_111 : decode cX10_marks 111 = .ok (.iadd, 1) := by decide +kernel
theorem dX10_marks_112 : decode cX10_marks 112 = .ok (.istore_n 2, 1) := by decide +kernel
theorem dX10_marks_113 : decode cX10_marks 113 = .ok (.iinc 3 1, 3) := by decide +kernel
theorem dX10_marks_116 : decode cX10_marks 116 = .ok (.goto (-91), 3) := by decide +kernel
theorem dX10_marks_119 : decode cX10_marks 119 = .ok (.iload_n 2, 1) := by decide +kernel
theorem dX10_marks_120 : decode cX10_marks 120 = .ok (.ireturn, 1) := by decide +kernel
theorem dX10_which_0 : decode cX10_which 0 = .ok (.aload_n 0, 1) := by decide +kernel
theorem dX10_which_1 : decode cX10_which 1 = .ok (.iload_n 1, 1) := by decide +kernel
theorem dX10_which_2 : decode cX10_which 2 = .ok (.invokevirtual 180, 3) := by decide +kernel
theorem dX10_which_5 : decode cX10_which 5 = .ok (.ifCond .eq 5, 3) := by decide +kernel
theorem dX10_which_8 : decode cX10_which 8 = .ok (.iconst (-1), 1) := by decide +kernel
theorem dX10_which_9 : decode cX10_which 9 = .ok (.ireturn, 1) := by decide +kernel
theorem dX10_which_10 : decode cX10_which 10 = .ok (.aload_n 0, 1) := by decide +kernel
theorem dX10_which_11 : decode cX10_which 11 = .ok (.iload_n 1, 1) := by decide +kernel
theorem dX10_which_12 : decode cX10_which 12 = .ok (.invokevirtual 213, 3) := by decide +kernel
theorem dX10_which_15 : decode cX10_which 15 = .ok (.ifCond .eq 6, 3) := by decide +kernel
theorem dX10_which_18 : decode cX10_which 18 = .ok (.bipush (-3), 2) := by decide +kernel
theorem dX10_which_20 : decode cX10_which 20 = .ok (.ireturn, 1) := by decide +kernel
theorem dX10_which_21 : decode cX10_which 21 = .ok (.iconst 0, 1) := by decide +kernel
theorem dX10_which_22 : decode cX10_which 22 = .ok (.istore_n 3, 1) := by decide +kernel
theorem dX10_which_23 : decode cX10_which 23 = .ok (.iconst 0, 1) := by decide +kernel
theorem dX10_which_24 : decode cX10_which 24 = .ok (.istore 4, 2) := by decide +kernel
theorem dX10_which_26 : decode cX10_which 26 = .ok (.iload 4, 2) := by decide +kernel
theorem dX10_which_28 : decode cX10_which 28 = .ok (.aload_n 0, 1) := by decide +kernel
theorem dX10_which_29 : decode cX10_which 29 = .ok (.getfield 116, 3) := by decide +kernel
theorem dX10_which_32 : decode cX10_which 32 = .ok (.if_icmp .ge 45, 3) := by decide +kernel
theorem dX10_which_35 : decode cX10_which 35 = .ok (.iload_n 3, 1) := by decide +kernel
theorem dX10_which_36 : decode cX10_which 36 = .ok (.aload_n 0, 1) := by decide +kernel
theorem dX10_which_37 : decode cX10_which 37 = .ok (.iload 4, 2) := by decide +kernel
theorem dX10_which_39 : decode cX10_which 39 = .ok (.invokevirtual 148, 3) := by decide +kernel
theorem dX10_which_42 : decode cX10_which 42 = .ok (.ifCond .le 26, 3) := by decide +kernel
theorem dX10_which_45 : decode cX10_which 45 = .ok (.aload_n 0, 1) := by decide +kernel
theorem dX10_which_46 : decode cX10_which 46 = .ok (.iload 4, 2) := by decide +kernel
theorem dX10_which_48 : decode cX10_which 48 = .ok (.aload_n 0, 1) := by decide +kernel
theorem dX10_which_49 : decode cX10_which 49 = .ok (.getfield 43, 3) := by decide +kernel
theorem dX10_which_52 : decode cX10_which 52 = .ok (.iload_n 1, 1) := by decide +kernel
theorem dX10_which_53 : decode cX10_which 53 = .ok (.iaload, 1) := by decide +kernel
theorem dX10_which_54 : decode cX10_which 54 = .ok (.invokevirtual 220, 3) := by decide +kernel
theorem dX10_which_57 : decode cX10_which 57 = .ok (.iload_n 2, 1) := by decide +kernel
theorem dX10_which_58 : decode cX10_which 58 = .ok (.if_icmp .ne 10, 3) := by decide +kernel
theorem dX10_which_61 : decode cX10_which 61 = .ok (.iconst 1, 1) := by decide +kernel
theorem dX10_which_62 : decode cX10_which 62 = .ok (.iload 4, 2) := by decide +kernel
theorem dX10_which_64 : decode cX10_which 64 = .ok (.ishl, 1) := by decide +kernel
theorem dX10_which_65 : decode cX10_which 65 = .ok (.goto 4, 3) := by decide +kernel
theorem dX10_which_68 : decode cX10_which 68 = .ok (.iconst 0, 1) := by decide +kernel
theorem dX10_which_69 : decode cX10_which 69 = .ok (.ior, 1) := by decide +kernel
theorem dX10_which_70 : decode cX10_which 70 = .ok (.istore_n 3, 1) := by decide +kernel
theorem dX10_which_71 : decode cX10_which 71 = .ok (.iinc 4 1, 3) := by decide +kernel
theorem dX10_which_74 : decode cX10_which 74 = .ok (.goto (-48), 3) := by decide +kernel
theorem dX10_which_77 : decode cX10_which 77 = .ok (.iload_n 3, 1) := by decide +kernel
theorem dX10_which_78 : decode cX10_which 78 = .ok (.ireturn, 1) := by decide +kernel
theorem dX10_straightest_0 : decode cX10_straightest 0 = .ok (.iload_n 1, 1) := by decide +kernel
theorem dX10_straightest_1 : decode cX10_straightest 1 = .ok (.i2l, 1) := by decide +kernel
theorem dX10_straightest_2 : decode cX10_straightest 2 = .ok (.lconst 0, 1) := by decide +kernel
theorem dX10_straightest_3 : decode cX10_straightest 3 = .ok (.ldc2_w 223, 3) := by decide +kernel
theorem dX10_straightest_6 : decode cX10_straightest 6 = .ok (.invokestatic 105, 3) := by decide +kernel
theorem dX10_straightest_9 : decode cX10_straightest 9 = .ok (.ifCond .ne 6, 3) := by decide +kernel
theorem dX10_straightest_12 : decode cX10_straightest 12 = .ok (.bipush (-2), 2) := by decide +kernel
theorem dX10_straightest_14 : decode cX10_straightest 14 = .ok (.ireturn, 1) := by decide +kernel
theorem dX10_straightest_15 : decode cX10_straightest 15 = .ok (.aload_n 0, 1) := by decide +kernel
theorem dX10_straightest_16 : decode cX10_straightest 16 = .ok (.invokevirtual 216, 3) := by decide +kernel
theorem dX10_straightest_19 : decode cX10_straightest 19 = .ok (.ifCond .eq 6, 3) := by decide +kernel
theorem dX10_straightest_22 : decode cX10_straightest 22 = .ok (.bipush (-3), 2) := by decide +kernel
theorem dX10_straightest_24 : decode cX10_straightest 24 = .ok (.ireturn, 1) := by decide +kernel
theorem dX10_straightest_25 : decode cX10_straightest 25 = .ok (.iload_n 1, 1) := by decide +kernel
theorem dX10_straightest_26 : decode cX10_straightest 26 = .ok (.iconst 2, 1) := by decide +kernel
theorem dX10_straightest_27 : decode cX10_straightest 27 = .ok (.irem, 1) := by decide +kernel
theorem dX10_straightest_28 : decode cX10_straightest 28 = .ok (.ifCond .ne 7, 3) := by decide +kernel
theorem dX10_straightest_31 : decode cX10_straightest 31 = .ok (.iconst 1, 1) := by decide +kernel
theorem dX10_straightest_32 : decode cX10_straightest 32 = .ok (.goto 4, 3) := by decide +kernel
theorem dX10_straightest_35 : decode cX10_straightest 35 = .ok (.iconst 0, 1) := by decide +kernel
theorem dX10_straightest_36 : decode cX10_straightest 36 = .ok (.istore_n 2, 1) := by decide +kernel
theorem dX10_straightest_37 : decode cX10_straightest 37 = .ok (.iload_n 2, 1) := by decide +kernel
theorem dX10_straightest_38 : decode cX10_straightest 38 = .ok (.ifCond .eq 10, 3) := by decide +kernel
theorem dX10_straightest_41 : decode cX10_straightest 41 = .ok (.aload_n 0, 1) := by decide +kernel
theorem dX10_straightest_42 : decode cX10_straightest 42 = .ok (.getfield 187, 3) := by decide +kernel
theorem dX10_straightest_45 : decode cX10_straightest 45 = .ok (.goto 7, 3) := by decide +kernel
theorem dX10_straightest_48 : decode cX10_straightest 48 = .ok (.aload_n 0, 1) := by decide +kernel
theorem dX10_straightest_49 : decode cX10_straightest 49 = .ok (.getfield 190, 3) := by decide +kernel
theorem dX10_straightest_52 : decode cX10_straightest 52 = .ok (.istore_n 3, 1) := by decide +kernel
theorem dX10_straightest_53 : decode cX10_straightest 53 = .ok (.iconst 0, 1) := by decide +kernel
theorem dX10_straightest_54 : decode cX10_straightest 54 = .ok (.istore 4, 2) := by decide +kernel
theorem dX10_straightest_56 : decode cX10_straightest 56 = .ok (.bipush (-9), 2) := by decide +kernel
theorem dX10_straightest_58 : decode cX10_straightest 58 = .ok (.istore 5, 2) := by decide +kernel
theorem dX10_straightest_60 : decode cX10_straightest 60 = .ok (.iconst 0, 1) := by decide +kernel
theorem dX10_straightest_61 : decode cX10_straightest 61 = .ok (.istore 6, 2) := by decide +kernel
theorem dX10_straightest_63 : decode cX10_straightest 63 = .ok (.iload 6, 2) := by decide +kernel
theorem dX10_straightest_65 : decode cX10_straightest 65 = .ok (.iload_n 2, 1) := by decide +kernel
theorem dX10_straightest_66 : decode cX10_straightest 66 = .ok (.ifCond .eq 8, 3) := by decide +kernel
theorem dX10_straightest_69 : decode cX10_straightest 69 = .ok (.bipush 19, 2) := by decide +kernel
theorem dX10_straightest_71 : decode cX10_straightest 71 = .ok (.goto 5, 3) := by decide +kernel
theorem dX10_straightest_74 : decode cX10_straightest 74 = .ok (.bipush 10, 2) := by decide +kernel
theorem dX10_straightest_76 : decode cX10_straightest 76 = .ok (.if_icmp .ge 89, 3) := by decide +kernel
theorem dX10_straightest_79 : decode cX10_straightest 79 = .ok (.iload_n 2, 1) := by decide +kernel
theorem dX10_straightest_80 : decode cX10_straightest 80 = .ok (.ifCond .ne 8, 3) := by decide +kernel
theorem dX10_straightest_83 : decode cX10_straightest 83 = .ok (.iload 6, 2) := by decide +kernel
theorem dX10_straightest_85 : decode cX10_straightest 85 = .ok (.goto 25, 3) := by decide +kernel
theorem dX10_straightest_88 : decode cX10_straightest 88 = .ok (.iload 6, 2) := by decide +kernel
theorem dX10_straightest_90 : decode cX10_straightest 90 = .ok (.iconst 2, 1) := by decide +kernel
theorem dX10_straightest_91 : decode cX10_straightest 91 = .ok (.irem, 1) := by decide +kernel
theorem dX10_straightest_92 : decode cX10_straightest 92 = .ok (.iconst 1, 1) := by decide +kernel
theorem dX10_straightest_93 : decode cX10_straightest 93 = .ok (.if_icmp .ne 13, 3) := by decide +kernel
theorem dX10_straightest_96 : decode cX10_straightest 96 = .ok (.iload 6, 2) := by decide +kernel
theorem dX10_straightest_98 : decode cX10_straightest 98 = .ok (.iconst 1, 1) := by decide +kernel
theorem dX10_straightest_99 : decode cX10_straightest 99 = .ok (.iadd, 1) := by decide +kernel
theorem dX10_straightest_100 : decode cX10_straightest 100 = .ok (.ineg, 1) := by decide +kernel
theorem dX10_straightest_101 : decode cX10_straightest 101 = .ok (.iconst 2, 1) := by decide +kernel
theorem dX10_straightest_102 : decode cX10_straightest 102 = .ok (.idiv, 1) := by decide +kernel
theorem dX10_straightest_103 : decode cX10_straightest 103 = .ok (.goto 7, 3) := by decide +kernel
theorem dX10_straightest_106 : decode cX10_straightest 106 = .ok (.iload 6, 2) := by decide +kernel
theorem dX10_straightest_108 : decode cX10_straightest 108 = .ok (.iconst 2, 1) := by decide +kernel
theorem dX10_straightest_109 : decode cX10_straightest 109 = .ok (.idiv, 1) := by decide +kernel
theorem dX10_straightest_110 : decode cX10_straightest 110 = .ok (.istore 7, 2) := by decide +kernel
theorem dX10_straightest_112 : decode cX10_straightest 112 = .ok (.iload_n 2, 1) := by decide +kernel
theorem dX10_straightest_113 : decode cX10_straightest 113 = .ok (.ifCond .eq 12, 3) := by decide +kernel
theorem dX10_straightest_116 : decode cX10_straightest 116 = .ok (.aload_n 0, 1) := by decide +kernel
theorem dX10_straightest_117 : decode cX10_straightest 117 = .ok (.iload 7, 2) := by decide +kernel
theorem dX10_straightest_119 : decode cX10_straightest 119 = .ok (.putfield 187, 3) := by decide +kernel
theorem dX10_straightest_122 : decode cX10_straightest 122 = .ok (.goto 9, 3) := by decide +kernel
theorem dX10_straightest_125 : decode cX10_straightest 125 = .ok (.aload_n 0, 1) := by decide +kernel
theorem dX10_straightest_126 : decode cX10_straightest 126 = .ok (.iload 7, 2) := by decide +kernel
theorem dX10_straightest_128 : decode cX10_straightest 128 = .ok (.putfield 190, 3) := by decide +kernel
theorem dX10_straightest_131 : decode cX10_straightest 131 = .ok (.aload_n 0, 1) := by decide +kernel
theorem dX10_straightest_132 : decode cX10_straightest 132 = .ok (.invokevirtual 210, 3) := by decide +kernel
theorem dX10_straightest_135 : decode cX10_straightest 135 = .ok (.iload 5, 2) := by decide +kernel
theorem dX10_straightest_137 : decode cX10_straightest 137 = .ok (.ifCond .lt 12, 3) := by decide +kernel
theorem dX10_straightest_140 : decode cX10_straightest 140 = .ok (.aload_n 0, 1) := by decide +kernel
theorem dX10_straightest_141 : decode cX10_straightest 141 = .ok (.getfield 204, 3) := by decide +kernel
theorem dX10_straightest_144 : decode cX10_straightest 144 = .ok (.iload 5, 2) := by decide +kernel
theorem dX10_straightest_146 : decode cX10_straightest 146 = .ok (.if_icmp .ge 13, 3) := by decide +kernel
theorem dX10_straightest_149 : decode cX10_straightest 149 = .ok (.iload 7, 2) := by decide +kernel
theorem dX10_straightest_151 : decode cX10_straightest 151 = .ok (.istore 4, 2) := by decide +kernel
theorem dX10_straightest_153 : decode cX10_straightest 153 = .ok (.aload_n 0, 1) := by decide +kernel
theorem dX10_straightest_154 : decode cX10_straightest 154 = .ok (.getfield 204, 3) := by decide +kernel
theorem dX10_straightest_157 : decode cX10_straightest 157 = .ok (.istore 5, 2) := by decide +kernel
theorem dX10_straightest_159 : decode cX10_straightest 159 = .ok (.iinc 6 1, 3) := by decide +kernel
theorem dX10_straightest_162 : decode cX10_straightest 162 = .ok (.goto (-99), 3) := by decide +kernel
theorem dX10_straightest_165 : decode cX10_straightest 165 = .ok (.iload_n 2, 1) := by decide +kernel
theorem dX10_straightest_166 : decode cX10_straightest 166 = .ok (.ifCond .eq 11, 3) := by decide +kernel
theorem dX10_straightest_169 : decode cX10_straightest 169 = .ok (.aload_n 0, 1) := by decide +kernel
theorem dX10_straightest_170 : decode cX10_straightest 170 = .ok (.iload_n 3, 1) := by decide +kernel
theorem dX10_straightest_171 : decode cX10_straightest 171 = .ok (.putfield 187, 3) := by decide +kernel
theorem dX10_straightest_174 : decode cX10_straightest 174 = .ok (.goto 8, 3) := by decide +kernel
theorem dX10_straightest_177 : decode cX10_straightest 177 = .ok (.aload_n 0, 1) := by decide +kernel
theorem dX10_straightest_178 : decode cX10_straightest 178 = .ok (.iload_n 3, 1) := by decide +kernel
theorem dX10_straightest_179 : decode cX10_straightest 179 = .ok (.putfield 190, 3) := by decide +kernel
theorem dX10_straightest_182 : decode cX10_straightest 182 = .ok (.iload_n 1, 1) := by decide +kernel
theorem dX10_straightest_183 : decode cX10_straightest 183 = .ok (.iconst 2, 1) := by decide +kernel
theorem dX10_straightest_184 : decode cX10_straightest 184 = .ok (.if_icmp .ge 8, 3) := by decide +kernel
theorem dX10_straightest_187 : decode cX10_straightest 187 = .ok (.iload 4, 2) := by decide +kernel
theorem dX10_straightest_189 : decode cX10_straightest 189 = .ok (.goto 5, 3) := by decide +kernel
theorem dX10_straightest_192 : decode cX10_straightest 192 = .ok (.iload 5, 2) := by decide +kernel
theorem dX10_straightest_194 : decode cX10_straightest 194 = .ok (.ireturn, 1) := by decide +kernel
theorem dX10_noFlaw_0 : decode cX10_noFlaw 0 = .ok (.iload_n 1, 1) := by decide +kernel
theorem dX10_noFlaw_1 : decode cX10_noFlaw 1 = .ok (.i2l, 1) := by decide +kernel
theorem dX10_noFlaw_2 : decode cX10_noFlaw 2 = .ok (.lconst 0, 1) := by decide +kernel
theorem dX10_noFlaw_3 : decode cX10_noFlaw 3 = .ok (.aload_n 0, 1) := by decide +kernel
theorem dX10_noFlaw_4 : decode cX10_noFlaw 4 = .ok (.getfield 142, 3) := by decide +kernel
theorem dX10_noFlaw_7 : decode cX10_noFlaw 7 = .ok (.i2l, 1) := by decide +kernel
theorem dX10_noFlaw_8 : decode cX10_noFlaw 8 = .ok (.lconst 1, 1) := by decide +kernel
theorem dX10_noFlaw_9 : decode cX10_noFlaw 9 = .ok (.lsub, 1) := by decide +kernel
theorem dX10_noFlaw_10 : decode cX10_noFlaw 10 = .ok (.invokestatic 105, 3) := by decide +kernel
theorem dX10_noFlaw_13 : decode cX10_noFlaw 13 = .ok (.ifCond .ne 7, 3) := by decide +kernel
theorem dX10_noFlaw_16 : decode cX10_noFlaw 16 = .ok (.iconst 1, 1) := by decide +kernel
theorem dX10_noFlaw_17 : decode cX10_noFlaw 17 = .ok (.goto 4, 3) := by decide +kernel
theorem dX10_noFlaw_20 : decode cX10_noFlaw 20 = .ok (.iconst 0, 1) := by decide +kernel
theorem dX10_noFlaw_21 : decode cX10_noFlaw 21 = .ok (.ireturn, 1) := by decide +kernel
theorem dX10_flaw_0 : decode cX10_flaw 0 = .ok (.aload_n 0, 1) := by decide +kernel
theorem dX10_flaw_1 : decode cX10_flaw 1 = .ok (.iload_n 1, 1) := by decide +kernel
theorem dX10_flaw_2 : decode cX10_flaw 2 = .ok (.invokevirtual 151, 3) := by decide +kernel
theorem dX10_flaw_5 : decode cX10_flaw 5 = .ok (.ifCond .eq 5, 3) := by decide +kernel
theorem dX10_flaw_8 : decode cX10_flaw 8 = .ok (.iconst (-1), 1) := by decide +kernel
theorem dX10_flaw_9 : decode cX10_flaw 9 = .ok (.ireturn, 1) := by decide +kernel
theorem dX10_flaw_10 : decode cX10_flaw 10 = .ok (.iload_n 2, 1) := by decide +kernel
theorem dX10_flaw_11 : decode cX10_flaw 11 = .ok (.i2l, 1) := by decide +kernel
theorem dX10_flaw_12 : decode cX10_flaw 12 = .ok (.lconst 0, 1) := by decide +kernel
theorem dX10_flaw_13 : decode cX10_flaw 13 = .ok (.ldc2_w 103, 3) := by decide +kernel
theorem dX10_flaw_16 : decode cX10_flaw 16 = .ok (.invokestatic 105, 3) := by decide +kernel
theorem dX10_flaw_19 : decode cX10_flaw 19 = .ok (.ifCond .eq 15, 3) := by decide +kernel
theorem dX10_flaw_22 : decode cX10_flaw 22 = .ok (.iload_n 3, 1) := by decide +kernel
theorem dX10_flaw_23 : decode cX10_flaw 23 = .ok (.i2l, 1) := by decide +kernel
theorem dX10_flaw_24 : decode cX10_flaw 24 = .ok (.lconst 0, 1) := by decide +kernel
theorem dX10_flaw_25 : decode cX10_flaw 25 = .ok (.ldc2_w 122, 3) := by decide +kernel
theorem dX10_flaw_28 : decode cX10_flaw 28 = .ok (.invokestatic 105, 3) := by decide +kernel
theorem dX10_flaw_31 : decode cX10_flaw 31 = .ok (.ifCond .ne 6, 3) := by decide +kernel
theorem dX10_flaw_34 : decode cX10_flaw 34 = .ok (.bipush (-2), 2) := by decide +kernel
theorem dX10_flaw_36 : decode cX10_flaw 36 = .ok (.ireturn, 1) := by decide +kernel
theorem dX10_flaw_37 : decode cX10_flaw 37 = .ok (.aload_n 0, 1) := by decide +kernel
theorem dX10_flaw_38 : decode cX10_flaw 38 = .ok (.getfield 142, 3) := by decide +kernel
theorem dX10_flaw_41 : decode cX10_flaw 41 = .ok (.bipush 6, 2) := by decide +kernel
theorem dX10_flaw_43 : decode cX10_flaw 43 = .ok (.if_icmp .ne 6, 3) := by decide +kernel
theorem dX10_flaw_46 : decode cX10_flaw 46 = .ok (.bipush (-4), 2) := by decide +kernel
theorem dX10_flaw_48 : decode cX10_flaw 48 = .ok (.ireturn, 1) := by decide +kernel
theorem dX10_flaw_49 : decode cX10_flaw 49 = .ok (.aload_n 0, 1) := by decide +kernel
theorem dX10_flaw_50 : decode cX10_flaw 50 = .ok (.getfield 49, 3) := by decide +kernel
theorem dX10_flaw_53 : decode cX10_flaw 53 = .ok (.aload_n 0, 1) := by decide +kernel
theorem dX10_flaw_54 : decode cX10_flaw 54 = .ok (.getfield 142, 3) := by decide +kernel
theorem dX10_flaw_57 : decode cX10_flaw 57 = .ok (.iload_n 1, 1) := by decide +kernel
theorem dX10_flaw_58 : decode cX10_flaw 58 = .ok (.iastore, 1) := by decide +kernel
theorem dX10_flaw_59 : decode cX10_flaw 59 = .ok (.aload_n 0, 1) := by decide +kernel
theorem dX10_flaw_60 : decode cX10_flaw 60 = .ok (.getfield 52, 3) := by decide +kernel
theorem dX10_flaw_63 : decode cX10_flaw 63 = .ok (.aload_n 0, 1) := by decide +kernel
theorem dX10_flaw_64 : decode cX10_flaw 64 = .ok (.getfield 142, 3) := by decide +kernel
theorem dX10_flaw_67 : decode cX10_flaw 67 = .ok (.iload_n 2, 1) := by decide +kernel
theorem dX10_flaw_68 : decode cX10_flaw 68 = .ok (.iastore, 1) := by decide +kernel
theorem dX10_flaw_69 : decode cX10_flaw 69 = .ok (.aload_n 0, 1) := by decide +kernel
theorem dX10_flaw_70 : decode cX10_flaw 70 = .ok (.getfield 55, 3) := by decide +kernel
theorem dX10_flaw_73 : decode cX10_flaw 73 = .ok (.aload_n 0, 1) := by decide +kernel
theorem dX10_flaw_74 : decode cX10_flaw 74 = .ok (.getfield 142, 3) := by decide +kernel
theorem dX10_flaw_77 : decode cX10_flaw 77 = .ok (.iload_n 3, 1) := by decide +kernel
theorem dX10_flaw_78 : decode cX10_flaw 78 = .ok (.iastore, 1) := by decide +kernel
theorem dX10_flaw_79 : decode cX10_flaw 79 = .ok (.aload_n 0, 1) := by decide +kernel
theorem dX10_flaw_80 : decode cX10_flaw 80 = .ok (.dup, 1) := by decide +kernel
theorem dX10_flaw_81 : decode cX10_flaw 81 = .ok (.getfield 142, 3) := by decide +kernel
theorem dX10_flaw_84 : decode cX10_flaw 84 = .ok (.iconst 1, 1) := by decide +kernel
theorem dX10_flaw_85 : decode cX10_flaw 85 = .ok (.iadd, 1) := by decide +kernel
theorem dX10_flaw_86 : decode cX10_flaw 86 = .ok (.putfield 142, 3) := by decide +kernel
theorem dX10_flaw_89 : decode cX10_flaw 89 = .ok (.aload_n 0, 1) := by decide +kernel
theorem dX10_flaw_90 : decode cX10_flaw 90 = .ok (.getfield 142, 3) := by decide +kernel
theorem dX10_flaw_93 : decode cX10_flaw 93 = .ok (.iconst 1, 1) := by decide +kernel
theorem dX10_flaw_94 : decode cX10_flaw 94 = .ok (.isub, 1) := by decide +kernel
theorem dX10_flaw_95 : decode cX10_flaw 95 = .ok (.ireturn, 1) := by decide +kernel
theorem dX10_ofFlaw_0 : decode cX10_ofFlaw 0 = .ok (.aload_n 0, 1) := by decide +kernel
theorem dX10_ofFlaw_1 : decode cX10_ofFlaw 1 = .ok (.iload_n 1, 1) := by decide +kernel
theorem dX10_ofFlaw_2 : decode cX10_ofFlaw 2 = .ok (.invokevirtual 225, 3) := by decide +kernel
theorem dX10_ofFlaw_5 : decode cX10_ofFlaw 5 = .ok (.ifCond .eq 5, 3) := by decide +kernel
theorem dX10_ofFlaw_8 : decode cX10_ofFlaw 8 = .ok (.iconst (-1), 1) := by decide +kernel
theorem dX10_ofFlaw_9 : decode cX10_ofFlaw 9 = .ok (.ireturn, 1) := by decide +kernel
theorem dX10_ofFlaw_10 : decode cX10_ofFlaw 10 = .ok (.iload_n 2, 1) := by decide +kernel
theorem dX10_ofFlaw_11 : decode cX10_ofFlaw 11 = .ok (.ifCond .ne 12, 3) := by decide +kernel
theorem dX10_ofFlaw_14 : decode cX10_ofFlaw 14 = .ok (.aload_n 0, 1) := by decide +kernel
theorem dX10_ofFlaw_15 : decode cX10_ofFlaw 15 = .ok (.getfield 49, 3) := by decide +kernel
theorem dX10_ofFlaw_18 : decode cX10_ofFlaw 18 = .ok (.iload_n 1, 1) := by decide +kernel
theorem dX10_ofFlaw_19 : decode cX10_ofFlaw 19 = .ok (.iaload, 1) := by decide +kernel
theorem dX10_ofFlaw_20 : decode cX10_ofFlaw 20 = .ok (.goto 33, 3) := by decide +kernel
theorem dX10_ofFlaw_23 : decode cX10_ofFlaw 23 = .ok (.iload_n 2, 1) := by decide +kernel
theorem dX10_ofFlaw_24 : decode cX10_ofFlaw 24 = .ok (.iconst 1, 1) := by decide +kernel
theorem dX10_ofFlaw_25 : decode cX10_ofFlaw 25 = .ok (.if_icmp .ne 12, 3) := by decide +kernel
theorem dX10_ofFlaw_28 : decode cX10_ofFlaw 28 = .ok (.aload_n 0, 1) := by decide +kernel
theorem dX10_ofFlaw_29 : decode cX10_ofFlaw 29 = .ok (.getfield 52, 3) := by decide +kernel
theorem dX10_ofFlaw_32 : decode cX10_ofFlaw 32 = .ok (.iload_n 1, 1) := by decide +kernel
theorem dX10_ofFlaw_33 : decode cX10_ofFlaw 33 = .ok (.iaload, 1) := by decide +kernel
theorem dX10_ofFlaw_34 : decode cX10_ofFlaw 34 = .ok (.goto 19, 3) := by decide +kernel
theorem dX10_ofFlaw_37 : decode cX10_ofFlaw 37 = .ok (.iload_n 2, 1) := by decide +kernel
theorem dX10_ofFlaw_38 : decode cX10_ofFlaw 38 = .ok (.iconst 2, 1) := by decide +kernel
theorem dX10_ofFlaw_39 : decode cX10_ofFlaw 39 = .ok (.if_icmp .ne 12, 3) := by decide +kernel
theorem dX10_ofFlaw_42 : decode cX10_ofFlaw 42 = .ok (.aload_n 0, 1) := by decide +kernel
theorem dX10_ofFlaw_43 : decode cX10_ofFlaw 43 = .ok (.getfield 55, 3) := by decide +kernel
theorem dX10_ofFlaw_46 : decode cX10_ofFlaw 46 = .ok (.iload_n 1, 1) := by decide +kernel
theorem dX10_ofFlaw_47 : decode cX10_ofFlaw 47 = .ok (.iaload, 1) := by decide +kernel
theorem dX10_ofFlaw_48 : decode cX10_ofFlaw 48 = .ok (.goto 5, 3) := by decide +kernel
theorem dX10_ofFlaw_51 : decode cX10_ofFlaw 51 = .ok (.bipush (-2), 2) := by decide +kernel
theorem dX10_ofFlaw_53 : decode cX10_ofFlaw 53 = .ok (.ireturn, 1) := by decide +kernel
theorem dX10_reading_0 : decode cX10_reading 0 = .ok (.aload_n 0, 1) := by decide +kernel
theorem dX10_reading_1 : decode cX10_reading 1 = .ok (.iload_n 1, 1) := by decide +kernel
theorem dX10_reading_2 : decode cX10_reading 2 = .ok (.invokevirtual 180, 3) := by decide +kernel
theorem dX10_reading_5 : decode cX10_reading 5 = .ok (.ifCond .eq 5, 3) := by decide +kernel
theorem dX10_reading_8 : decode cX10_reading 8 = .ok (.iconst (-1), 1) := by decide +kernel
theorem dX10_reading_9 : decode cX10_reading 9 = .ok (.ireturn, 1) := by decide +kernel
theorem dX10_reading_10 : decode cX10_reading 10 = .ok (.aload_n 0, 1) := by decide +kernel
theorem dX10_reading_11 : decode cX10_reading 11 = .ok (.getfield 145, 3) := by decide +kernel
theorem dX10_reading_14 : decode cX10_reading 14 = .ok (.bipush 8, 2) := by decide +kernel
theorem dX10_reading_16 : decode cX10_reading 16 = .ok (.if_icmp .ne 6, 3) := by decide +kernel
theorem dX10_reading_19 : decode cX10_reading 19 = .ok (.bipush (-4), 2) := by decide +kernel
theorem dX10_reading_21 : decode cX10_reading 21 = .ok (.ireturn, 1) := by decide +kernel
theorem dX10_reading_22 : decode cX10_reading 22 = .ok (.aload_n 0, 1) := by decide +kernel
theorem dX10_reading_23 : decode cX10_reading 23 = .ok (.getfield 58, 3) := by decide +kernel
theorem dX10_reading_26 : decode cX10_reading 26 = .ok (.aload_n 0, 1) := by decide +kernel
theorem dX10_reading_27 : decode cX10_reading 27 = .ok (.getfield 145, 3) := by decide +kernel
theorem dX10_reading_30 : decode cX10_reading 30 = .ok (.iload_n 1, 1) := by decide +kernel
theorem dX10_reading_31 : decode cX10_reading 31 = .ok (.iastore, 1) := by decide +kernel
theorem dX10_reading_32 : decode cX10_reading 32 = .ok (.aload_n 0, 1) := by decide +kernel
theorem dX10_reading_33 : decode cX10_reading 33 = .ok (.getfield 61, 3) := by decide +kernel
theorem dX10_reading_36 : decode cX10_reading 36 = .ok (.aload_n 0, 1) := by decide +kernel
theorem dX10_reading_37 : decode cX10_reading 37 = .ok (.getfield 145, 3) := by decide +kernel
theorem dX10_reading_40 : decode cX10_reading 40 = .ok (.iload_n 2, 1) := by decide +kernel
theorem dX10_reading_41 : decode cX10_reading 41 = .ok (.iastore, 1) := by decide +kernel
theorem dX10_reading_42 : decode cX10_reading 42 = .ok (.aload_n 0, 1) := by decide +kernel
theorem dX10_reading_43 : decode cX10_reading 43 = .ok (.dup, 1) := by decide +kernel
theorem dX10_reading_44 : decode cX10_reading 44 = .ok (.getfield 145, 3) := by decide +kernel
theorem dX10_reading_47 : decode cX10_reading 47 = .ok (.iconst 1, 1) := by decide +kernel
theorem dX10_reading_48 : decode cX10_reading 48 = .ok (.iadd, 1) := by decide +kernel
theorem dX10_reading_49 : decode cX10_reading 49 = .ok (.putfield 145, 3) := by decide +kernel
theorem dX10_reading_52 : decode cX10_reading 52 = .ok (.aload_n 0, 1) := by decide +kernel
theorem dX10_reading_53 : decode cX10_reading 53 = .ok (.getfield 145, 3) := by decide +kernel
theorem dX10_reading_56 : decode cX10_reading 56 = .ok (.iconst 1, 1) := by decide +kernel
theorem dX10_reading_57 : decode cX10_reading 57 = .ok (.isub, 1) := by decide +kernel
theorem dX10_reading_58 : decode cX10_reading 58 = .ok (.ireturn, 1) := by decide +kernel
theorem dX10_back_0 : decode cX10_back 0 = .ok (.iload_n 1, 1) := by decide +kernel
theorem dX10_back_1 : decode cX10_back 1 = .ok (.i2l, 1) := by decide +kernel
theorem dX10_back_2 : decode cX10_back 2 = .ok (.lconst 0, 1) := by decide +kernel
theorem dX10_back_3 : decode cX10_back 3 = .ok (.aload_n 0, 1) := by decide +kernel
theorem dX10_back_4 : decode cX10_back 4 = .ok (.getfield 145, 3) := by decide +kernel
theorem dX10_back_7 : decode cX10_back 7 = .ok (.i2l, 1) := by decide +kernel
theorem dX10_back_8 : decode cX10_back 8 = .ok (.invokestatic 105, 3) := by decide +kernel
theorem dX10_back_11 : decode cX10_back 11 = .ok (.ifCond .ne 6, 3) := by decide +kernel
theorem dX10_back_14 : decode cX10_back 14 = .ok (.bipush (-2), 2) := by decide +kernel
theorem dX10_back_16 : decode cX10_back 16 = .ok (.ireturn, 1) := by decide +kernel
theorem dX10_back_17 : decode cX10_back 17 = .ok (.aload_n 0, 1) := by decide +kernel
theorem dX10_back_18 : decode cX10_back 18 = .ok (.dup, 1) := by decide +kernel
theorem dX10_back_19 : decode cX10_back 19 = .ok (.getfield 145, 3) := by decide +kernel
theorem dX10_back_22 : decode cX10_back 22 = .ok (.iload_n 1, 1) := by decide +kernel
theorem dX10_back_23 : decode cX10_back 23 = .ok (.isub, 1) := by decide +kernel
theorem dX10_back_24 : decode cX10_back 24 = .ok (.putfield 145, 3) := by decide +kernel
theorem dX10_back_27 : decode cX10_back 27 = .ok (.aload_n 0, 1) := by decide +kernel
theorem dX10_back_28 : decode cX10_back 28 = .ok (.getfield 145, 3) := by decide +kernel
theorem dX10_back_31 : decode cX10_back 31 = .ok (.ireturn, 1) := by decide +kernel
theorem dX10_doesFit_0 : decode cX10_doesFit 0 = .ok (.aload_n 0, 1) := by decide +kernel
theorem dX10_doesFit_1 : decode cX10_doesFit 1 = .ok (.invokevirtual 210, 3) := by decide +kernel
theorem dX10_doesFit_4 : decode cX10_doesFit 4 = .ok (.iconst 1, 1) := by decide +kernel
theorem dX10_doesFit_5 : decode cX10_doesFit 5 = .ok (.istore_n 1, 1) := by decide +kernel
theorem dX10_doesFit_6 : decode cX10_doesFit 6 = .ok (.iconst 0, 1) := by decide +kernel
theorem dX10_doesFit_7 : decode cX10_doesFit 7 = .ok (.istore_n 2, 1) := by decide +kernel
theorem dX10_doesFit_8 : decode cX10_doesFit 8 = .ok (.iload_n 2, 1) := by decide +kernel
theorem dX10_doesFit_9 : decode cX10_doesFit 9 = .ok (.aload_n 0, 1) := by decide +kernel
theorem dX10_doesFit_10 : decode cX10_doesFit 10 = .ok (.getfield 145, 3) := by decide +kernel
theorem dX10_doesFit_13 : decode cX10_doesFit 13 = .ok (.if_icmp .ge 52, 3) := by decide +kernel
theorem dX10_doesFit_16 : decode cX10_doesFit 16 = .ok (.iload_n 1, 1) := by decide +kernel
theorem dX10_doesFit_17 : decode cX10_doesFit 17 = .ok (.ifCond .eq 40, 3) := by decide +kernel
theorem dX10_doesFit_20 : decode cX10_doesFit 20 = .ok (.aload_n 0, 1) := by decide +kernel
theorem dX10_doesFit_21 : decode cX10_doesFit 21 = .ok (.getfield 58, 3) := by decide +kernel
theorem dX10_doesFit_24 : decode cX10_doesFit 24 = .ok (.iload_n 2, 1) := by decide +kernel
theorem dX10_doesFit_25 : decode cX10_doesFit 25 = .ok (.iaload, 1) := by decide +kernel
theorem dX10_doesFit_26 : decode cX10_doesFit 26 = .ok (.aload_n 0, 1) := by decide +kernel
theorem dX10_doesFit_27 : decode cX10_doesFit 27 = .ok (.getfield 201, 3) := by decide +kernel
theorem dX10_doesFit_30 : decode cX10_doesFit 30 = .ok (.if_icmp .ge 27, 3) := by decide +kernel
theorem dX10_doesFit_33 : decode cX10_doesFit 33 = .ok (.aload_n 0, 1) := by decide +kernel
theorem dX10_doesFit_34 : decode cX10_doesFit 34 = .ok (.getfield 43, 3) := by decide +kernel
theorem dX10_doesFit_37 : decode cX10_doesFit 37 = .ok (.aload_n 0, 1) := by decide +kernel
theorem dX10_doesFit_38 : decode cX10_doesFit 38 = .ok (.getfield 58, 3) := by decide +kernel
theorem dX10_doesFit_41 : decode cX10_doesFit 41 = .ok (.iload_n 2, 1) := by decide +kernel
theorem dX10_doesFit_42 : decode cX10_doesFit 42 = .ok (.iaload, 1) := by decide +kernel
theorem dX10_doesFit_43 : decode cX10_doesFit 43 = .ok (.iaload, 1) := by decide +kernel
theorem dX10_doesFit_44 : decode cX10_doesFit 44 = .ok (.aload_n 0, 1) := by decide +kernel
theorem dX10_doesFit_45 : decode cX10_doesFit 45 = .ok (.getfield 61, 3) := by decide +kernel
theorem dX10_doesFit_48 : decode cX10_doesFit 48 = .ok (.iload_n 2, 1) := by decide +kernel
theorem dX10_doesFit_49 : decode cX10_doesFit 49 = .ok (.iaload, 1) := by decide +kernel
theorem dX10_doesFit_50 : decode cX10_doesFit 50 = .ok (.if_icmp .ne 7, 3) := by decide +kernel
theorem dX10_doesFit_53 : decode cX10_doesFit 53 = .ok (.iconst 1, 1) := by decide +kernel
theorem dX10_doesFit_54 : decode cX10_doesFit 54 = .ok (.goto 4, 3) := by decide +kernel
theorem dX10_doesFit_57 : decode cX10_doesFit 57 = .ok (.iconst 0, 1) := by decide +kernel
theorem dX10_doesFit_58 : decode cX10_doesFit 58 = .ok (.istore_n 1, 1) := by decide +kernel
theorem dX10_doesFit_59 : decode cX10_doesFit 59 = .ok (.iinc 2 1, 3) := by decide +kernel
theorem dX10_doesFit_62 : decode cX10_doesFit 62 = .ok (.goto (-54), 3) := by decide +kernel
theorem dX10_doesFit_65 : decode cX10_doesFit 65 = .ok (.iload_n 1, 1) := by decide +kernel
theorem dX10_doesFit_66 : decode cX10_doesFit 66 = .ok (.ireturn, 1) := by decide +kernel
theorem dX10_doFit_0 : decode cX10_doFit 0 = .ok (.iload_n 1, 1) := by decide +kernel
theorem dX10_doFit_1 : decode cX10_doFit 1 = .ok (.ifCond .ge 7, 3) := by decide +kernel
theorem dX10_doFit_4 : decode cX10_doFit 4 = .ok (.iconst 0, 1) := by decide +kernel
theorem dX10_doFit_5 : decode cX10_doFit 5 = .ok (.goto 25, 3) := by decide +kernel
theorem dX10_doFit_8 : decode cX10_doFit 8 = .ok (.aload_n 0, 1) := by decide +kernel
theorem dX10_doFit_9 : decode cX10_doFit 9 = .ok (.aload_n 0, 1) := by decide +kernel
theorem dX10_doFit_10 : decode cX10_doFit 10 = .ok (.getfield 49, 3) := by decide +kernel
theorem dX10_doFit_13 : decode cX10_doFit 13 = .ok (.iload_n 1, 1) := by decide +kernel
theorem dX10_doFit_14 : decode cX10_doFit 14 = .ok (.iaload, 1) := by decide +kernel
theorem dX10_doFit_15 : decode cX10_doFit 15 = .ok (.aload_n 0, 1) := by decide +kernel
theorem dX10_doFit_16 : decode cX10_doFit 16 = .ok (.getfield 52, 3) := by decide +kernel
theorem dX10_doFit_19 : decode cX10_doFit 19 = .ok (.iload_n 1, 1) := by decide +kernel
theorem dX10_doFit_20 : decode cX10_doFit 20 = .ok (.iaload, 1) := by decide +kernel
theorem dX10_doFit_21 : decode cX10_doFit 21 = .ok (.aload_n 0, 1) := by decide +kernel
theorem dX10_doFit_22 : decode cX10_doFit 22 = .ok (.getfield 55, 3) := by decide +kernel
theorem dX10_doFit_25 : decode cX10_doFit 25 = .ok (.iload_n 1, 1) := by decide +kernel
theorem dX10_doFit_26 : decode cX10_doFit 26 = .ok (.iaload, 1) := by decide +kernel
theorem dX10_doFit_27 : decode cX10_doFit 27 = .ok (.invokevirtual 157, 3) := by decide +kernel
theorem dX10_doFit_30 : decode cX10_doFit 30 = .ok (.istore_n 3, 1) := by decide +kernel
theorem dX10_doFit_31 : decode cX10_doFit 31 = .ok (.iload_n 2, 1) := by decide +kernel
theorem dX10_doFit_32 : decode cX10_doFit 32 = .ok (.ifCond .ge 7, 3) := by decide +kernel
theorem dX10_doFit_35 : decode cX10_doFit 35 = .ok (.iconst 0, 1) := by decide +kernel
theorem dX10_doFit_36 : decode cX10_doFit 36 = .ok (.goto 25, 3) := by decide +kernel
theorem dX10_doFit_39 : decode cX10_doFit 39 = .ok (.aload_n 0, 1) := by decide +kernel
theorem dX10_doFit_40 : decode cX10_doFit 40 = .ok (.aload_n 0, 1) := by decide +kernel
theorem dX10_doFit_41 : decode cX10_doFit 41 = .ok (.getfield 49, 3) := by decide +kernel
theorem dX10_doFit_44 : decode cX10_doFit 44 = .ok (.iload_n 2, 1) := by decide +kernel
theorem dX10_doFit_45 : decode cX10_doFit 45 = .ok (.iaload, 1) := by decide +kernel
theorem dX10_doFit_46 : decode cX10_doFit 46 = .ok (.aload_n 0, 1) := by decide +kernel
theorem dX10_doFit_47 : decode cX10_doFit 47 = .ok (.getfield 52, 3) := by decide +kernel
theorem dX10_doFit_50 : decode cX10_doFit 50 = .ok (.iload_n 2, 1) := by decide +kernel
theorem dX10_doFit_51 : decode cX10_doFit 51 = .ok (.iaload, 1) := by decide +kernel
theorem dX10_doFit_52 : decode cX10_doFit 52 = .ok (.aload_n 0, 1) := by decide +kernel
theorem dX10_doFit_53 : decode cX10_doFit 53 = .ok (.getfield 55, 3) := by decide +kernel
theorem dX10_doFit_56 : decode cX10_doFit 56 = .ok (.iload_n 2, 1) := by decide +kernel
theorem dX10_doFit_57 : decode cX10_doFit 57 = .ok (.iaload, 1) := by decide +kernel
theorem dX10_doFit_58 : decode cX10_doFit 58 = .ok (.invokevirtual 157, 3) := by decide +kernel
theorem dX10_doFit_61 : decode cX10_doFit 61 = .ok (.istore 4, 2) := by decide +kernel
theorem dX10_doFit_63 : decode cX10_doFit 63 = .ok (.aload_n 0, 1) := by decide +kernel
theorem dX10_doFit_64 : decode cX10_doFit 64 = .ok (.invokevirtual 228, 3) := by decide +kernel
theorem dX10_doFit_67 : decode cX10_doFit 67 = .ok (.istore 5, 2) := by decide +kernel
theorem dX10_doFit_69 : decode cX10_doFit 69 = .ok (.iload_n 2, 1) := by decide +kernel
theorem dX10_doFit_70 : decode cX10_doFit 70 = .ok (.ifCond .lt 22, 3) := by decide +kernel
theorem dX10_doFit_73 : decode cX10_doFit 73 = .ok (.aload_n 0, 1) := by decide +kernel
theorem dX10_doFit_74 : decode cX10_doFit 74 = .ok (.aload_n 0, 1) := by decide +kernel
theorem dX10_doFit_75 : decode cX10_doFit 75 = .ok (.getfield 49, 3) := by decide +kernel
theorem dX10_doFit_78 : decode cX10_doFit 78 = .ok (.iload_n 2, 1) := by decide +kernel
theorem dX10_doFit_79 : decode cX10_doFit 79 = .ok (.iaload, 1) := by decide +kernel
theorem dX10_doFit_80 : decode cX10_doFit 80 = .ok (.aload_n 0, 1) := by decide +kernel
theorem dX10_doFit_81 : decode cX10_doFit 81 = .ok (.getfield 52, 3) := by decide +kernel
theorem dX10_doFit_84 : decode cX10_doFit 84 = .ok (.iload_n 2, 1) := by decide +kernel
theorem dX10_doFit_85 : decode cX10_doFit 85 = .ok (.iaload, 1) := by decide +kernel
theorem dX10_doFit_86 : decode cX10_doFit 86 = .ok (.iload 4, 2) := by decide +kernel
theorem dX10_doFit_88 : decode cX10_doFit 88 = .ok (.invokevirtual 157, 3) := by decide +kernel
theorem dX10_doFit_91 : decode cX10_doFit 91 = .ok (.pop, 1) := by decide +kernel
theorem dX10_doFit_92 : decode cX10_doFit 92 = .ok (.iload_n 1, 1) := by decide +kernel
theorem dX10_doFit_93 : decode cX10_doFit 93 = .ok (.ifCond .lt 21, 3) := by decide +kernel
theorem dX10_doFit_96 : decode cX10_doFit 96 = .ok (.aload_n 0, 1) := by decide +kernel
theorem dX10_doFit_97 : decode cX10_doFit 97 = .ok (.aload_n 0, 1) := by decide +kernel
theorem dX10_doFit_98 : decode cX10_doFit 98 = .ok (.getfield 49, 3) := by decide +kernel
theorem dX10_doFit_101 : decode cX10_doFit 101 = .ok (.iload_n 1, 1) := by decide +kernel
theorem dX10_doFit_102 : decode cX10_doFit 102 = .ok (.iaload, 1) := by decide +kernel
theorem dX10_doFit_103 : decode cX10_doFit 103 = .ok (.aload_n 0, 1) := by decide +kernel
theorem dX10_doFit_104 : decode cX10_doFit 104 = .ok (.getfield 52, 3) := by decide +kernel
theorem dX10_doFit_107 : decode cX10_doFit 107 = .ok (.iload_n 1, 1) := by decide +kernel
theorem dX10_doFit_108 : decode cX10_doFit 108 = .ok (.iaload, 1) := by decide +kernel
theorem dX10_doFit_109 : decode cX10_doFit 109 = .ok (.iload_n 3, 1) := by decide +kernel
theorem dX10_doFit_110 : decode cX10_doFit 110 = .ok (.invokevirtual 157, 3) := by decide +kernel
theorem dX10_doFit_113 : decode cX10_doFit 113 = .ok (.pop, 1) := by decide +kernel
theorem dX10_doFit_114 : decode cX10_doFit 114 = .ok (.iload 5, 2) := by decide +kernel
theorem dX10_doFit_116 : decode cX10_doFit 116 = .ok (.ireturn, 1) := by decide +kernel
theorem dX10_layLikely_0 : decode cX10_layLikely 0 = .ok (.aload_n 0, 1) := by decide +kernel
theorem dX10_layLikely_1 : decode cX10_layLikely 1 = .ok (.iconst 0, 1) := by decide +kernel
theorem dX10_layLikely_2 : decode cX10_layLikely 2 = .ok (.putfield 231, 3) := by decide +kernel
theorem dX10_layLikely_5 : decode cX10_layLikely 5 = .ok (.aload_n 0, 1) := by decide +kernel
theorem dX10_layLikely_6 : decode cX10_layLikely 6 = .ok (.bipush (-9), 2) := by decide +kernel
theorem dX10_layLikely_8 : decode cX10_layLikely 8 = .ok (.putfield 234, 3) := by decide +kernel
theorem dX10_layLikely_11 : decode cX10_layLikely 11 = .ok (.iconst 0, 1) := by decide +kernel
theorem dX10_layLikely_12 : decode cX10_layLikely 12 = .ok (.istore_n 1, 1) := by decide +kernel
theorem dX10_layLikely_13 : decode cX10_layLikely 13 = .ok (.iload_n 1, 1) := by decide +kernel
theorem dX10_layLikely_14 : decode cX10_layLikely 14 = .ok (.bipush 6, 2) := by decide +kernel
theorem dX10_layLikely_16 : decode cX10_layLikely 16 = .ok (.if_icmp .ge 16, 3) := by decide +kernel
theorem dX10_layLikely_19 : decode cX10_layLikely 19 = .ok (.aload_n 0, 1) := by decide +kernel
theorem dX10_layLikely_20 : decode cX10_layLikely 20 = .ok (.getfield 64, 3) := by decide +kernel
theorem dX10_layLikely_23 : decode cX10_layLikely 23 = .ok (.iload_n 1, 1) := by decide +kernel
theorem dX10_layLikely_24 : decode cX10_layLikely 24 = .ok (.iconst 0, 1) := by decide +kernel
theorem dX10_layLikely_25 : decode cX10_layLikely 25 = .ok (.iastore, 1) := by decide +kernel
theorem dX10_layLikely_26 : decode cX10_layLikely 26 = .ok (.iinc 1 1, 3) := by decide +kernel
theorem dX10_layLikely_29 : decode cX10_layLikely 29 = .ok (.goto (-16), 3) := by decide +kernel
theorem dX10_layLikely_32 : decode cX10_layLikely 32 = .ok (.aload_n 0, 1) := by decide +kernel
theorem dX10_layLikely_33 : decode cX10_layLikely 33 = .ok (.bipush (-9), 2) := by decide +kernel
theorem dX10_layLikely_35 : decode cX10_layLikely 35 = .ok (.bipush (-9), 2) := by decide +kernel
theorem dX10_layLikely_37 : decode cX10_layLikely 37 = .ok (.invokevirtual 237, 3) := by decide +kernel
theorem dX10_layLikely_40 : decode cX10_layLikely 40 = .ok (.ifCond .eq 18, 3) := by decide +kernel
theorem dX10_layLikely_43 : decode cX10_layLikely 43 = .ok (.aload_n 0, 1) := by decide +kernel
theorem dX10_layLikely_44 : decode cX10_layLikely 44 = .ok (.dup, 1) := by decide +kernel
theorem dX10_layLikely_45 : decode cX10_layLikely 45 = .ok (.getfield 231, 3) := by decide +kernel
theorem dX10_layLikely_48 : decode cX10_layLikely 48 = .ok (.iconst 1, 1) := by decide +kernel
theorem dX10_layLikely_49 : decode cX10_layLikely 49 = .ok (.iadd, 1) := by decide +kernel
theorem dX10_layLikely_50 : decode cX10_layLikely 50 = .ok (.putfield 231, 3) := by decide +kernel
theorem dX10_layLikely_53 : decode cX10_layLikely 53 = .ok (.aload_n 0, 1) := by decide +kernel
theorem dX10_layLikely_54 : decode cX10_layLikely 54 = .ok (.iconst 0, 1) := by decide +kernel
theorem dX10_layLikely_55 : decode cX10_layLikely 55 = .ok (.putfield 234, 3) := by decide +kernel
theorem dX10_layLikely_58 : decode cX10_layLikely 58 = .ok (.iconst 0, 1) := by decide +kernel
theorem dX10_layLikely_59 : decode cX10_layLikely 59 = .ok (.istore_n 1, 1) := by decide +kernel
theorem dX10_layLikely_60 : decode cX10_layLikely 60 = .ok (.iload_n 1, 1) := by decide +kernel
theorem dX10_layLikely_61 : decode cX10_layLikely 61 = .ok (.aload_n 0, 1) := by decide +kernel
theorem dX10_layLikely_62 : decode cX10_layLikely 62 = .ok (.getfield 142, 3) := by decide +kernel
theorem dX10_layLikely_65 : decode cX10_layLikely 65 = .ok (.if_icmp .ge 60, 3) := by decide +kernel
theorem dX10_layLikely_68 : decode cX10_layLikely 68 = .ok (.aload_n 0, 1) := by decide +kernel
theorem dX10_layLikely_69 : decode cX10_layLikely 69 = .ok (.iload_n 1, 1) := by decide +kernel
theorem dX10_layLikely_70 : decode cX10_layLikely 70 = .ok (.bipush (-9), 2) := by decide +kernel
theorem dX10_layLikely_72 : decode cX10_layLikely 72 = .ok (.invokevirtual 237, 3) := by decide +kernel
theorem dX10_layLikely_75 : decode cX10_layLikely 75 = .ok (.ifCond .eq 44, 3) := by decide +kernel
theorem dX10_layLikely_78 : decode cX10_layLikely 78 = .ok (.aload_n 0, 1) := by decide +kernel
theorem dX10_layLikely_79 : decode cX10_layLikely 79 = .ok (.dup, 1) := by decide +kernel
theorem dX10_layLikely_80 : decode cX10_layLikely 80 = .ok (.getfield 231, 3) := by decide +kernel
theorem dX10_layLikely_83 : decode cX10_layLikely 83 = .ok (.iconst 1, 1) := by decide +kernel
theorem dX10_layLikely_84 : decode cX10_layLikely 84 = .ok (.iadd, 1) := by decide +kernel
theorem dX10_layLikely_85 : decode cX10_layLikely 85 = .ok (.putfield 231, 3) := by decide +kernel
theorem dX10_layLikely_88 : decode cX10_layLikely 88 = .ok (.aload_n 0, 1) := by decide +kernel
theorem dX10_layLikely_89 : decode cX10_layLikely 89 = .ok (.getfield 64, 3) := by decide +kernel
theorem dX10_layLikely_92 : decode cX10_layLikely 92 = .ok (.iload_n 1, 1) := by decide +kernel
theorem dX10_layLikely_93 : decode cX10_layLikely 93 = .ok (.dup2, 1) := by decide +kernel
theorem dX10_layLikely_94 : decode cX10_layLikely 94 = .ok (.iaload, 1) := by decide +kernel
theorem dX10_layLikely_95 : decode cX10_layLikely 95 = .ok (.iconst 1, 1) := by decide +kernel
theorem dX10_layLikely_96 : decode cX10_layLikely 96 = .ok (.iadd, 1) := by decide +kernel
theorem dX10_layLikely_97 : decode cX10_layLikely 97 = .ok (.iastore, 1) := by decide +kernel
theorem dX10_layLikely_98 : decode cX10_layLikely 98 = .ok (.aload_n 0, 1) := by decide +kernel
theorem dX10_layLikely_99 : decode cX10_layLikely 99 = .ok (.aload_n 0, 1) := by decide +kernel
theorem dX10_layLikely_100 : decode cX10_layLikely 100 = .ok (.getfield 234, 3) := by decide +kernel
theorem dX10_layLikely_103 : decode cX10_layLikely 103 = .ok (.ifCond .ge 9, 3) := by decide +kernel
theorem dX10_layLikely_106 : decode cX10_layLikely 106 = .ok (.iconst 1, 1) := by decide +kernel
theorem dX10_layLikely_107 : decode cX10_layLikely 107 = .ok (.iload_n 1, 1) := by decide +kernel
theorem dX10_layLikely_108 : decode cX10_layLikely 108 = .ok (.ishl, 1) := by decide +kernel
theorem dX10_layLikely_109 : decode cX10_layLikely 109 = .ok (.goto 7, 3) := by decide +kernel
theorem dX10_layLikely_112 : decode cX10_layLikely 112 = .ok (.aload_n 0, 1) := by decide +kernel
theorem dX10_layLikely_113 : decode cX10_layLikely 113 = .ok (.getfield 234, 3) := by decide +kernel
theorem dX10_layLikely_116 : decode cX10_layLikely 116 = .ok (.putfield 234, 3) := by decide +kernel
theorem dX10_layLikely_119 : decode cX10_layLikely 119 = .ok (.iinc 1 1, 3) := by decide +kernel
theorem dX10_layLikely_122 : decode cX10_layLikely 122 = .ok (.goto (-62), 3) := by decide +kernel
theorem dX10_layLikely_125 : decode cX10_layLikely 125 = .ok (.aload_n 0, 1) := by decide +kernel
theorem dX10_layLikely_126 : decode cX10_layLikely 126 = .ok (.getfield 234, 3) := by decide +kernel
theorem dX10_layLikely_129 : decode cX10_layLikely 129 = .ok (.ifCond .lt 7, 3) := by decide +kernel
theorem dX10_layLikely_132 : decode cX10_layLikely 132 = .ok (.iconst 1, 1) := by decide +kernel
theorem dX10_layLikely_133 : decode cX10_layLikely 133 = .ok (.goto 4, 3) := by decide +kernel
theorem dX10_layLikely_136 : decode cX10_layLikely 136 = .ok (.iconst 0, 1) := by decide +kernel
theorem dX10_layLikely_137 : decode cX10_layLikely 137 = .ok (.istore_n 1, 1) := by decide +kernel
theorem dX10_layLikely_138 : decode cX10_layLikely 138 = .ok (.iconst 1, 1) := by decide +kernel
theorem dX10_layLikely_139 : decode cX10_layLikely 139 = .ok (.istore_n 2, 1) := by decide +kernel
theorem dX10_layLikely_140 : decode cX10_layLikely 140 = .ok (.iload_n 2, 1) := by decide +kernel
theorem dX10_layLikely_141 : decode cX10_layLikely 141 = .ok (.aload_n 0, 1) := by decide +kernel
theorem dX10_layLikely_142 : decode cX10_layLikely 142 = .ok (.getfield 142, 3) := by decide +kernel
theorem dX10_layLikely_145 : decode cX10_layLikely 145 = .ok (.if_icmp .ge 90, 3) := by decide +kernel
theorem dX10_layLikely_148 : decode cX10_layLikely 148 = .ok (.iconst 0, 1) := by decide +kernel
theorem dX10_layLikely_149 : decode cX10_layLikely 149 = .ok (.istore_n 3, 1) := by decide +kernel
theorem dX10_layLikely_150 : decode cX10_layLikely 150 = .ok (.iload_n 3, 1) := by decide +kernel
theorem dX10_layLikely_151 : decode cX10_layLikely 151 = .ok (.iload_n 2, 1) := by decide +kernel
theorem dX10_layLikely_152 : decode cX10_layLikely 152 = .ok (.if_icmp .ge 77, 3) := by decide +kernel
theorem dX10_layLikely_155 : decode cX10_layLikely 155 = .ok (.aload_n 0, 1) := by decide +kernel
theorem dX10_layLikely_156 : decode cX10_layLikely 156 = .ok (.iload_n 3, 1) := by decide +kernel
theorem dX10_layLikely_157 : decode cX10_layLikely 157 = .ok (.iload_n 2, 1) := by decide +kernel
theorem dX10_layLikely_158 : decode cX10_layLikely 158 = .ok (.invokevirtual 237, 3) := by decide +kernel
theorem dX10_layLikely_161 : decode cX10_layLikely 161 = .ok (.ifCond .eq 62, 3) := by decide +kernel
theorem dX10_layLikely_164 : decode cX10_layLikely 164 = .ok (.aload_n 0, 1) := by decide +kernel
theorem dX10_layLikely_165 : decode cX10_layLikely 165 = .ok (.dup, 1) := by decide +kernel
theorem dX10_layLikely_166 : decode cX10_layLikely 166 = .ok (.getfield 231, 3) := by decide +kernel
theorem dX10_layLikely_169 : decode cX10_layLikely 169 = .ok (.iconst 1, 1) := by decide +kernel
theorem dX10_layLikely_170 : decode cX10_layLikely 170 = .ok (.iadd, 1) := by decide +kernel
theorem dX10_layLikely_171 : decode cX10_layLikely 171 = .ok (.putfield 231, 3) := by decide +kernel
theorem dX10_layLikely_174 : decode cX10_layLikely 174 = .ok (.aload_n 0, 1) := by decide +kernel
theorem dX10_layLikely_175 : decode cX10_layLikely 175 = .ok (.getfield 64, 3) := by decide +kernel
theorem dX10_layLikely_178 : decode cX10_layLikely 178 = .ok (.iload_n 3, 1) := by decide +kernel
theorem dX10_layLikely_179 : decode cX10_layLikely 179 = .ok (.dup2, 1) := by decide +kernel
theorem dX10_layLikely_180 : decode cX10_layLikely 180 = .ok (.iaload, 1) := by decide +kernel
theorem dX10_layLikely_181 : decode cX10_layLikely 181 = .ok (.iconst 1, 1) := by decide +kernel
theorem dX10_layLikely_182 : decode cX10_layLikely 182 = .ok (.iadd, 1) := by decide +kernel
theorem dX10_layLikely_183 : decode cX10_layLikely 183 = .ok (.iastore, 1) := by decide +kernel
theorem dX10_layLikely_184 : decode cX10_layLikely 184 = .ok (.aload_n 0, 1) := by decide +kernel
theorem dX10_layLikely_185 : decode cX10_layLikely 185 = .ok (.getfield 64, 3) := by decide +kernel
theorem dX10_layLikely_188 : decode cX10_layLikely 188 = .ok (.iload_n 2, 1) := by decide +kernel
theorem dX10_layLikely_189 : decode cX10_layLikely 189 = .ok (.dup2, 1) := by decide +kernel
theorem dX10_layLikely_190 : decode cX10_layLikely 190 = .ok (.iaload, 1) := by decide +kernel
theorem dX10_layLikely_191 : decode cX10_layLikely 191 = .ok (.iconst 1, 1) := by decide +kernel
theorem dX10_layLikely_192 : decode cX10_layLikely 192 = .ok (.iadd, 1) := by decide +kernel
theorem dX10_layLikely_193 : decode cX10_layLikely 193 = .ok (.iastore, 1) := by decide +kernel
theorem dX10_layLikely_194 : decode cX10_layLikely 194 = .ok (.aload_n 0, 1) := by decide +kernel
theorem dX10_layLikely_195 : decode cX10_layLikely 195 = .ok (.iload_n 1, 1) := by decide +kernel
theorem dX10_layLikely_196 : decode cX10_layLikely 196 = .ok (.ifCond .ne 20, 3) := by decide +kernel
theorem dX10_layLikely_199 : decode cX10_layLikely 199 = .ok (.aload_n 0, 1) := by decide +kernel
theorem dX10_layLikely_200 : decode cX10_layLikely 200 = .ok (.getfield 234, 3) := by decide +kernel
theorem dX10_layLikely_203 : decode cX10_layLikely 203 = .ok (.ifCond .ge 13, 3) := by decide +kernel
theorem dX10_layLikely_206 : decode cX10_layLikely 206 = .ok (.iconst 1, 1) := by decide +kernel
theorem dX10_layLikely_207 : decode cX10_layLikely 207 = .ok (.iload_n 3, 1) := by decide +kernel
theorem dX10_layLikely_208 : decode cX10_layLikely 208 = .ok (.ishl, 1) := by decide +kernel
theorem dX10_layLikely_209 : decode cX10_layLikely 209 = .ok (.iconst 1, 1) := by decide +kernel
theorem dX10_layLikely_210 : decode cX10_layLikely 210 = .ok (.iload_n 2, 1) := by decide +kernel
theorem dX10_layLikely_211 : decode cX10_layLikely 211 = .ok (.ishl, 1) := by decide +kernel
theorem dX10_layLikely_212 : decode cX10_layLikely 212 = .ok (.ior, 1) := by decide +kernel
theorem dX10_layLikely_213 : decode cX10_layLikely 213 = .ok (.goto 7, 3) := by decide +kernel
theorem dX10_layLikely_216 : decode cX10_layLikely 216 = .ok (.aload_n 0, 1) := by decide +kernel
theorem dX10_layLikely_217 : decode cX10_layLikely 217 = .ok (.getfield 234, 3) := by decide +kernel
theorem dX10_layLikely_220 : decode cX10_layLikely 220 = .ok (.putfield 234, 3) := by decide +kernel
theorem dX10_layLikely_223 : decode cX10_layLikely 223 = .ok (.iinc 3 1, 3) := by decide +kernel
theorem dX10_layLikely_226 : decode cX10_layLikely 226 = .ok (.goto (-76), 3) := by decide +kernel
theorem dX10_layLikely_229 : decode cX10_layLikely 229 = .ok (.iinc 2 1, 3) := by decide +kernel
theorem dX10_layLikely_232 : decode cX10_layLikely 232 = .ok (.goto (-92), 3) := by decide +kernel
theorem dX10_layLikely_235 : decode cX10_layLikely 235 = .ok (.return_, 1) := by decide +kernel
theorem dX10_likely_0 : decode cX10_likely 0 = .ok (.iload_n 1, 1) := by decide +kernel
theorem dX10_likely_1 : decode cX10_likely 1 = .ok (.i2l, 1) := by decide +kernel
theorem dX10_likely_2 : decode cX10_likely 2 = .ok (.lconst 0, 1) := by decide +kernel
theorem dX10_likely_3 : decode cX10_likely 3 = .ok (.lconst 1, 1) := by decide +kernel
theorem dX10_likely_4 : decode cX10_likely 4 = .ok (.invokestatic 105, 3) := by decide +kernel
theorem dX10_likely_7 : decode cX10_likely 7 = .ok (.ifCond .ne 6, 3) := by decide +kernel
theorem dX10_likely_10 : decode cX10_likely 10 = .ok (.bipush (-2), 2) := by decide +kernel
theorem dX10_likely_12 : decode cX10_likely 12 = .ok (.ireturn, 1) := by decide +kernel
theorem dX10_likely_13 : decode cX10_likely 13 = .ok (.aload_n 0, 1) := by decide +kernel
theorem dX10_likely_14 : decode cX10_likely 14 = .ok (.invokevirtual 216, 3) := by decide +kernel
theorem dX10_likely_17 : decode cX10_likely 17 = .ok (.ifCond .eq 6, 3) := by decide +kernel
theorem dX10_likely_20 : decode cX10_likely 20 = .ok (.bipush (-3), 2) := by decide +kernel
theorem dX10_likely_22 : decode cX10_likely 22 = .ok (.ireturn, 1) := by decide +kernel
theorem dX10_likely_23 : decode cX10_likely 23 = .ok (.aload_n 0, 1) := by decide +kernel
theorem dX10_likely_24 : decode cX10_likely 24 = .ok (.invokevirtual 240, 3) := by decide +kernel
theorem dX10_likely_27 : decode cX10_likely 27 = .ok (.iload_n 1, 1) := by decide +kernel
theorem dX10_likely_28 : decode cX10_likely 28 = .ok (.ifCond .ne 10, 3) := by decide +kernel
theorem dX10_likely_31 : decode cX10_likely 31 = .ok (.aload_n 0, 1) := by decide +kernel
theorem dX10_likely_32 : decode cX10_likely 32 = .ok (.getfield 231, 3) := by decide +kernel
theorem dX10_likely_35 : decode cX10_likely 35 = .ok (.goto 7, 3) := by decide +kernel
theorem dX10_likely_38 : decode cX10_likely 38 = .ok (.aload_n 0, 1) := by decide +kernel
theorem dX10_likely_39 : decode cX10_likely 39 = .ok (.getfield 234, 3) := by decide +kernel
theorem dX10_likely_42 : decode cX10_likely 42 = .ok (.ireturn, 1) := by decide +kernel
theorem dX10_each_0 : decode cX10_each 0 = .ok (.aload_n 0, 1) := by decide +kernel
theorem dX10_each_1 : decode cX10_each 1 = .ok (.iload_n 1, 1) := by decide +kernel
theorem dX10_each_2 : decode cX10_each 2 = .ok (.invokevirtual 225, 3) := by decide +kernel
theorem dX10_each_5 : decode cX10_each 5 = .ok (.ifCond .eq 5, 3) := by decide +kernel
theorem dX10_each_8 : decode cX10_each 8 = .ok (.iconst (-1), 1) := by decide +kernel
theorem dX10_each_9 : decode cX10_each 9 = .ok (.ireturn, 1) := by decide +kernel
theorem dX10_each_10 : decode cX10_each 10 = .ok (.aload_n 0, 1) := by decide +kernel
theorem dX10_each_11 : decode cX10_each 11 = .ok (.invokevirtual 216, 3) := by decide +kernel
theorem dX10_each_14 : decode cX10_each 14 = .ok (.ifCond .eq 6, 3) := by decide +kernel
theorem dX10_each_17 : decode cX10_each 17 = .ok (.bipush (-3), 2) := by decide +kernel
theorem dX10_each_19 : decode cX10_each 19 = .ok (.ireturn, 1) := by decide +kernel
theorem dX10_each_20 : decode cX10_each 20 = .ok (.aload_n 0, 1) := by decide +kernel
theorem dX10_each_21 : decode cX10_each 21 = .ok (.invokevirtual 240, 3) := by decide +kernel
theorem dX10_each_24 : decode cX10_each 24 = .ok (.aload_n 0, 1) := by decide +kernel
theorem dX10_each_25 : decode cX10_each 25 = .ok (.getfield 64, 3) := by decide +kernel
theorem dX10_each_28 : decode cX10_each 28 = .ok (.iload_n 1, 1) := by decide +kernel
theorem dX10_each_29 : decode cX10_each 29 = .ok (.iaload, 1) := by decide +kernel
theorem dX10_each_30 : decode cX10_each 30 = .ok (.ireturn, 1) := by decide +kernel
theorem dX10_mayBe_0 : decode cX10_mayBe 0 = .ok (.iload_n 2, 1) := by decide +kernel
theorem dX10_mayBe_1 : decode cX10_mayBe 1 = .ok (.tableswitch 103 0 2 #[27, 53, 77], 27) := by decide +kernel
theorem dX10_mayBe_28 : decode cX10_mayBe 28 = .ok (.aload_n 0, 1) := by decide +kernel
theorem dX10_mayBe_29 : decode cX10_mayBe 29 = .ok (.getfield 22, 3) := by decide +kernel
theorem dX10_mayBe_32 : decode cX10_mayBe 32 = .ok (.iload_n 1, 1) := by decide +kernel
theorem dX10_mayBe_33 : decode cX10_mayBe 33 = .ok (.iaload, 1) := by decide +kernel
theorem dX10_mayBe_34 : decode cX10_mayBe 34 = .ok (.bipush 8, 2) := by decide +kernel
theorem dX10_mayBe_36 : decode cX10_mayBe 36 = .ok (.if_icmp .ge 16, 3) := by decide +kernel
theorem dX10_mayBe_39 : decode cX10_mayBe 39 = .ok (.aload_n 0, 1) := by decide +kernel
theorem dX10_mayBe_40 : decode cX10_mayBe 40 = .ok (.getfield 19, 3) := by decide +kernel
theorem dX10_mayBe_43 : decode cX10_mayBe 43 = .ok (.iload_n 1, 1) := by decide +kernel
theorem dX10_mayBe_44 : decode cX10_mayBe 44 = .ok (.iaload, 1) := by decide +kernel
theorem dX10_mayBe_45 : decode cX10_mayBe 45 = .ok (.ifCond .le 7, 3) := by decide +kernel
theorem dX10_mayBe_48 : decode cX10_mayBe 48 = .ok (.iconst 1, 1) := by decide +kernel
theorem dX10_mayBe_49 : decode cX10_mayBe 49 = .ok (.goto 4, 3) := by decide +kernel
theorem dX10_mayBe_52 : decode cX10_mayBe 52 = .ok (.iconst 0, 1) := by decide +kernel
theorem dX10_mayBe_53 : decode cX10_mayBe 53 = .ok (.ireturn, 1) := by decide +kernel
theorem dX10_mayBe_54 : decode cX10_mayBe 54 = .ok (.aload_n 0, 1) := by decide +kernel
theorem dX10_mayBe_55 : decode cX10_mayBe 55 = .ok (.getfield 7, 3) := by decide +kernel
theorem dX10_mayBe_58 : decode cX10_mayBe 58 = .ok (.iload_n 1, 1) := by decide +kernel
theorem dX10_mayBe_59 : decode cX10_mayBe 59 = .ok (.iaload, 1) := by decide +kernel
theorem dX10_mayBe_60 : decode cX10_mayBe 60 = .ok (.ifCond .le 16, 3) := by decide +kernel
theorem dX10_mayBe_63 : decode cX10_mayBe 63 = .ok (.aload_n 0, 1) := by decide +kernel
theorem dX10_mayBe_64 : decode cX10_mayBe 64 = .ok (.getfield 16, 3) := by decide +kernel
theorem dX10_mayBe_67 : decode cX10_mayBe 67 = .ok (.iload_n 1, 1) := by decide +kernel
theorem dX10_mayBe_68 : decode cX10_mayBe 68 = .ok (.iaload, 1) := by decide +kernel
theorem dX10_mayBe_69 : decode cX10_mayBe 69 = .ok (.ifCond .le 7, 3) := by decide +kernel
theorem dX10_mayBe_72 : decode cX10_mayBe 72 = .ok (.iconst 1, 1) := by decide +kernel
theorem dX10_mayBe_73 : decode cX10_mayBe 73 = .ok (.goto 4, 3) := by decide +kernel
theorem dX10_mayBe_76 : decode cX10_mayBe 76 = .ok (.iconst 0, 1) := by decide +kernel
theorem dX10_mayBe_77 : decode cX10_mayBe 77 = .ok (.ireturn, 1) := by decide +kernel
theorem dX10_mayBe_78 : decode cX10_mayBe 78 = .ok (.aload_n 0, 1) := by decide +kernel
theorem dX10_mayBe_79 : decode cX10_mayBe 79 = .ok (.getfield 7, 3) := by decide +kernel
theorem dX10_mayBe_82 : decode cX10_mayBe 82 = .ok (.iload_n 1, 1) := by decide +kernel
theorem dX10_mayBe_83 : decode cX10_mayBe 83 = .ok (.iaload, 1) := by decide +kernel
theorem dX10_mayBe_84 : decode cX10_mayBe 84 = .ok (.ifCond .le 18, 3) := by decide +kernel
theorem dX10_mayBe_87 : decode cX10_mayBe 87 = .ok (.aload_n 0, 1) := by decide +kernel
theorem dX10_mayBe_88 : decode cX10_mayBe 88 = .ok (.getfield 16, 3) := by decide +kernel
theorem dX10_mayBe_91 : decode cX10_mayBe 91 = .ok (.iload_n 1, 1) := by decide +kernel
theorem dX10_mayBe_92 : decode cX10_mayBe 92 = .ok (.iaload, 1) := by decide +kernel
theorem dX10_mayBe_93 : decode cX10_mayBe 93 = .ok (.bipush 9, 2) := by decide +kernel
theorem dX10_mayBe_95 : decode cX10_mayBe 95 = .ok (.if_icmp .ge 7, 3) := by decide +kernel
theorem dX10_mayBe_98 : decode cX10_mayBe 98 = .ok (.iconst 1, 1) := by decide +kernel
theorem dX10_mayBe_99 : decode cX10_mayBe 99 = .ok (.goto 4, 3) := by decide +kernel
theorem dX10_mayBe_102 : decode cX10_mayBe 102 = .ok (.iconst 0, 1) := by decide +kernel
theorem dX10_mayBe_103 : decode cX10_mayBe 103 = .ok (.ireturn, 1) := by decide +kernel
theorem dX10_mayBe_104 : decode cX10_mayBe 104 = .ok (.aload_n 0, 1) := by decide +kernel
theorem dX10_mayBe_105 : decode cX10_mayBe 105 = .ok (.getfield 19, 3) := by decide +kernel
theorem dX10_mayBe_108 : decode cX10_mayBe 108 = .ok (.iload_n 1, 1) := by decide +kernel
theorem dX10_mayBe_109 : decode cX10_mayBe 109 = .ok (.iaload, 1) := by decide +kernel
theorem dX10_mayBe_110 : decode cX10_mayBe 110 = .ok (.ifCond .le 7, 3) := by decide +kernel
theorem dX10_mayBe_113 : decode cX10_mayBe 113 = .ok (.iconst 1, 1) := by decide +kernel
theorem dX10_mayBe_114 : decode cX10_mayBe 114 = .ok (.goto 4, 3) := by decide +kernel
theorem dX10_mayBe_117 : decode cX10_mayBe 117 = .ok (.iconst 0, 1) := by decide +kernel
theorem dX10_mayBe_118 : decode cX10_mayBe 118 = .ok (.ireturn, 1) := by decide +kernel
theorem dX10_doAct_0 : decode cX10_doAct 0 = .ok (.iload_n 2, 1) := by decide +kernel
theorem dX10_doAct_1 : decode cX10_doAct 1 = .ok (.ifCond .ne 26, 3) := by decide +kernel
theorem dX10_doAct_4 : decode cX10_doAct 4 = .ok (.aload_n 0, 1) := by decide +kernel
theorem dX10_doAct_5 : decode cX10_doAct 5 = .ok (.getfield 22, 3) := by decide +kernel
theorem dX10_doAct_8 : decode cX10_doAct 8 = .ok (.iload_n 1, 1) := by decide +kernel
theorem dX10_doAct_9 : decode cX10_doAct 9 = .ok (.dup2, 1) := by decide +kernel
theorem dX10_doAct_10 : decode cX10_doAct 10 = .ok (.iaload, 1) := by decide +kernel
theorem dX10_doAct_11 : decode cX10_doAct 11 = .ok (.iconst 2, 1) := by decide +kernel
theorem dX10_doAct_12 : decode cX10_doAct 12 = .ok (.iadd, 1) := by decide +kernel
theorem dX10_doAct_13 : decode cX10_doAct 13 = .ok (.iastore, 1) := by decide +kernel
theorem dX10_doAct_14 : decode cX10_doAct 14 = .ok (.aload_n 0, 1) := by decide +kernel
theorem dX10_doAct_15 : decode cX10_doAct 15 = .ok (.getfield 19, 3) := by decide +kernel
theorem dX10_doAct_18 : decode cX10_doAct 18 = .ok (.iload_n 1, 1) := by decide +kernel
theorem dX10_doAct_19 : decode cX10_doAct 19 = .ok (.dup2, 1) := by decide +kernel
theorem dX10_doAct_20 : decode cX10_doAct 20 = .ok (.iaload, 1) := by decide +kernel
theorem dX10_doAct_21 : decode cX10_doAct 21 = .ok (.iconst 1, 1) := by decide +kernel
theorem dX10_doAct_22 : decode cX10_doAct 22 = .ok (.isub, 1) := by decide +kernel
theorem dX10_doAct_23 : decode cX10_doAct 23 = .ok (.iastore, 1) := by decide +kernel
theorem dX10_doAct_24 : decode cX10_doAct 24 = .ok (.goto 46, 3) := by decide +kernel
theorem dX10_doAct_27 : decode cX10_doAct 27 = .ok (.iload_n 2, 1) := by decide +kernel
theorem dX10_doAct_28 : decode cX10_doAct 28 = .ok (.iconst 1, 1) := by decide +kernel
theorem dX10_doAct_29 : decode cX10_doAct 29 = .ok (.if_icmp .ne 16, 3) := by decide +kernel
theorem dX10_doAct_32 : decode cX10_doAct 32 = .ok (.aload_n 0, 1) := by decide +kernel
theorem dX10_doAct_33 : decode cX10_doAct 33 = .ok (.getfield 16, 3) := by decide +kernel
theorem dX10_doAct_36 : decode cX10_doAct 36 = .ok (.iload_n 1, 1) := by decide +kernel
theorem dX10_doAct_37 : decode cX10_doAct 37 = .ok (.dup2, 1) := by decide +kernel
theorem dX10_doAct_38 : decode cX10_doAct 38 = .ok (.iaload, 1) := by decide +kernel
theorem dX10_doAct_39 : decode cX10_doAct 39 = .ok (.iconst 1, 1) := by decide +kernel
theorem dX10_doAct_40 : decode cX10_doAct 40 = .ok (.isub, 1) := by decide +kernel
theorem dX10_doAct_41 : decode cX10_doAct 41 = .ok (.iastore, 1) := by decide +kernel
theorem dX10_doAct_42 : decode cX10_doAct 42 = .ok (.goto 28, 3) := by decide +kernel
theorem dX10_doAct_45 : decode cX10_doAct 45 = .ok (.iload_n 2, 1) := by decide +kernel
theorem dX10_doAct_46 : decode cX10_doAct 46 = .ok (.iconst 2, 1) := by decide +kernel
theorem dX10_doAct_47 : decode cX10_doAct 47 = .ok (.if_icmp .ne 16, 3) := by decide +kernel
theorem dX10_doAct_50 : decode cX10_doAct 50 = .ok (.aload_n 0, 1) := by decide +kernel
theorem dX10_doAct_51 : decode cX10_doAct 51 = .ok (.getfield 16, 3) := by decide +kernel
theorem dX10_doAct_54 : decode cX10_doAct 54 = .ok (.iload_n 1, 1) := by decide +kernel
theorem dX10_doAct_55 : decode cX10_doAct 55 = .ok (.dup2, 1) := by decide +kernel
theorem dX10_doAct_56 : decode cX10_doAct 56 = .ok (.iaload, 1) := by decide +kernel
theorem dX10_doAct_57 : decode cX10_doAct 57 = .ok (.iconst 1, 1) := by decide +kernel
theorem dX10_doAct_58 : decode cX10_doAct 58 = .ok (.iadd, 1) := by decide +kernel
theorem dX10_doAct_59 : decode cX10_doAct 59 = .ok (.iastore, 1) := by decide +kernel
theorem dX10_doAct_60 : decode cX10_doAct 60 = .ok (.goto 10, 3) := by decide +kernel
theorem dX10_doAct_63 : decode cX10_doAct 63 = .ok (.aload_n 0, 1) := by decide +kernel
theorem dX10_doAct_64 : decode cX10_doAct 64 = .ok (.getfield 19, 3) := by decide +kernel
theorem dX10_doAct_67 : decode cX10_doAct 67 = .ok (.iload_n 1, 1) := by decide +kernel
theorem dX10_doAct_68 : decode cX10_doAct 68 = .ok (.iconst 0, 1) := by decide +kernel
theorem dX10_doAct_69 : decode cX10_doAct 69 = .ok (.iastore, 1) := by decide +kernel
theorem dX10_doAct_70 : decode cX10_doAct 70 = .ok (.return_, 1) := by decide +kernel
theorem dX10_costOf_0 : decode cX10_costOf 0 = .ok (.iload_n 0, 1) := by decide +kernel
theorem dX10_costOf_1 : decode cX10_costOf 1 = .ok (.ifCond .ne 7, 3) := by decide +kernel
theorem dX10_costOf_4 : decode cX10_costOf 4 = .ok (.iconst 2, 1) := by decide +kernel
theorem dX10_costOf_5 : decode cX10_costOf 5 = .ok (.goto 13, 3) := by decide +kernel
theorem dX10_costOf_8 : decode cX10_costOf 8 = .ok (.iload_n 0, 1) := by decide +kernel
theorem dX10_costOf_9 : decode cX10_costOf 9 = .ok (.iconst 3, 1) := by decide +kernel
theorem dX10_costOf_10 : decode cX10_costOf 10 = .ok (.if_icmp .ne 7, 3) := by decide +kernel
theorem dX10_costOf_13 : decode cX10_costOf 13 = .ok (.iconst 4, 1) := by decide +kernel
theorem dX10_costOf_14 : decode cX10_costOf 14 = .ok (.goto 4, 3) := by decide +kernel
theorem dX10_costOf_17 : decode cX10_costOf 17 = .ok (.iconst 1, 1) := by decide +kernel
theorem dX10_costOf_18 : decode cX10_costOf 18 = .ok (.ireturn, 1) := by decide +kernel
theorem dX10_act_0 : decode cX10_act 0 = .ok (.aload_n 0, 1) := by decide +kernel
theorem dX10_act_1 : decode cX10_act 1 = .ok (.iload_n 1, 1) := by decide +kernel
theorem dX10_act_2 : decode cX10_act 2 = .ok (.invokevirtual 151, 3) := by decide +kernel
theorem dX10_act_5 : decode cX10_act 5 = .ok (.ifCond .eq 5, 3) := by decide +kernel
theorem dX10_act_8 : decode cX10_act 8 = .ok (.iconst (-1), 1) := by decide +kernel
theorem dX10_act_9 : decode cX10_act 9 = .ok (.ireturn, 1) := by decide +kernel
theorem dX10_act_10 : decode cX10_act 10 = .ok (.iload_n 2, 1) := by decide +kernel
theorem dX10_act_11 : decode cX10_act 11 = .ok (.i2l, 1) := by decide +kernel
theorem dX10_act_12 : decode cX10_act 12 = .ok (.lconst 0, 1) := by decide +kernel
theorem dX10_act_13 : decode cX10_act 13 = .ok (.ldc2_w 223, 3) := by decide +kernel
theorem dX10_act_16 : decode cX10_act 16 = .ok (.invokestatic 105, 3) := by decide +kernel
theorem dX10_act_19 : decode cX10_act 19 = .ok (.ifCond .ne 6, 3) := by decide +kernel
theorem dX10_act_22 : decode cX10_act 22 = .ok (.bipush (-2), 2) := by decide +kernel
theorem dX10_act_24 : decode cX10_act 24 = .ok (.ireturn, 1) := by decide +kernel
theorem dX10_act_25 : decode cX10_act 25 = .ok (.aload_n 0, 1) := by decide +kernel
theorem dX10_act_26 : decode cX10_act 26 = .ok (.iload_n 1, 1) := by decide +kernel
theorem dX10_act_27 : decode cX10_act 27 = .ok (.iload_n 2, 1) := by decide +kernel
theorem dX10_act_28 : decode cX10_act 28 = .ok (.invokevirtual 243, 3) := by decide +kernel
theorem dX10_act_31 : decode cX10_act 31 = .ok (.ifCond .ne 5, 3) := by decide +kernel
theorem dX10_act_34 : decode cX10_act 34 = .ok (.iconst 0, 1) := by decide +kernel
theorem dX10_act_35 : decode cX10_act 35 = .ok (.ireturn, 1) := by decide +kernel
theorem dX10_act_36 : decode cX10_act 36 = .ok (.aload_n 0, 1) := by decide +kernel
theorem dX10_act_37 : decode cX10_act 37 = .ok (.iload_n 1, 1) := by decide +kernel
theorem dX10_act_38 : decode cX10_act 38 = .ok (.iload_n 2, 1) := by decide +kernel
theorem dX10_act_39 : decode cX10_act 39 = .ok (.invokevirtual 246, 3) := by decide +kernel
theorem dX10_act_42 : decode cX10_act 42 = .ok (.iconst 1, 1) := by decide +kernel
theorem dX10_act_43 : decode cX10_act 43 = .ok (.ireturn, 1) := by decide +kernel
theorem dX10_look_0 : decode cX10_look 0 = .ok (.aload_n 0, 1) := by decide +kernel
theorem dX10_look_1 : decode cX10_look 1 = .ok (.invokevirtual 210, 3) := by decide +kernel
theorem dX10_look_4 : decode cX10_look 4 = .ok (.aload_n 0, 1) := by decide +kernel
theorem dX10_look_5 : decode cX10_look 5 = .ok (.getfield 250, 3) := by decide +kernel
theorem dX10_look_8 : decode cX10_look 8 = .ok (.ifCond .lt 27, 3) := by decide +kernel
theorem dX10_look_11 : decode cX10_look 11 = .ok (.iload_n 2, 1) := by decide +kernel
theorem dX10_look_12 : decode cX10_look 12 = .ok (.aload_n 0, 1) := by decide +kernel
theorem dX10_look_13 : decode cX10_look 13 = .ok (.getfield 250, 3) := by decide +kernel
theorem dX10_look_16 : decode cX10_look 16 = .ok (.if_icmp .lt 19, 3) := by decide +kernel
theorem dX10_look_19 : decode cX10_look 19 = .ok (.iload_n 2, 1) := by decide +kernel
theorem dX10_look_20 : decode cX10_look 20 = .ok (.aload_n 0, 1) := by decide +kernel
theorem dX10_look_21 : decode cX10_look 21 = .ok (.getfield 250, 3) := by decide +kernel
theorem dX10_look_24 : decode cX10_look 24 = .ok (.if_icmp .ne 15, 3) := by decide +kernel
theorem dX10_look_27 : decode cX10_look 27 = .ok (.iload_n 3, 1) := by decide +kernel
theorem dX10_look_28 : decode cX10_look 28 = .ok (.aload_n 0, 1) := by decide +kernel
theorem dX10_look_29 : decode cX10_look 29 = .ok (.getfield 253, 3) := by decide +kernel
theorem dX10_look_32 : decode cX10_look 32 = .ok (.if_icmp .ge 7, 3) := by decide +kernel
theorem dX10_look_35 : decode cX10_look 35 = .ok (.iconst 1, 1) := by decide +kernel
theorem dX10_look_36 : decode cX10_look 36 = .ok (.goto 4, 3) := by decide +kernel
theorem dX10_look_39 : decode cX10_look 39 = .ok (.iconst 0, 1) := by decide +kernel
theorem dX10_look_40 : decode cX10_look 40 = .ok (.istore 6, 2) := by decide +kernel
theorem dX10_look_42 : decode cX10_look 42 = .ok (.aload_n 0, 1) := by decide +kernel
theorem dX10_look_43 : decode cX10_look 43 = .ok (.getfield 201, 3) := by decide +kernel
theorem dX10_look_46 : decode cX10_look 46 = .ok (.aload_n 0, 1) := by decide +kernel
theorem dX10_look_47 : decode cX10_look 47 = .ok (.getfield 172, 3) := by decide +kernel
theorem dX10_look_50 : decode cX10_look 50 = .ok (.if_icmp .ne 38, 3) := by decide +kernel
theorem dX10_look_53 : decode cX10_look 53 = .ok (.aload_n 0, 1) := by decide +kernel
theorem dX10_look_54 : decode cX10_look 54 = .ok (.getfield 204, 3) := by decide +kernel
theorem dX10_look_57 : decode cX10_look 57 = .ok (.iload_n 1, 1) := by decide +kernel
theorem dX10_look_58 : decode cX10_look 58 = .ok (.if_icmp .gt 30, 3) := by decide +kernel
theorem dX10_look_61 : decode cX10_look 61 = .ok (.iload 6, 2) := by decide +kernel
theorem dX10_look_63 : decode cX10_look 63 = .ok (.ifCond .eq 25, 3) := by decide +kernel
theorem dX10_look_66 : decode cX10_look 66 = .ok (.aload_n 0, 1) := by decide +kernel
theorem dX10_look_67 : decode cX10_look 67 = .ok (.iload_n 2, 1) := by decide +kernel
theorem dX10_look_68 : decode cX10_look 68 = .ok (.putfield 250, 3) := by decide +kernel
theorem dX10_look_71 : decode cX10_look 71 = .ok (.aload_n 0, 1) := by decide +kernel
theorem dX10_look_72 : decode cX10_look 72 = .ok (.iload_n 3, 1) := by decide +kernel
theorem dX10_look_73 : decode cX10_look 73 = .ok (.putfield 253, 3) := by decide +kernel
theorem dX10_look_76 : decode cX10_look 76 = .ok (.aload_n 0, 1) := by decide +kernel
theorem dX10_look_77 : decode cX10_look 77 = .ok (.iload 4, 2) := by decide +kernel
theorem dX10_look_79 : decode cX10_look 79 = .ok (.putfield 256, 3) := by decide +kernel
theorem dX10_look_82 : decode cX10_look 82 = .ok (.aload_n 0, 1) := by decide +kernel
theorem dX10_look_83 : decode cX10_look 83 = .ok (.iload 5, 2) := by decide +kernel
theorem dX10_look_85 : decode cX10_look 85 = .ok (.putfield 259, 3) := by decide +kernel
theorem dX10_look_88 : decode cX10_look 88 = .ok (.return_, 1) := by decide +kernel
theorem dX10_keep_0 : decode cX10_keep 0 = .ok (.aload_n 0, 1) := by decide +kernel
theorem dX10_keep_1 : decode cX10_keep 1 = .ok (.getfield 67, 3) := by decide +kernel
theorem dX10_keep_4 : decode cX10_keep 4 = .ok (.iload_n 2, 1) := by decide +kernel
theorem dX10_keep_5 : decode cX10_keep 5 = .ok (.aload_n 0, 1) := by decide +kernel
theorem dX10_keep_6 : decode cX10_keep 6 = .ok (.getfield 16, 3) := by decide +kernel
theorem dX10_keep_9 : decode cX10_keep 9 = .ok (.iload_n 1, 1) := by decide +kernel
theorem dX10_keep_10 : decode cX10_keep 10 = .ok (.iaload, 1) := by decide +kernel
theorem dX10_keep_11 : decode cX10_keep 11 = .ok (.iastore, 1) := by decide +kernel
theorem dX10_keep_12 : decode cX10_keep 12 = .ok (.aload_n 0, 1) := by decide +kernel
theorem dX10_keep_13 : decode cX10_keep 13 = .ok (.getfield 67, 3) := by decide +kernel
theorem dX10_keep_16 : decode cX10_keep 16 = .ok (.iload_n 2, 1) := by decide +kernel
theorem dX10_keep_17 : decode cX10_keep 17 = .ok (.iconst 1, 1) := by decide +kernel
theorem dX10_keep_18 : decode cX10_keep 18 = .ok (.iadd, 1) := by decide +kernel
theorem dX10_keep_19 : decode cX10_keep 19 = .ok (.aload_n 0, 1) := by decide +kernel
theorem dX10_keep_20 : decode cX10_keep 20 = .ok (.getfield 19, 3) := by decide +kernel
theorem dX10_keep_23 : decode cX10_keep 23 = .ok (.iload_n 1, 1) := by decide +kernel
theorem dX10_keep_24 : decode cX10_keep 24 = .ok (.iaload, 1) := by decide +kernel
theorem dX10_keep_25 : decode cX10_keep 25 = .ok (.iastore, 1) := by decide +kernel
theorem dX10_keep_26 : decode cX10_keep 26 = .ok (.aload_n 0, 1) := by decide +kernel
theorem dX10_keep_27 : decode cX10_keep 27 = .ok (.getfield 67, 3) := by decide +kernel
theorem dX10_keep_30 : decode cX10_keep 30 = .ok (.iload_n 2, 1) := by decide +kernel
theorem dX10_keep_31 : decode cX10_keep 31 = .ok (.iconst 2, 1) := by decide +kernel
theorem dX10_keep_32 : decode cX10_keep 32 = .ok (.iadd, 1) := by decide +kernel
theorem dX10_keep_33 : decode cX10_keep 33 = .ok (.aload_n 0, 1) := by decide +kernel
theorem dX10_keep_34 : decode cX10_keep 34 = .ok (.getfield 22, 3) := by decide +kernel
theorem dX10_keep_37 : decode cX10_keep 37 = .ok (.iload_n 1, 1) := by decide +kernel
theorem dX10_keep_38 : decode cX10_keep 38 = .ok (.iaload, 1) := by decide +kernel
theorem dX10_keep_39 : decode cX10_keep 39 = .ok (.iastore, 1) := by decide +kernel
theorem dX10_keep_40 : decode cX10_keep 40 = .ok (.return_, 1) := by decide +kernel
theorem dX10_putBack_0 : decode cX10_putBack 0 = .ok (.aload_n 0, 1) := by decide +kernel
theorem dX10_putBack_1 : decode cX10_putBack 1 = .ok (.getfield 16, 3) := by decide +kernel
theorem dX10_putBack_4 : decode cX10_putBack 4 = .ok (.iload_n 1, 1) := by decide +kernel
theorem dX10_putBack_5 : decode cX10_putBack 5 = .ok (.aload_n 0, 1) := by decide +kernel
theorem dX10_putBack_6 : decode cX10_putBack 6 = .ok (.getfield 67, 3) := by decide +kernel
theorem dX10_putBack_9 : decode cX10_putBack 9 = .ok (.iload_n 2, 1) := by decide +kernel
theorem dX10_putBack_10 : decode cX10_putBack 10 = .ok (.iaload, 1) := by decide +kernel
theorem dX10_putBack_11 : decode cX10_putBack 11 = .ok (.iastore, 1) := by decide +kernel
theorem dX10_putBack_12 : decode cX10_putBack 12 = .ok (.aload_n 0, 1) := by decide +kernel
theorem dX10_putBack_13 : decode cX10_putBack 13 = .ok (.getfield 19, 3) := by decide +kernel
theorem dX10_putBack_16 : decode cX10_putBack 16 = .ok (.iload_n 1, 1) := by decide +kernel
theorem dX10_putBack_17 : decode cX10_putBack 17 = .ok (.aload_n 0, 1) := by decide +kernel
theorem dX10_putBack_18 : decode cX10_putBack 18 = .ok (.getfield 67, 3) := by decide +kernel
theorem dX10_putBack_21 : decode cX10_putBack 21 = .ok (.iload_n 2, 1) := by decide +kernel
theorem dX10_putBack_22 : decode cX10_putBack 22 = .ok (.iconst 1, 1) := by decide +kernel
theorem dX10_putBack_23 : decode cX10_putBack 23 = .ok (.iadd, 1) := by decide +kernel
theorem dX10_putBack_24 : decode cX10_putBack 24 = .ok (.iaload, 1) := by decide +kernel
theorem dX10_putBack_25 : decode cX10_putBack 25 = .ok (.iastore, 1) := by decide +kernel
theorem dX10_putBack_26 : decode cX10_putBack 26 = .ok (.aload_n 0, 1) := by decide +kernel
theorem dX10_putBack_27 : decode cX10_putBack 27 = .ok (.getfield 22, 3) := by decide +kernel
theorem dX10_putBack_30 : decode cX10_putBack 30 = .ok (.iload_n 1, 1) := by decide +kernel
theorem dX10_putBack_31 : decode cX10_putBack 31 = .ok (.aload_n 0, 1) := by decide +kernel
theorem dX10_putBack_32 : decode cX10_putBack 32 = .ok (.getfield 67, 3) := by decide +kernel
theorem dX10_putBack_35 : decode cX10_putBack 35 = .ok (.iload_n 2, 1) := by decide +kernel
theorem dX10_putBack_36 : decode cX10_putBack 36 = .ok (.iconst 2, 1) := by decide +kernel
theorem dX10_putBack_37 : decode cX10_putBack 37 = .ok (.iadd, 1) := by decide +kernel
theorem dX10_putBack_38 : decode cX10_putBack 38 = .ok (.iaload, 1) := by decide +kernel
theorem dX10_putBack_39 : decode cX10_putBack 39 = .ok (.iastore, 1) := by decide +kernel
theorem dX10_putBack_40 : decode cX10_putBack 40 = .ok (.return_, 1) := by decide +kernel
theorem dX10_lookFurther_0 : decode cX10_lookFurther 0 = .ok (.iconst 0, 1) := by decide +kernel
theorem dX10_lookFurther_1 : decode cX10_lookFurther 1 = .ok (.istore 4, 2) := by decide +kernel
theorem dX10_lookFurther_3 : decode cX10_lookFurther 3 = .ok (.iload 4, 2) := by decide +kernel
theorem dX10_lookFurther_5 : decode cX10_lookFurther 5 = .ok (.iconst 4, 1) := by decide +kernel
theorem dX10_lookFurther_6 : decode cX10_lookFurther 6 = .ok (.aload_n 0, 1) := by decide +kernel
theorem dX10_lookFurther_7 : decode cX10_lookFurther 7 = .ok (.getfield 116, 3) := by decide +kernel
theorem dX10_lookFurther_10 : decode cX10_lookFurther 10 = .ok (.imul, 1) := by decide +kernel
theorem dX10_lookFurther_11 : decode cX10_lookFurther 11 = .ok (.if_icmp .ge 84, 3) := by decide +kernel
theorem dX10_lookFurther_14 : decode cX10_lookFurther 14 = .ok (.iload 4, 2) := by decide +kernel
theorem dX10_lookFurther_16 : decode cX10_lookFurther 16 = .ok (.iconst 4, 1) := by decide +kernel
theorem dX10_lookFurther_17 : decode cX10_lookFurther 17 = .ok (.idiv, 1) := by decide +kernel
theorem dX10_lookFurther_18 : decode cX10_lookFurther 18 = .ok (.istore 5, 2) := by decide +kernel
theorem dX10_lookFurther_20 : decode cX10_lookFurther 20 = .ok (.iload 4, 2) := by decide +kernel
theorem dX10_lookFurther_22 : decode cX10_lookFurther 22 = .ok (.iconst 4, 1) := by decide +kernel
theorem dX10_lookFurther_23 : decode cX10_lookFurther 23 = .ok (.irem, 1) := by decide +kernel
theorem dX10_lookFurther_24 : decode cX10_lookFurther 24 = .ok (.istore 6, 2) := by decide +kernel
theorem dX10_lookFurther_26 : decode cX10_lookFurther 26 = .ok (.aload_n 0, 1) := by decide +kernel
theorem dX10_lookFurther_27 : decode cX10_lookFurther 27 = .ok (.iload 5, 2) := by decide +kernel
theorem dX10_lookFurther_29 : decode cX10_lookFurther 29 = .ok (.iload 6, 2) := by decide +kernel
theorem dX10_lookFurther_31 : decode cX10_lookFurther 31 = .ok (.invokevirtual 243, 3) := by decide +kernel
theorem dX10_lookFurther_34 : decode cX10_lookFurther 34 = .ok (.ifCond .eq 55, 3) := by decide +kernel
theorem dX10_lookFurther_37 : decode cX10_lookFurther 37 = .ok (.aload_n 0, 1) := by decide +kernel
theorem dX10_lookFurther_38 : decode cX10_lookFurther 38 = .ok (.iload 5, 2) := by decide +kernel
theorem dX10_lookFurther_40 : decode cX10_lookFurther 40 = .ok (.iconst 3, 1) := by decide +kernel
theorem dX10_lookFurther_41 : decode cX10_lookFurther 41 = .ok (.invokevirtual 262, 3) := by decide +kernel
theorem dX10_lookFurther_44 : decode cX10_lookFurther 44 = .ok (.aload_n 0, 1) := by decide +kernel
theorem dX10_lookFurther_45 : decode cX10_lookFurther 45 = .ok (.iload 5, 2) := by decide +kernel
theorem dX10_lookFurther_47 : decode cX10_lookFurther 47 = .ok (.iload 6, 2) := by decide +kernel
theorem dX10_lookFurther_49 : decode cX10_lookFurther 49 = .ok (.invokevirtual 246, 3) := by decide +kernel
theorem dX10_lookFurther_52 : decode cX10_lookFurther 52 = .ok (.aload_n 0, 1) := by decide +kernel
theorem dX10_lookFurther_53 : decode cX10_lookFurther 53 = .ok (.iload_n 1, 1) := by decide +kernel
theorem dX10_lookFurther_54 : decode cX10_lookFurther 54 = .ok (.iload_n 3, 1) := by decide +kernel
theorem dX10_lookFurther_55 : decode cX10_lookFurther 55 = .ok (.invokestatic 265, 3) := by decide +kernel
theorem dX10_lookFurther_58 : decode cX10_lookFurther 58 = .ok (.iload 6, 2) := by decide +kernel
theorem dX10_lookFurther_60 : decode cX10_lookFurther 60 = .ok (.invokestatic 265, 3) := by decide +kernel
theorem dX10_lookFurther_63 : decode cX10_lookFurther 63 = .ok (.iadd, 1) := by decide +kernel
theorem dX10_lookFurther_64 : decode cX10_lookFurther 64 = .ok (.iconst 2, 1) := by decide +kernel
theorem dX10_lookFurther_65 : decode cX10_lookFurther 65 = .ok (.bipush 10, 2) := by decide +kernel
theorem dX10_lookFurther_67 : decode cX10_lookFurther 67 = .ok (.iload_n 2, 1) := by decide +kernel
theorem dX10_lookFurther_68 : decode cX10_lookFurther 68 = .ok (.imul, 1) := by decide +kernel
theorem dX10_lookFurther_69 : decode cX10_lookFurther 69 = .ok (.iload_n 3, 1) := by decide +kernel
theorem dX10_lookFurther_70 : decode cX10_lookFurther 70 = .ok (.iadd, 1) := by decide +kernel
theorem dX10_lookFurther_71 : decode cX10_lookFurther 71 = .ok (.bipush 10, 2) := by decide +kernel
theorem dX10_lookFurther_73 : decode cX10_lookFurther 73 = .ok (.iload 5, 2) := by decide +kernel
theorem dX10_lookFurther_75 : decode cX10_lookFurther 75 = .ok (.imul, 1) := by decide +kernel
theorem dX10_lookFurther_76 : decode cX10_lookFurther 76 = .ok (.iload 6, 2) := by decide +kernel
theorem dX10_lookFurther_78 : decode cX10_lookFurther 78 = .ok (.iadd, 1) := by decide +kernel
theorem dX10_lookFurther_79 : decode cX10_lookFurther 79 = .ok (.invokevirtual 268, 3) := by decide +kernel
theorem dX10_lookFurther_82 : decode cX10_lookFurther 82 = .ok (.aload_n 0, 1) := by decide +kernel
theorem dX10_lookFurther_83 : decode cX10_lookFurther 83 = .ok (.iload 5, 2) := by decide +kernel
theorem dX10_lookFurther_85 : decode cX10_lookFurther 85 = .ok (.iconst 3, 1) := by decide +kernel
theorem dX10_lookFurther_86 : decode cX10_lookFurther 86 = .ok (.invokevirtual 272, 3) := by decide +kernel
theorem dX10_lookFurther_89 : decode cX10_lookFurther 89 = .ok (.iinc 4 1, 3) := by decide +kernel
theorem dX10_lookFurther_92 : decode cX10_lookFurther 92 = .ok (.goto (-89), 3) := by decide +kernel
theorem dX10_lookFurther_95 : decode cX10_lookFurther 95 = .ok (.return_, 1) := by decide +kernel
theorem dX10_layMend_0 : decode cX10_layMend 0 = .ok (.aload_n 0, 1) := by decide +kernel
theorem dX10_layMend_1 : decode cX10_layMend 1 = .ok (.bipush (-9), 2) := by decide +kernel
theorem dX10_layMend_3 : decode cX10_layMend 3 = .ok (.putfield 250, 3) := by decide +kernel
theorem dX10_layMend_6 : decode cX10_layMend 6 = .ok (.aload_n 0, 1) := by decide +kernel
theorem dX10_layMend_7 : decode cX10_layMend 7 = .ok (.iconst 0, 1) := by decide +kernel
theorem dX10_layMend_8 : decode cX10_layMend 8 = .ok (.putfield 253, 3) := by decide +kernel
theorem dX10_layMend_11 : decode cX10_layMend 11 = .ok (.aload_n 0, 1) := by decide +kernel
theorem dX10_layMend_12 : decode cX10_layMend 12 = .ok (.bipush (-9), 2) := by decide +kernel
theorem dX10_layMend_14 : decode cX10_layMend 14 = .ok (.putfield 256, 3) := by decide +kernel
theorem dX10_layMend_17 : decode cX10_layMend 17 = .ok (.aload_n 0, 1) := by decide +kernel
theorem dX10_layMend_18 : decode cX10_layMend 18 = .ok (.bipush (-9), 2) := by decide +kernel
theorem dX10_layMend_20 : decode cX10_layMend 20 = .ok (.putfield 259, 3) := by decide +kernel
theorem dX10_layMend_23 : decode cX10_layMend 23 = .ok (.aload_n 0, 1) := by decide +kernel
theorem dX10_layMend_24 : decode cX10_layMend 24 = .ok (.iload_n 1, 1) := by decide +kernel
theorem dX10_layMend_25 : decode cX10_layMend 25 = .ok (.iconst 0, 1) := by decide +kernel
theorem dX10_layMend_26 : decode cX10_layMend 26 = .ok (.iconst 0, 1) := by decide +kernel
theorem dX10_layMend_27 : decode cX10_layMend 27 = .ok (.bipush (-9), 2) := by decide +kernel
theorem dX10_layMend_29 : decode cX10_layMend 29 = .ok (.bipush (-9), 2) := by decide +kernel
theorem dX10_layMend_31 : decode cX10_layMend 31 = .ok (.invokevirtual 268, 3) := by decide +kernel
theorem dX10_layMend_34 : decode cX10_layMend 34 = .ok (.iconst 0, 1) := by decide +kernel
theorem dX10_layMend_35 : decode cX10_layMend 35 = .ok (.istore_n 2, 1) := by decide +kernel
theorem dX10_layMend_36 : decode cX10_layMend 36 = .ok (.iload_n 2, 1) := by decide +kernel
theorem dX10_layMend_37 : decode cX10_layMend 37 = .ok (.iconst 4, 1) := by decide +kernel
theorem dX10_layMend_38 : decode cX10_layMend 38 = .ok (.aload_n 0, 1) := by decide +kernel
theorem dX10_layMend_39 : decode cX10_layMend 39 = .ok (.getfield 116, 3) := by decide +kernel
theorem dX10_layMend_42 : decode cX10_layMend 42 = .ok (.imul, 1) := by decide +kernel
theorem dX10_layMend_43 : decode cX10_layMend 43 = .ok (.if_icmp .ge 75, 3) := by decide +kernel
theorem dX10_layMend_46 : decode cX10_layMend 46 = .ok (.iload_n 2, 1) := by decide +kernel
theorem dX10_layMend_47 : decode cX10_layMend 47 = .ok (.iconst 4, 1) := by decide +kernel
theorem dX10_layMend_48 : decode cX10_layMend 48 = .ok (.idiv, 1) := by decide +kernel
end
section
theorem dX10_layMend_49 : decode cX10_layMend 49 = .ok (.istore_n 3, 1) := by decide +kernel
theorem dX10_layMend_50 : decode cX10_layMend 50 = .ok (.iload_n 2, 1) := by decide +kernel
theorem dX10_layMend_51 : decode cX10_layMend 51 = .ok (.iconst 4, 1) := by decide +kernel
theorem dX10_layMend_52 : decode cX10_layMend 52 = .ok (.irem, 1) := by decide +kernel
theorem dX10_layMend_53 : decode cX10_layMend 53 = .ok (.istore 4, 2) := by decide +kernel
theorem dX10_layMend_55 : decode cX10_layMend 55 = .ok (.aload_n 0, 1) := by decide +kernel
theorem dX10_layMend_56 : decode cX10_layMend 56 = .ok (.iload_n 3, 1) := by decide +kernel
theorem dX10_layMend_57 : decode cX10_layMend 57 = .ok (.iload 4, 2) := by decide +kernel
theorem dX10_layMend_59 : decode cX10_layMend 59 = .ok (.invokevirtual 243, 3) := by decide +kernel
theorem dX10_layMend_62 : decode cX10_layMend 62 = .ok (.ifCond .eq 50, 3) := by decide +kernel
theorem dX10_layMend_65 : decode cX10_layMend 65 = .ok (.aload_n 0, 1) := by decide +kernel
theorem dX10_layMend_66 : decode cX10_layMend 66 = .ok (.iload_n 3, 1) := by decide +kernel
theorem dX10_layMend_67 : decode cX10_layMend 67 = .ok (.iconst 0, 1) := by decide +kernel
theorem dX10_layMend_68 : decode cX10_layMend 68 = .ok (.invokevirtual 262, 3) := by decide +kernel
theorem dX10_layMend_71 : decode cX10_layMend 71 = .ok (.aload_n 0, 1) := by decide +kernel
theorem dX10_layMend_72 : decode cX10_layMend 72 = .ok (.iload_n 3, 1) := by decide +kernel
theorem dX10_layMend_73 : decode cX10_layMend 73 = .ok (.iload 4, 2) := by decide +kernel
theorem dX10_layMend_75 : decode cX10_layMend 75 = .ok (.invokevirtual 246, 3) := by decide +kernel
theorem dX10_layMend_78 : decode cX10_layMend 78 = .ok (.aload_n 0, 1) := by decide +kernel
theorem dX10_layMend_79 : decode cX10_layMend 79 = .ok (.iload_n 1, 1) := by decide +kernel
theorem dX10_layMend_80 : decode cX10_layMend 80 = .ok (.iload 4, 2) := by decide +kernel
theorem dX10_layMend_82 : decode cX10_layMend 82 = .ok (.invokestatic 265, 3) := by decide +kernel
theorem dX10_layMend_85 : decode cX10_layMend 85 = .ok (.iconst 1, 1) := by decide +kernel
theorem dX10_layMend_86 : decode cX10_layMend 86 = .ok (.bipush 10, 2) := by decide +kernel
theorem dX10_layMend_88 : decode cX10_layMend 88 = .ok (.iload_n 3, 1) := by decide +kernel
theorem dX10_layMend_89 : decode cX10_layMend 89 = .ok (.imul, 1) := by decide +kernel
theorem dX10_layMend_90 : decode cX10_layMend 90 = .ok (.iload 4, 2) := by decide +kernel
theorem dX10_layMend_92 : decode cX10_layMend 92 = .ok (.iadd, 1) := by decide +kernel
theorem dX10_layMend_93 : decode cX10_layMend 93 = .ok (.bipush (-9), 2) := by decide +kernel
theorem dX10_layMend_95 : decode cX10_layMend 95 = .ok (.invokevirtual 268, 3) := by decide +kernel
theorem dX10_layMend_98 : decode cX10_layMend 98 = .ok (.aload_n 0, 1) := by decide +kernel
theorem dX10_layMend_99 : decode cX10_layMend 99 = .ok (.iload_n 1, 1) := by decide +kernel
theorem dX10_layMend_100 : decode cX10_layMend 100 = .ok (.iload_n 3, 1) := by decide +kernel
theorem dX10_layMend_101 : decode cX10_layMend 101 = .ok (.iload 4, 2) := by decide +kernel
theorem dX10_layMend_103 : decode cX10_layMend 103 = .ok (.invokevirtual 275, 3) := by decide +kernel
theorem dX10_layMend_106 : decode cX10_layMend 106 = .ok (.aload_n 0, 1) := by decide +kernel
theorem dX10_layMend_107 : decode cX10_layMend 107 = .ok (.iload_n 3, 1) := by decide +kernel
theorem dX10_layMend_108 : decode cX10_layMend 108 = .ok (.iconst 0, 1) := by decide +kernel
theorem dX10_layMend_109 : decode cX10_layMend 109 = .ok (.invokevirtual 272, 3) := by decide +kernel
theorem dX10_layMend_112 : decode cX10_layMend 112 = .ok (.iinc 2 1, 3) := by decide +kernel
theorem dX10_layMend_115 : decode cX10_layMend 115 = .ok (.goto (-79), 3) := by decide +kernel
theorem dX10_layMend_118 : decode cX10_layMend 118 = .ok (.return_, 1) := by decide +kernel
theorem dX10_mend_0 : decode cX10_mend 0 = .ok (.iload_n 1, 1) := by decide +kernel
theorem dX10_mend_1 : decode cX10_mend 1 = .ok (.i2l, 1) := by decide +kernel
theorem dX10_mend_2 : decode cX10_mend 2 = .ok (.lconst 0, 1) := by decide +kernel
theorem dX10_mend_3 : decode cX10_mend 3 = .ok (.ldc2_w 279, 3) := by decide +kernel
theorem dX10_mend_6 : decode cX10_mend 6 = .ok (.invokestatic 105, 3) := by decide +kernel
theorem dX10_mend_9 : decode cX10_mend 9 = .ok (.ifCond .ne 6, 3) := by decide +kernel
theorem dX10_mend_12 : decode cX10_mend 12 = .ok (.bipush (-2), 2) := by decide +kernel
theorem dX10_mend_14 : decode cX10_mend 14 = .ok (.ireturn, 1) := by decide +kernel
theorem dX10_mend_15 : decode cX10_mend 15 = .ok (.iload_n 2, 1) := by decide +kernel
theorem dX10_mend_16 : decode cX10_mend 16 = .ok (.i2l, 1) := by decide +kernel
theorem dX10_mend_17 : decode cX10_mend 17 = .ok (.ldc2_w 281, 3) := by decide +kernel
theorem dX10_mend_20 : decode cX10_mend 20 = .ok (.lconst 1, 1) := by decide +kernel
theorem dX10_mend_21 : decode cX10_mend 21 = .ok (.invokestatic 105, 3) := by decide +kernel
theorem dX10_mend_24 : decode cX10_mend 24 = .ok (.ifCond .ne 5, 3) := by decide +kernel
theorem dX10_mend_27 : decode cX10_mend 27 = .ok (.iconst (-1), 1) := by decide +kernel
theorem dX10_mend_28 : decode cX10_mend 28 = .ok (.ireturn, 1) := by decide +kernel
theorem dX10_mend_29 : decode cX10_mend 29 = .ok (.aload_n 0, 1) := by decide +kernel
theorem dX10_mend_30 : decode cX10_mend 30 = .ok (.invokevirtual 216, 3) := by decide +kernel
theorem dX10_mend_33 : decode cX10_mend 33 = .ok (.ifCond .eq 6, 3) := by decide +kernel
theorem dX10_mend_36 : decode cX10_mend 36 = .ok (.bipush (-3), 2) := by decide +kernel
theorem dX10_mend_38 : decode cX10_mend 38 = .ok (.ireturn, 1) := by decide +kernel
theorem dX10_mend_39 : decode cX10_mend 39 = .ok (.aload_n 0, 1) := by decide +kernel
theorem dX10_mend_40 : decode cX10_mend 40 = .ok (.iload_n 1, 1) := by decide +kernel
theorem dX10_mend_41 : decode cX10_mend 41 = .ok (.invokevirtual 283, 3) := by decide +kernel
theorem dX10_mend_44 : decode cX10_mend 44 = .ok (.aload_n 0, 1) := by decide +kernel
theorem dX10_mend_45 : decode cX10_mend 45 = .ok (.getfield 250, 3) := by decide +kernel
theorem dX10_mend_48 : decode cX10_mend 48 = .ok (.ifCond .ge 6, 3) := by decide +kernel
theorem dX10_mend_51 : decode cX10_mend 51 = .ok (.bipush (-9), 2) := by decide +kernel
theorem dX10_mend_53 : decode cX10_mend 53 = .ok (.ireturn, 1) := by decide +kernel
theorem dX10_mend_54 : decode cX10_mend 54 = .ok (.iload_n 2, 1) := by decide +kernel
theorem dX10_mend_55 : decode cX10_mend 55 = .ok (.iconst (-1), 1) := by decide +kernel
theorem dX10_mend_56 : decode cX10_mend 56 = .ok (.if_icmp .ne 10, 3) := by decide +kernel
theorem dX10_mend_59 : decode cX10_mend 59 = .ok (.aload_n 0, 1) := by decide +kernel
theorem dX10_mend_60 : decode cX10_mend 60 = .ok (.getfield 250, 3) := by decide +kernel
theorem dX10_mend_63 : decode cX10_mend 63 = .ok (.goto 31, 3) := by decide +kernel
theorem dX10_mend_66 : decode cX10_mend 66 = .ok (.iload_n 2, 1) := by decide +kernel
theorem dX10_mend_67 : decode cX10_mend 67 = .ok (.bipush (-2), 2) := by decide +kernel
theorem dX10_mend_69 : decode cX10_mend 69 = .ok (.if_icmp .ne 10, 3) := by decide +kernel
theorem dX10_mend_72 : decode cX10_mend 72 = .ok (.aload_n 0, 1) := by decide +kernel
theorem dX10_mend_73 : decode cX10_mend 73 = .ok (.getfield 253, 3) := by decide +kernel
theorem dX10_mend_76 : decode cX10_mend 76 = .ok (.goto 18, 3) := by decide +kernel
theorem dX10_mend_79 : decode cX10_mend 79 = .ok (.iload_n 2, 1) := by decide +kernel
theorem dX10_mend_80 : decode cX10_mend 80 = .ok (.ifCond .ne 10, 3) := by decide +kernel
theorem dX10_mend_83 : decode cX10_mend 83 = .ok (.aload_n 0, 1) := by decide +kernel
theorem dX10_mend_84 : decode cX10_mend 84 = .ok (.getfield 256, 3) := by decide +kernel
theorem dX10_mend_87 : decode cX10_mend 87 = .ok (.goto 7, 3) := by decide +kernel
theorem dX10_mend_90 : decode cX10_mend 90 = .ok (.aload_n 0, 1) := by decide +kernel
theorem dX10_mend_91 : decode cX10_mend 91 = .ok (.getfield 259, 3) := by decide +kernel
theorem dX10_mend_94 : decode cX10_mend 94 = .ok (.ireturn, 1) := by decide +kernel
theorem dX10_cutIn_0 : decode cX10_cutIn 0 = .ok (.iload_n 0, 1) := by decide +kernel
theorem dX10_cutIn_1 : decode cX10_cutIn 1 = .ok (.istore_n 3, 1) := by decide +kernel
theorem dX10_cutIn_2 : decode cX10_cutIn 2 = .ok (.iload_n 1, 1) := by decide +kernel
theorem dX10_cutIn_3 : decode cX10_cutIn 3 = .ok (.iconst 1, 1) := by decide +kernel
theorem dX10_cutIn_4 : decode cX10_cutIn 4 = .ok (.isub, 1) := by decide +kernel
theorem dX10_cutIn_5 : decode cX10_cutIn 5 = .ok (.istore 4, 2) := by decide +kernel
theorem dX10_cutIn_7 : decode cX10_cutIn 7 = .ok (.iload 4, 2) := by decide +kernel
theorem dX10_cutIn_9 : decode cX10_cutIn 9 = .ok (.iload_n 2, 1) := by decide +kernel
theorem dX10_cutIn_10 : decode cX10_cutIn 10 = .ok (.if_icmp .le 14, 3) := by decide +kernel
theorem dX10_cutIn_13 : decode cX10_cutIn 13 = .ok (.iload_n 3, 1) := by decide +kernel
theorem dX10_cutIn_14 : decode cX10_cutIn 14 = .ok (.bipush 7, 2) := by decide +kernel
theorem dX10_cutIn_16 : decode cX10_cutIn 16 = .ok (.idiv, 1) := by decide +kernel
theorem dX10_cutIn_17 : decode cX10_cutIn 17 = .ok (.istore_n 3, 1) := by decide +kernel
theorem dX10_cutIn_18 : decode cX10_cutIn 18 = .ok (.iinc 4 (-1), 3) := by decide +kernel
theorem dX10_cutIn_21 : decode cX10_cutIn 21 = .ok (.goto (-14), 3) := by decide +kernel
theorem dX10_cutIn_24 : decode cX10_cutIn 24 = .ok (.iload_n 3, 1) := by decide +kernel
theorem dX10_cutIn_25 : decode cX10_cutIn 25 = .ok (.bipush 7, 2) := by decide +kernel
theorem dX10_cutIn_27 : decode cX10_cutIn 27 = .ok (.irem, 1) := by decide +kernel
theorem dX10_cutIn_28 : decode cX10_cutIn 28 = .ok (.ireturn, 1) := by decide +kernel
theorem dX10_costOfOrder_0 : decode cX10_costOfOrder 0 = .ok (.iconst 0, 1) := by decide +kernel
theorem dX10_costOfOrder_1 : decode cX10_costOfOrder 1 = .ok (.istore_n 3, 1) := by decide +kernel
theorem dX10_costOfOrder_2 : decode cX10_costOfOrder 2 = .ok (.iconst 0, 1) := by decide +kernel
theorem dX10_costOfOrder_3 : decode cX10_costOfOrder 3 = .ok (.istore 4, 2) := by decide +kernel
theorem dX10_costOfOrder_5 : decode cX10_costOfOrder 5 = .ok (.iconst 0, 1) := by decide +kernel
theorem dX10_costOfOrder_6 : decode cX10_costOfOrder 6 = .ok (.istore 5, 2) := by decide +kernel
theorem dX10_costOfOrder_8 : decode cX10_costOfOrder 8 = .ok (.iload 5, 2) := by decide +kernel
theorem dX10_costOfOrder_10 : decode cX10_costOfOrder 10 = .ok (.iload_n 2, 1) := by decide +kernel
theorem dX10_costOfOrder_11 : decode cX10_costOfOrder 11 = .ok (.iconst 1, 1) := by decide +kernel
theorem dX10_costOfOrder_12 : decode cX10_costOfOrder 12 = .ok (.isub, 1) := by decide +kernel
theorem dX10_costOfOrder_13 : decode cX10_costOfOrder 13 = .ok (.if_icmp .ge 154, 3) := by decide +kernel
theorem dX10_costOfOrder_16 : decode cX10_costOfOrder 16 = .ok (.iload_n 1, 1) := by decide +kernel
theorem dX10_costOfOrder_17 : decode cX10_costOfOrder 17 = .ok (.iload_n 2, 1) := by decide +kernel
theorem dX10_costOfOrder_18 : decode cX10_costOfOrder 18 = .ok (.iconst 1, 1) := by decide +kernel
theorem dX10_costOfOrder_19 : decode cX10_costOfOrder 19 = .ok (.isub, 1) := by decide +kernel
theorem dX10_costOfOrder_20 : decode cX10_costOfOrder 20 = .ok (.iload 5, 2) := by decide +kernel
theorem dX10_costOfOrder_22 : decode cX10_costOfOrder 22 = .ok (.invokestatic 287, 3) := by decide +kernel
theorem dX10_costOfOrder_25 : decode cX10_costOfOrder 25 = .ok (.istore 6, 2) := by decide +kernel
theorem dX10_costOfOrder_27 : decode cX10_costOfOrder 27 = .ok (.iload 6, 2) := by decide +kernel
theorem dX10_costOfOrder_29 : decode cX10_costOfOrder 29 = .ok (.iload_n 2, 1) := by decide +kernel
theorem dX10_costOfOrder_30 : decode cX10_costOfOrder 30 = .ok (.iconst 2, 1) := by decide +kernel
theorem dX10_costOfOrder_31 : decode cX10_costOfOrder 31 = .ok (.isub, 1) := by decide +kernel
theorem dX10_costOfOrder_32 : decode cX10_costOfOrder 32 = .ok (.if_icmp .gt 13, 3) := by decide +kernel
theorem dX10_costOfOrder_35 : decode cX10_costOfOrder 35 = .ok (.iload_n 3, 1) := by decide +kernel
theorem dX10_costOfOrder_36 : decode cX10_costOfOrder 36 = .ok (.iload 6, 2) := by decide +kernel
theorem dX10_costOfOrder_38 : decode cX10_costOfOrder 38 = .ok (.ishr, 1) := by decide +kernel
theorem dX10_costOfOrder_39 : decode cX10_costOfOrder 39 = .ok (.iconst 1, 1) := by decide +kernel
theorem dX10_costOfOrder_40 : decode cX10_costOfOrder 40 = .ok (.iand, 1) := by decide +kernel
theorem dX10_costOfOrder_41 : decode cX10_costOfOrder 41 = .ok (.iconst 1, 1) := by decide +kernel
theorem dX10_costOfOrder_42 : decode cX10_costOfOrder 42 = .ok (.if_icmp .ne 6, 3) := by decide +kernel
theorem dX10_costOfOrder_45 : decode cX10_costOfOrder 45 = .ok (.bipush (-9), 2) := by decide +kernel
theorem dX10_costOfOrder_47 : decode cX10_costOfOrder 47 = .ok (.ireturn, 1) := by decide +kernel
theorem dX10_costOfOrder_48 : decode cX10_costOfOrder 48 = .ok (.iconst 0, 1) := by decide +kernel
theorem dX10_costOfOrder_49 : decode cX10_costOfOrder 49 = .ok (.istore 7, 2) := by decide +kernel
theorem dX10_costOfOrder_51 : decode cX10_costOfOrder 51 = .ok (.iload 6, 2) := by decide +kernel
theorem dX10_costOfOrder_53 : decode cX10_costOfOrder 53 = .ok (.istore 8, 2) := by decide +kernel
theorem dX10_costOfOrder_55 : decode cX10_costOfOrder 55 = .ok (.iload 8, 2) := by decide +kernel
theorem dX10_costOfOrder_57 : decode cX10_costOfOrder 57 = .ok (.ifCond .lt 37, 3) := by decide +kernel
theorem dX10_costOfOrder_60 : decode cX10_costOfOrder 60 = .ok (.iload 8, 2) := by decide +kernel
theorem dX10_costOfOrder_62 : decode cX10_costOfOrder 62 = .ok (.iload 6, 2) := by decide +kernel
theorem dX10_costOfOrder_64 : decode cX10_costOfOrder 64 = .ok (.if_icmp .eq 12, 3) := by decide +kernel
theorem dX10_costOfOrder_67 : decode cX10_costOfOrder 67 = .ok (.iload_n 3, 1) := by decide +kernel
theorem dX10_costOfOrder_68 : decode cX10_costOfOrder 68 = .ok (.iload 8, 2) := by decide +kernel
theorem dX10_costOfOrder_70 : decode cX10_costOfOrder 70 = .ok (.ishr, 1) := by decide +kernel
theorem dX10_costOfOrder_71 : decode cX10_costOfOrder 71 = .ok (.iconst 1, 1) := by decide +kernel
theorem dX10_costOfOrder_72 : decode cX10_costOfOrder 72 = .ok (.iand, 1) := by decide +kernel
theorem dX10_costOfOrder_73 : decode cX10_costOfOrder 73 = .ok (.ifCond .ne 21, 3) := by decide +kernel
theorem dX10_costOfOrder_76 : decode cX10_costOfOrder 76 = .ok (.iload 7, 2) := by decide +kernel
theorem dX10_costOfOrder_78 : decode cX10_costOfOrder 78 = .ok (.aload_n 0, 1) := by decide +kernel
theorem dX10_costOfOrder_79 : decode cX10_costOfOrder 79 = .ok (.getfield 70, 3) := by decide +kernel
theorem dX10_costOfOrder_82 : decode cX10_costOfOrder 82 = .ok (.iload 8, 2) := by decide +kernel
theorem dX10_costOfOrder_84 : decode cX10_costOfOrder 84 = .ok (.iaload, 1) := by decide +kernel
theorem dX10_costOfOrder_85 : decode cX10_costOfOrder 85 = .ok (.iadd, 1) := by decide +kernel
theorem dX10_costOfOrder_86 : decode cX10_costOfOrder 86 = .ok (.istore 7, 2) := by decide +kernel
theorem dX10_costOfOrder_88 : decode cX10_costOfOrder 88 = .ok (.iinc 8 (-1), 3) := by decide +kernel
theorem dX10_costOfOrder_91 : decode cX10_costOfOrder 91 = .ok (.goto (-36), 3) := by decide +kernel
theorem dX10_costOfOrder_94 : decode cX10_costOfOrder 94 = .ok (.iload 6, 2) := by decide +kernel
theorem dX10_costOfOrder_96 : decode cX10_costOfOrder 96 = .ok (.iconst 1, 1) := by decide +kernel
theorem dX10_costOfOrder_97 : decode cX10_costOfOrder 97 = .ok (.iadd, 1) := by decide +kernel
theorem dX10_costOfOrder_98 : decode cX10_costOfOrder 98 = .ok (.istore 8, 2) := by decide +kernel
theorem dX10_costOfOrder_100 : decode cX10_costOfOrder 100 = .ok (.iload 8, 2) := by decide +kernel
theorem dX10_costOfOrder_102 : decode cX10_costOfOrder 102 = .ok (.iload_n 2, 1) := by decide +kernel
theorem dX10_costOfOrder_103 : decode cX10_costOfOrder 103 = .ok (.if_icmp .ge 41, 3) := by decide +kernel
theorem dX10_costOfOrder_106 : decode cX10_costOfOrder 106 = .ok (.iload 8, 2) := by decide +kernel
theorem dX10_costOfOrder_108 : decode cX10_costOfOrder 108 = .ok (.iload 6, 2) := by decide +kernel
theorem dX10_costOfOrder_110 : decode cX10_costOfOrder 110 = .ok (.iconst 1, 1) := by decide +kernel
theorem dX10_costOfOrder_111 : decode cX10_costOfOrder 111 = .ok (.iadd, 1) := by decide +kernel
theorem dX10_costOfOrder_112 : decode cX10_costOfOrder 112 = .ok (.if_icmp .eq 14, 3) := by decide +kernel
theorem dX10_costOfOrder_115 : decode cX10_costOfOrder 115 = .ok (.iload_n 3, 1) := by decide +kernel
theorem dX10_costOfOrder_116 : decode cX10_costOfOrder 116 = .ok (.iload 8, 2) := by decide +kernel
theorem dX10_costOfOrder_118 : decode cX10_costOfOrder 118 = .ok (.iconst 1, 1) := by decide +kernel
theorem dX10_costOfOrder_119 : decode cX10_costOfOrder 119 = .ok (.isub, 1) := by decide +kernel
theorem dX10_costOfOrder_120 : decode cX10_costOfOrder 120 = .ok (.ishr, 1) := by decide +kernel
theorem dX10_costOfOrder_121 : decode cX10_costOfOrder 121 = .ok (.iconst 1, 1) := by decide +kernel
theorem dX10_costOfOrder_122 : decode cX10_costOfOrder 122 = .ok (.iand, 1) := by decide +kernel
theorem dX10_costOfOrder_123 : decode cX10_costOfOrder 123 = .ok (.ifCond .ne 21, 3) := by decide +kernel
theorem dX10_costOfOrder_126 : decode cX10_costOfOrder 126 = .ok (.iload 7, 2) := by decide +kernel
theorem dX10_costOfOrder_128 : decode cX10_costOfOrder 128 = .ok (.aload_n 0, 1) := by decide +kernel
theorem dX10_costOfOrder_129 : decode cX10_costOfOrder 129 = .ok (.getfield 70, 3) := by decide +kernel
theorem dX10_costOfOrder_132 : decode cX10_costOfOrder 132 = .ok (.iload 8, 2) := by decide +kernel
theorem dX10_costOfOrder_134 : decode cX10_costOfOrder 134 = .ok (.iaload, 1) := by decide +kernel
theorem dX10_costOfOrder_135 : decode cX10_costOfOrder 135 = .ok (.isub, 1) := by decide +kernel
theorem dX10_costOfOrder_136 : decode cX10_costOfOrder 136 = .ok (.istore 7, 2) := by decide +kernel
theorem dX10_costOfOrder_138 : decode cX10_costOfOrder 138 = .ok (.iinc 8 1, 3) := by decide +kernel
theorem dX10_costOfOrder_141 : decode cX10_costOfOrder 141 = .ok (.goto (-41), 3) := by decide +kernel
theorem dX10_costOfOrder_144 : decode cX10_costOfOrder 144 = .ok (.iload 4, 2) := by decide +kernel
theorem dX10_costOfOrder_146 : decode cX10_costOfOrder 146 = .ok (.iload 7, 2) := by decide +kernel
theorem dX10_costOfOrder_148 : decode cX10_costOfOrder 148 = .ok (.invokestatic 207, 3) := by decide +kernel
theorem dX10_costOfOrder_151 : decode cX10_costOfOrder 151 = .ok (.iadd, 1) := by decide +kernel
theorem dX10_costOfOrder_152 : decode cX10_costOfOrder 152 = .ok (.istore 4, 2) := by decide +kernel
theorem dX10_costOfOrder_154 : decode cX10_costOfOrder 154 = .ok (.iload_n 3, 1) := by decide +kernel
theorem dX10_costOfOrder_155 : decode cX10_costOfOrder 155 = .ok (.iconst 1, 1) := by decide +kernel
theorem dX10_costOfOrder_156 : decode cX10_costOfOrder 156 = .ok (.iload 6, 2) := by decide +kernel
theorem dX10_costOfOrder_158 : decode cX10_costOfOrder 158 = .ok (.ishl, 1) := by decide +kernel
theorem dX10_costOfOrder_159 : decode cX10_costOfOrder 159 = .ok (.ior, 1) := by decide +kernel
theorem dX10_costOfOrder_160 : decode cX10_costOfOrder 160 = .ok (.istore_n 3, 1) := by decide +kernel
theorem dX10_costOfOrder_161 : decode cX10_costOfOrder 161 = .ok (.iinc 5 1, 3) := by decide +kernel
theorem dX10_costOfOrder_164 : decode cX10_costOfOrder 164 = .ok (.goto (-156), 3) := by decide +kernel
theorem dX10_costOfOrder_167 : decode cX10_costOfOrder 167 = .ok (.iload 4, 2) := by decide +kernel
theorem dX10_costOfOrder_169 : decode cX10_costOfOrder 169 = .ok (.ireturn, 1) := by decide +kernel
theorem dX10_log_0 : decode cX10_log 0 = .ok (.aload_n 0, 1) := by decide +kernel
theorem dX10_log_1 : decode cX10_log 1 = .ok (.iload_n 1, 1) := by decide +kernel
theorem dX10_log_2 : decode cX10_log 2 = .ok (.iload_n 2, 1) := by decide +kernel
theorem dX10_log_3 : decode cX10_log 3 = .ok (.iload_n 3, 1) := by decide +kernel
theorem dX10_log_4 : decode cX10_log 4 = .ok (.iload 4, 2) := by decide +kernel
theorem dX10_log_6 : decode cX10_log 6 = .ok (.i2l, 1) := by decide +kernel
theorem dX10_log_7 : decode cX10_log 7 = .ok (.invokevirtual 134, 3) := by decide +kernel
theorem dX10_log_10 : decode cX10_log 10 = .ok (.istore 6, 2) := by decide +kernel
theorem dX10_log_12 : decode cX10_log 12 = .ok (.iload 6, 2) := by decide +kernel
theorem dX10_log_14 : decode cX10_log 14 = .ok (.ifCond .ge 6, 3) := by decide +kernel
theorem dX10_log_17 : decode cX10_log 17 = .ok (.iload 6, 2) := by decide +kernel
theorem dX10_log_19 : decode cX10_log 19 = .ok (.ireturn, 1) := by decide +kernel
theorem dX10_log_20 : decode cX10_log 20 = .ok (.iload 4, 2) := by decide +kernel
theorem dX10_log_22 : decode cX10_log 22 = .ok (.i2l, 1) := by decide +kernel
theorem dX10_log_23 : decode cX10_log 23 = .ok (.ldc2_w 103, 3) := by decide +kernel
theorem dX10_log_26 : decode cX10_log 26 = .ok (.ldc2_w 290, 3) := by decide +kernel
theorem dX10_log_29 : decode cX10_log 29 = .ok (.invokestatic 105, 3) := by decide +kernel
theorem dX10_log_32 : decode cX10_log 32 = .ok (.ifCond .ne 10, 3) := by decide +kernel
theorem dX10_log_35 : decode cX10_log 35 = .ok (.aload_n 0, 1) := by decide +kernel
theorem dX10_log_36 : decode cX10_log 36 = .ok (.bipush (-2), 2) := by decide +kernel
theorem dX10_log_38 : decode cX10_log 38 = .ok (.invokevirtual 99, 3) := by decide +kernel
theorem dX10_log_41 : decode cX10_log 41 = .ok (.ireturn, 1) := by decide +kernel
theorem dX10_log_42 : decode cX10_log 42 = .ok (.iconst 1, 1) := by decide +kernel
theorem dX10_log_43 : decode cX10_log 43 = .ok (.istore 7, 2) := by decide +kernel
theorem dX10_log_45 : decode cX10_log 45 = .ok (.iconst 0, 1) := by decide +kernel
theorem dX10_log_46 : decode cX10_log 46 = .ok (.istore 8, 2) := by decide +kernel
theorem dX10_log_48 : decode cX10_log 48 = .ok (.iload 8, 2) := by decide +kernel
theorem dX10_log_50 : decode cX10_log 50 = .ok (.iload 4, 2) := by decide +kernel
theorem dX10_log_52 : decode cX10_log 52 = .ok (.if_icmp .ge 73, 3) := by decide +kernel
theorem dX10_log_55 : decode cX10_log 55 = .ok (.aload_n 0, 1) := by decide +kernel
theorem dX10_log_56 : decode cX10_log 56 = .ok (.getfield 70, 3) := by decide +kernel
theorem dX10_log_59 : decode cX10_log 59 = .ok (.iload 8, 2) := by decide +kernel
theorem dX10_log_61 : decode cX10_log 61 = .ok (.aload_n 0, 1) := by decide +kernel
theorem dX10_log_62 : decode cX10_log 62 = .ok (.getfield 79, 3) := by decide +kernel
theorem dX10_log_65 : decode cX10_log 65 = .ok (.bipush 80, 2) := by decide +kernel
theorem dX10_log_67 : decode cX10_log 67 = .ok (.iload_n 1, 1) := by decide +kernel
theorem dX10_log_68 : decode cX10_log 68 = .ok (.imul, 1) := by decide +kernel
theorem dX10_log_69 : decode cX10_log 69 = .ok (.iload_n 3, 1) := by decide +kernel
theorem dX10_log_70 : decode cX10_log 70 = .ok (.iadd, 1) := by decide +kernel
theorem dX10_log_71 : decode cX10_log 71 = .ok (.iload 8, 2) := by decide +kernel
theorem dX10_log_73 : decode cX10_log 73 = .ok (.iadd, 1) := by decide +kernel
theorem dX10_log_74 : decode cX10_log 74 = .ok (.iaload, 1) := by decide +kernel
theorem dX10_log_75 : decode cX10_log 75 = .ok (.iastore, 1) := by decide +kernel
theorem dX10_log_76 : decode cX10_log 76 = .ok (.iload 7, 2) := by decide +kernel
theorem dX10_log_78 : decode cX10_log 78 = .ok (.iload 8, 2) := by decide +kernel
theorem dX10_log_80 : decode cX10_log 80 = .ok (.ifCond .le 8, 3) := by decide +kernel
theorem dX10_log_83 : decode cX10_log 83 = .ok (.bipush 7, 2) := by decide +kernel
theorem dX10_log_85 : decode cX10_log 85 = .ok (.goto 4, 3) := by decide +kernel
theorem dX10_log_88 : decode cX10_log 88 = .ok (.iconst 1, 1) := by decide +kernel
theorem dX10_log_89 : decode cX10_log 89 = .ok (.imul, 1) := by decide +kernel
theorem dX10_log_90 : decode cX10_log 90 = .ok (.istore 7, 2) := by decide +kernel
theorem dX10_log_92 : decode cX10_log 92 = .ok (.aload_n 0, 1) := by decide +kernel
theorem dX10_log_93 : decode cX10_log 93 = .ok (.getfield 70, 3) := by decide +kernel
theorem dX10_log_96 : decode cX10_log 96 = .ok (.iload 8, 2) := by decide +kernel
theorem dX10_log_98 : decode cX10_log 98 = .ok (.iaload, 1) := by decide +kernel
theorem dX10_log_99 : decode cX10_log 99 = .ok (.i2l, 1) := by decide +kernel
theorem dX10_log_100 : decode cX10_log 100 = .ok (.ldc2_w 183, 3) := by decide +kernel
theorem dX10_log_103 : decode cX10_log 103 = .ok (.ldc2_w 122, 3) := by decide +kernel
theorem dX10_log_106 : decode cX10_log 106 = .ok (.invokestatic 105, 3) := by decide +kernel
theorem dX10_log_109 : decode cX10_log 109 = .ok (.ifCond .ne 10, 3) := by decide +kernel
theorem dX10_log_112 : decode cX10_log 112 = .ok (.aload_n 0, 1) := by decide +kernel
theorem dX10_log_113 : decode cX10_log 113 = .ok (.bipush (-2), 2) := by decide +kernel
theorem dX10_log_115 : decode cX10_log 115 = .ok (.invokevirtual 99, 3) := by decide +kernel
theorem dX10_log_118 : decode cX10_log 118 = .ok (.ireturn, 1) := by decide +kernel
theorem dX10_log_119 : decode cX10_log 119 = .ok (.iinc 8 1, 3) := by decide +kernel
theorem dX10_log_122 : decode cX10_log 122 = .ok (.goto (-74), 3) := by decide +kernel
theorem dX10_log_125 : decode cX10_log 125 = .ok (.iload 5, 2) := by decide +kernel
theorem dX10_log_127 : decode cX10_log 127 = .ok (.i2l, 1) := by decide +kernel
theorem dX10_log_128 : decode cX10_log 128 = .ok (.ldc2_w 292, 3) := by decide +kernel
theorem dX10_log_131 : decode cX10_log 131 = .ok (.ldc2_w 185, 3) := by decide +kernel
theorem dX10_log_134 : decode cX10_log 134 = .ok (.invokestatic 105, 3) := by decide +kernel
theorem dX10_log_137 : decode cX10_log 137 = .ok (.ifCond .ne 9, 3) := by decide +kernel
theorem dX10_log_140 : decode cX10_log 140 = .ok (.aload_n 0, 1) := by decide +kernel
theorem dX10_log_141 : decode cX10_log 141 = .ok (.iconst (-1), 1) := by decide +kernel
theorem dX10_log_142 : decode cX10_log 142 = .ok (.invokevirtual 99, 3) := by decide +kernel
theorem dX10_log_145 : decode cX10_log 145 = .ok (.ireturn, 1) := by decide +kernel
theorem dX10_log_146 : decode cX10_log 146 = .ok (.aload_n 0, 1) := by decide +kernel
theorem dX10_log_147 : decode cX10_log 147 = .ok (.bipush (-9), 2) := by decide +kernel
theorem dX10_log_149 : decode cX10_log 149 = .ok (.putfield 294, 3) := by decide +kernel
theorem dX10_log_152 : decode cX10_log 152 = .ok (.bipush (-9), 2) := by decide +kernel
theorem dX10_log_154 : decode cX10_log 154 = .ok (.istore 8, 2) := by decide +kernel
theorem dX10_log_156 : decode cX10_log 156 = .ok (.iconst 0, 1) := by decide +kernel
theorem dX10_log_157 : decode cX10_log 157 = .ok (.istore 9, 2) := by decide +kernel
theorem dX10_log_159 : decode cX10_log 159 = .ok (.iload 9, 2) := by decide +kernel
theorem dX10_log_161 : decode cX10_log 161 = .ok (.iload 7, 2) := by decide +kernel
theorem dX10_log_163 : decode cX10_log 163 = .ok (.if_icmp .ge 46, 3) := by decide +kernel
theorem dX10_log_166 : decode cX10_log 166 = .ok (.aload_n 0, 1) := by decide +kernel
theorem dX10_log_167 : decode cX10_log 167 = .ok (.iload 9, 2) := by decide +kernel
theorem dX10_log_169 : decode cX10_log 169 = .ok (.iload 4, 2) := by decide +kernel
theorem dX10_log_171 : decode cX10_log 171 = .ok (.invokevirtual 297, 3) := by decide +kernel
theorem dX10_log_174 : decode cX10_log 174 = .ok (.istore 10, 2) := by decide +kernel
theorem dX10_log_176 : decode cX10_log 176 = .ok (.iload 10, 2) := by decide +kernel
theorem dX10_log_178 : decode cX10_log 178 = .ok (.ifCond .lt 25, 3) := by decide +kernel
theorem dX10_log_181 : decode cX10_log 181 = .ok (.iload 8, 2) := by decide +kernel
theorem dX10_log_183 : decode cX10_log 183 = .ok (.ifCond .lt 10, 3) := by decide +kernel
theorem dX10_log_186 : decode cX10_log 186 = .ok (.iload 10, 2) := by decide +kernel
theorem dX10_log_188 : decode cX10_log 188 = .ok (.iload 8, 2) := by decide +kernel
theorem dX10_log_190 : decode cX10_log 190 = .ok (.if_icmp .ge 13, 3) := by decide +kernel
theorem dX10_log_193 : decode cX10_log 193 = .ok (.iload 10, 2) := by decide +kernel
theorem dX10_log_195 : decode cX10_log 195 = .ok (.istore 8, 2) := by decide +kernel
theorem dX10_log_197 : decode cX10_log 197 = .ok (.aload_n 0, 1) := by decide +kernel
theorem dX10_log_198 : decode cX10_log 198 = .ok (.iload 9, 2) := by decide +kernel
theorem dX10_log_200 : decode cX10_log 200 = .ok (.putfield 294, 3) := by decide +kernel
theorem dX10_log_203 : decode cX10_log 203 = .ok (.iinc 9 1, 3) := by decide +kernel
theorem dX10_log_206 : decode cX10_log 206 = .ok (.goto (-47), 3) := by decide +kernel
theorem dX10_log_209 : decode cX10_log 209 = .ok (.aload_n 0, 1) := by decide +kernel
theorem dX10_log_210 : decode cX10_log 210 = .ok (.iload 5, 2) := by decide +kernel
theorem dX10_log_212 : decode cX10_log 212 = .ok (.ifCond .ge 8, 3) := by decide +kernel
theorem dX10_log_215 : decode cX10_log 215 = .ok (.iload 8, 2) := by decide +kernel
theorem dX10_log_217 : decode cX10_log 217 = .ok (.goto 30, 3) := by decide +kernel
theorem dX10_log_220 : decode cX10_log 220 = .ok (.iload 5, 2) := by decide +kernel
theorem dX10_log_222 : decode cX10_log 222 = .ok (.iload 4, 2) := by decide +kernel
theorem dX10_log_224 : decode cX10_log 224 = .ok (.iconst 1, 1) := by decide +kernel
theorem dX10_log_225 : decode cX10_log 225 = .ok (.isub, 1) := by decide +kernel
theorem dX10_log_226 : decode cX10_log 226 = .ok (.if_icmp .ge 19, 3) := by decide +kernel
theorem dX10_log_229 : decode cX10_log 229 = .ok (.aload_n 0, 1) := by decide +kernel
theorem dX10_log_230 : decode cX10_log 230 = .ok (.getfield 294, 3) := by decide +kernel
theorem dX10_log_233 : decode cX10_log 233 = .ok (.iload 4, 2) := by decide +kernel
theorem dX10_log_235 : decode cX10_log 235 = .ok (.iconst 1, 1) := by decide +kernel
theorem dX10_log_236 : decode cX10_log 236 = .ok (.isub, 1) := by decide +kernel
theorem dX10_log_237 : decode cX10_log 237 = .ok (.iload 5, 2) := by decide +kernel
theorem dX10_log_239 : decode cX10_log 239 = .ok (.invokestatic 287, 3) := by decide +kernel
theorem dX10_log_242 : decode cX10_log 242 = .ok (.goto 5, 3) := by decide +kernel
theorem dX10_log_245 : decode cX10_log 245 = .ok (.bipush (-9), 2) := by decide +kernel
theorem dX10_log_247 : decode cX10_log 247 = .ok (.invokevirtual 99, 3) := by decide +kernel
theorem dX10_log_250 : decode cX10_log 250 = .ok (.ireturn, 1) := by decide +kernel
theorem dX10_noSheet_0 : decode cX10_noSheet 0 = .ok (.iload_n 0, 1) := by decide +kernel
theorem dX10_noSheet_1 : decode cX10_noSheet 1 = .ok (.i2l, 1) := by decide +kernel
theorem dX10_noSheet_2 : decode cX10_noSheet 2 = .ok (.lconst 0, 1) := by decide +kernel
theorem dX10_noSheet_3 : decode cX10_noSheet 3 = .ok (.ldc2_w 223, 3) := by decide +kernel
theorem dX10_noSheet_6 : decode cX10_noSheet 6 = .ok (.invokestatic 105, 3) := by decide +kernel
theorem dX10_noSheet_9 : decode cX10_noSheet 9 = .ok (.ifCond .ne 7, 3) := by decide +kernel
theorem dX10_noSheet_12 : decode cX10_noSheet 12 = .ok (.iconst 1, 1) := by decide +kernel
theorem dX10_noSheet_13 : decode cX10_noSheet 13 = .ok (.goto 4, 3) := by decide +kernel
theorem dX10_noSheet_16 : decode cX10_noSheet 16 = .ok (.iconst 0, 1) := by decide +kernel
theorem dX10_noSheet_17 : decode cX10_noSheet 17 = .ok (.ireturn, 1) := by decide +kernel
theorem dX10_sheet_0 : decode cX10_sheet 0 = .ok (.iload_n 1, 1) := by decide +kernel
theorem dX10_sheet_1 : decode cX10_sheet 1 = .ok (.invokestatic 95, 3) := by decide +kernel
theorem dX10_sheet_4 : decode cX10_sheet 4 = .ok (.ifCond .eq 9, 3) := by decide +kernel
theorem dX10_sheet_7 : decode cX10_sheet 7 = .ok (.aload_n 0, 1) := by decide +kernel
theorem dX10_sheet_8 : decode cX10_sheet 8 = .ok (.iconst (-1), 1) := by decide +kernel
theorem dX10_sheet_9 : decode cX10_sheet 9 = .ok (.invokevirtual 99, 3) := by decide +kernel
theorem dX10_sheet_12 : decode cX10_sheet 12 = .ok (.ireturn, 1) := by decide +kernel
theorem dX10_sheet_13 : decode cX10_sheet 13 = .ok (.iload_n 2, 1) := by decide +kernel
theorem dX10_sheet_14 : decode cX10_sheet 14 = .ok (.i2l, 1) := by decide +kernel
theorem dX10_sheet_15 : decode cX10_sheet 15 = .ok (.lconst 0, 1) := by decide +kernel
theorem dX10_sheet_16 : decode cX10_sheet 16 = .ok (.ldc2_w 103, 3) := by decide +kernel
theorem dX10_sheet_19 : decode cX10_sheet 19 = .ok (.invokestatic 105, 3) := by decide +kernel
theorem dX10_sheet_22 : decode cX10_sheet 22 = .ok (.ifCond .eq 9, 3) := by decide +kernel
theorem dX10_sheet_25 : decode cX10_sheet 25 = .ok (.iload_n 3, 1) := by decide +kernel
theorem dX10_sheet_26 : decode cX10_sheet 26 = .ok (.bipush 80, 2) := by decide +kernel
theorem dX10_sheet_28 : decode cX10_sheet 28 = .ok (.if_icmp .le 10, 3) := by decide +kernel
theorem dX10_sheet_31 : decode cX10_sheet 31 = .ok (.aload_n 0, 1) := by decide +kernel
theorem dX10_sheet_32 : decode cX10_sheet 32 = .ok (.bipush (-2), 2) := by decide +kernel
theorem dX10_sheet_34 : decode cX10_sheet 34 = .ok (.invokevirtual 99, 3) := by decide +kernel
theorem dX10_sheet_37 : decode cX10_sheet 37 = .ok (.ireturn, 1) := by decide +kernel
theorem dX10_sheet_38 : decode cX10_sheet 38 = .ok (.iload_n 3, 1) := by decide +kernel
theorem dX10_sheet_39 : decode cX10_sheet 39 = .ok (.ifCond .ge 9, 3) := by decide +kernel
theorem dX10_sheet_42 : decode cX10_sheet 42 = .ok (.aload_n 0, 1) := by decide +kernel
theorem dX10_sheet_43 : decode cX10_sheet 43 = .ok (.iconst 4, 1) := by decide +kernel
theorem dX10_sheet_44 : decode cX10_sheet 44 = .ok (.invokevirtual 109, 3) := by decide +kernel
theorem dX10_sheet_47 : decode cX10_sheet 47 = .ok (.ireturn, 1) := by decide +kernel
theorem dX10_sheet_48 : decode cX10_sheet 48 = .ok (.aload_n 0, 1) := by decide +kernel
theorem dX10_sheet_49 : decode cX10_sheet 49 = .ok (.getfield 73, 3) := by decide +kernel
theorem dX10_sheet_52 : decode cX10_sheet 52 = .ok (.iload_n 1, 1) := by decide +kernel
theorem dX10_sheet_53 : decode cX10_sheet 53 = .ok (.iload_n 3, 1) := by decide +kernel
theorem dX10_sheet_54 : decode cX10_sheet 54 = .ok (.iastore, 1) := by decide +kernel
theorem dX10_sheet_55 : decode cX10_sheet 55 = .ok (.aload_n 0, 1) := by decide +kernel
theorem dX10_sheet_56 : decode cX10_sheet 56 = .ok (.getfield 76, 3) := by decide +kernel
theorem dX10_sheet_59 : decode cX10_sheet 59 = .ok (.iload_n 1, 1) := by decide +kernel
theorem dX10_sheet_60 : decode cX10_sheet 60 = .ok (.iload_n 2, 1) := by decide +kernel
theorem dX10_sheet_61 : decode cX10_sheet 61 = .ok (.iastore, 1) := by decide +kernel
theorem dX10_sheet_62 : decode cX10_sheet 62 = .ok (.iconst 0, 1) := by decide +kernel
theorem dX10_sheet_63 : decode cX10_sheet 63 = .ok (.istore 4, 2) := by decide +kernel
theorem dX10_sheet_65 : decode cX10_sheet 65 = .ok (.iload 4, 2) := by decide +kernel
theorem dX10_sheet_67 : decode cX10_sheet 67 = .ok (.iload_n 3, 1) := by decide +kernel
theorem dX10_sheet_68 : decode cX10_sheet 68 = .ok (.if_icmp .ge 22, 3) := by decide +kernel
theorem dX10_sheet_71 : decode cX10_sheet 71 = .ok (.aload_n 0, 1) := by decide +kernel
theorem dX10_sheet_72 : decode cX10_sheet 72 = .ok (.getfield 79, 3) := by decide +kernel
theorem dX10_sheet_75 : decode cX10_sheet 75 = .ok (.bipush 80, 2) := by decide +kernel
theorem dX10_sheet_77 : decode cX10_sheet 77 = .ok (.iload_n 1, 1) := by decide +kernel
theorem dX10_sheet_78 : decode cX10_sheet 78 = .ok (.imul, 1) := by decide +kernel
theorem dX10_sheet_79 : decode cX10_sheet 79 = .ok (.iload 4, 2) := by decide +kernel
theorem dX10_sheet_81 : decode cX10_sheet 81 = .ok (.iadd, 1) := by decide +kernel
theorem dX10_sheet_82 : decode cX10_sheet 82 = .ok (.iconst 0, 1) := by decide +kernel
theorem dX10_sheet_83 : decode cX10_sheet 83 = .ok (.iastore, 1) := by decide +kernel
theorem dX10_sheet_84 : decode cX10_sheet 84 = .ok (.iinc 4 1, 3) := by decide +kernel
theorem dX10_sheet_87 : decode cX10_sheet 87 = .ok (.goto (-22), 3) := by decide +kernel
theorem dX10_sheet_90 : decode cX10_sheet 90 = .ok (.aload_n 0, 1) := by decide +kernel
theorem dX10_sheet_91 : decode cX10_sheet 91 = .ok (.iconst 1, 1) := by decide +kernel
theorem dX10_sheet_92 : decode cX10_sheet 92 = .ok (.invokevirtual 99, 3) := by decide +kernel
theorem dX10_sheet_95 : decode cX10_sheet 95 = .ok (.ireturn, 1) := by decide +kernel
theorem dX10_lose_0 : decode cX10_lose 0 = .ok (.iload_n 1, 1) := by decide +kernel
theorem dX10_lose_1 : decode cX10_lose 1 = .ok (.invokestatic 95, 3) := by decide +kernel
theorem dX10_lose_4 : decode cX10_lose 4 = .ok (.ifCond .eq 5, 3) := by decide +kernel
theorem dX10_lose_7 : decode cX10_lose 7 = .ok (.iconst (-1), 1) := by decide +kernel
theorem dX10_lose_8 : decode cX10_lose 8 = .ok (.ireturn, 1) := by decide +kernel
theorem dX10_lose_9 : decode cX10_lose 9 = .ok (.aload_n 0, 1) := by decide +kernel
theorem dX10_lose_10 : decode cX10_lose 10 = .ok (.getfield 73, 3) := by decide +kernel
theorem dX10_lose_13 : decode cX10_lose 13 = .ok (.iload_n 1, 1) := by decide +kernel
theorem dX10_lose_14 : decode cX10_lose 14 = .ok (.iaload, 1) := by decide +kernel
theorem dX10_lose_15 : decode cX10_lose 15 = .ok (.ifCond .ge 7, 3) := by decide +kernel
theorem dX10_lose_18 : decode cX10_lose 18 = .ok (.iconst 0, 1) := by decide +kernel
theorem dX10_lose_19 : decode cX10_lose 19 = .ok (.goto 4, 3) := by decide +kernel
theorem dX10_lose_22 : decode cX10_lose 22 = .ok (.iconst 1, 1) := by decide +kernel
theorem dX10_lose_23 : decode cX10_lose 23 = .ok (.istore_n 2, 1) := by decide +kernel
theorem dX10_lose_24 : decode cX10_lose 24 = .ok (.aload_n 0, 1) := by decide +kernel
theorem dX10_lose_25 : decode cX10_lose 25 = .ok (.getfield 73, 3) := by decide +kernel
theorem dX10_lose_28 : decode cX10_lose 28 = .ok (.iload_n 1, 1) := by decide +kernel
theorem dX10_lose_29 : decode cX10_lose 29 = .ok (.iconst (-1), 1) := by decide +kernel
theorem dX10_lose_30 : decode cX10_lose 30 = .ok (.iastore, 1) := by decide +kernel
theorem dX10_lose_31 : decode cX10_lose 31 = .ok (.iload_n 2, 1) := by decide +kernel
theorem dX10_lose_32 : decode cX10_lose 32 = .ok (.ireturn, 1) := by decide +kernel
theorem dX10_noCell_0 : decode cX10_noCell 0 = .ok (.aload_n 0, 1) := by decide +kernel
theorem dX10_noCell_1 : decode cX10_noCell 1 = .ok (.getfield 73, 3) := by decide +kernel
theorem dX10_noCell_4 : decode cX10_noCell 4 = .ok (.iload_n 1, 1) := by decide +kernel
theorem dX10_noCell_5 : decode cX10_noCell 5 = .ok (.iaload, 1) := by decide +kernel
theorem dX10_noCell_6 : decode cX10_noCell 6 = .ok (.ifCond .ge 7, 3) := by decide +kernel
theorem dX10_noCell_9 : decode cX10_noCell 9 = .ok (.iconst 1, 1) := by decide +kernel
theorem dX10_noCell_10 : decode cX10_noCell 10 = .ok (.goto 26, 3) := by decide +kernel
theorem dX10_noCell_13 : decode cX10_noCell 13 = .ok (.iload_n 2, 1) := by decide +kernel
theorem dX10_noCell_14 : decode cX10_noCell 14 = .ok (.i2l, 1) := by decide +kernel
theorem dX10_noCell_15 : decode cX10_noCell 15 = .ok (.lconst 0, 1) := by decide +kernel
theorem dX10_noCell_16 : decode cX10_noCell 16 = .ok (.aload_n 0, 1) := by decide +kernel
theorem dX10_noCell_17 : decode cX10_noCell 17 = .ok (.getfield 73, 3) := by decide +kernel
theorem dX10_noCell_20 : decode cX10_noCell 20 = .ok (.iload_n 1, 1) := by decide +kernel
theorem dX10_noCell_21 : decode cX10_noCell 21 = .ok (.iaload, 1) := by decide +kernel
theorem dX10_noCell_22 : decode cX10_noCell 22 = .ok (.i2l, 1) := by decide +kernel
theorem dX10_noCell_23 : decode cX10_noCell 23 = .ok (.lconst 1, 1) := by decide +kernel
theorem dX10_noCell_24 : decode cX10_noCell 24 = .ok (.lsub, 1) := by decide +kernel
theorem dX10_noCell_25 : decode cX10_noCell 25 = .ok (.invokestatic 105, 3) := by decide +kernel
theorem dX10_noCell_28 : decode cX10_noCell 28 = .ok (.ifCond .eq 7, 3) := by decide +kernel
theorem dX10_noCell_31 : decode cX10_noCell 31 = .ok (.iconst 0, 1) := by decide +kernel
theorem dX10_noCell_32 : decode cX10_noCell 32 = .ok (.goto 4, 3) := by decide +kernel
theorem dX10_noCell_35 : decode cX10_noCell 35 = .ok (.iconst 3, 1) := by decide +kernel
theorem dX10_noCell_36 : decode cX10_noCell 36 = .ok (.ireturn, 1) := by decide +kernel
theorem dX10_put_0 : decode cX10_put 0 = .ok (.iload_n 1, 1) := by decide +kernel
theorem dX10_put_1 : decode cX10_put 1 = .ok (.invokestatic 95, 3) := by decide +kernel
theorem dX10_put_4 : decode cX10_put 4 = .ok (.ifCond .eq 9, 3) := by decide +kernel
theorem dX10_put_7 : decode cX10_put 7 = .ok (.aload_n 0, 1) := by decide +kernel
theorem dX10_put_8 : decode cX10_put 8 = .ok (.iconst (-1), 1) := by decide +kernel
theorem dX10_put_9 : decode cX10_put 9 = .ok (.invokevirtual 99, 3) := by decide +kernel
theorem dX10_put_12 : decode cX10_put 12 = .ok (.ireturn, 1) := by decide +kernel
theorem dX10_put_13 : decode cX10_put 13 = .ok (.aload_n 0, 1) := by decide +kernel
theorem dX10_put_14 : decode cX10_put 14 = .ok (.iload_n 1, 1) := by decide +kernel
theorem dX10_put_15 : decode cX10_put 15 = .ok (.iload_n 2, 1) := by decide +kernel
theorem dX10_put_16 : decode cX10_put 16 = .ok (.invokevirtual 300, 3) := by decide +kernel
theorem dX10_put_19 : decode cX10_put 19 = .ok (.ifCond .le 14, 3) := by decide +kernel
theorem dX10_put_22 : decode cX10_put 22 = .ok (.aload_n 0, 1) := by decide +kernel
theorem dX10_put_23 : decode cX10_put 23 = .ok (.aload_n 0, 1) := by decide +kernel
theorem dX10_put_24 : decode cX10_put 24 = .ok (.iload_n 1, 1) := by decide +kernel
theorem dX10_put_25 : decode cX10_put 25 = .ok (.iload_n 2, 1) := by decide +kernel
theorem dX10_put_26 : decode cX10_put 26 = .ok (.invokevirtual 300, 3) := by decide +kernel
theorem dX10_put_29 : decode cX10_put 29 = .ok (.invokevirtual 109, 3) := by decide +kernel
theorem dX10_put_32 : decode cX10_put 32 = .ok (.ireturn, 1) := by decide +kernel
theorem dX10_put_33 : decode cX10_put 33 = .ok (.aload_n 0, 1) := by decide +kernel
theorem dX10_put_34 : decode cX10_put 34 = .ok (.getfield 79, 3) := by decide +kernel
theorem dX10_put_37 : decode cX10_put 37 = .ok (.bipush 80, 2) := by decide +kernel
theorem dX10_put_39 : decode cX10_put 39 = .ok (.iload_n 1, 1) := by decide +kernel
theorem dX10_put_40 : decode cX10_put 40 = .ok (.imul, 1) := by decide +kernel
theorem dX10_put_41 : decode cX10_put 41 = .ok (.iload_n 2, 1) := by decide +kernel
theorem dX10_put_42 : decode cX10_put 42 = .ok (.iadd, 1) := by decide +kernel
theorem dX10_put_43 : decode cX10_put 43 = .ok (.aload_n 0, 1) := by decide +kernel
theorem dX10_put_44 : decode cX10_put 44 = .ok (.getfield 76, 3) := by decide +kernel
theorem dX10_put_47 : decode cX10_put 47 = .ok (.iload_n 1, 1) := by decide +kernel
theorem dX10_put_48 : decode cX10_put 48 = .ok (.iaload, 1) := by decide +kernel
theorem dX10_put_49 : decode cX10_put 49 = .ok (.ifCond .ne 8, 3) := by decide +kernel
theorem dX10_put_52 : decode cX10_put 52 = .ok (.iload_n 3, 1) := by decide +kernel
theorem dX10_put_53 : decode cX10_put 53 = .ok (.i2b, 1) := by decide +kernel
theorem dX10_put_54 : decode cX10_put 54 = .ok (.goto 19, 3) := by decide +kernel
theorem dX10_put_57 : decode cX10_put 57 = .ok (.aload_n 0, 1) := by decide +kernel
theorem dX10_put_58 : decode cX10_put 58 = .ok (.getfield 76, 3) := by decide +kernel
theorem dX10_put_61 : decode cX10_put 61 = .ok (.iload_n 1, 1) := by decide +kernel
theorem dX10_put_62 : decode cX10_put 62 = .ok (.iaload, 1) := by decide +kernel
theorem dX10_put_63 : decode cX10_put 63 = .ok (.iconst 1, 1) := by decide +kernel
theorem dX10_put_64 : decode cX10_put 64 = .ok (.if_icmp .ne 8, 3) := by decide +kernel
theorem dX10_put_67 : decode cX10_put 67 = .ok (.iload_n 3, 1) := by decide +kernel
theorem dX10_put_68 : decode cX10_put 68 = .ok (.i2s, 1) := by decide +kernel
theorem dX10_put_69 : decode cX10_put 69 = .ok (.goto 4, 3) := by decide +kernel
theorem dX10_put_72 : decode cX10_put 72 = .ok (.iload_n 3, 1) := by decide +kernel
theorem dX10_put_73 : decode cX10_put 73 = .ok (.iastore, 1) := by decide +kernel
theorem dX10_put_74 : decode cX10_put 74 = .ok (.aload_n 0, 1) := by decide +kernel
theorem dX10_put_75 : decode cX10_put 75 = .ok (.iconst 1, 1) := by decide +kernel
theorem dX10_put_76 : decode cX10_put 76 = .ok (.invokevirtual 99, 3) := by decide +kernel
theorem dX10_put_79 : decode cX10_put 79 = .ok (.ireturn, 1) := by decide +kernel
theorem dX10_cell_0 : decode cX10_cell 0 = .ok (.aload_n 0, 1) := by decide +kernel
theorem dX10_cell_1 : decode cX10_cell 1 = .ok (.iconst 0, 1) := by decide +kernel
theorem dX10_cell_2 : decode cX10_cell 2 = .ok (.putfield 87, 3) := by decide +kernel
theorem dX10_cell_5 : decode cX10_cell 5 = .ok (.iload_n 1, 1) := by decide +kernel
theorem dX10_cell_6 : decode cX10_cell 6 = .ok (.invokestatic 95, 3) := by decide +kernel
theorem dX10_cell_9 : decode cX10_cell 9 = .ok (.ifCond .ne 15, 3) := by decide +kernel
theorem dX10_cell_12 : decode cX10_cell 12 = .ok (.iload_n 3, 1) := by decide +kernel
theorem dX10_cell_13 : decode cX10_cell 13 = .ok (.i2l, 1) := by decide +kernel
theorem dX10_cell_14 : decode cX10_cell 14 = .ok (.lconst 0, 1) := by decide +kernel
theorem dX10_cell_15 : decode cX10_cell 15 = .ok (.ldc2_w 103, 3) := by decide +kernel
theorem dX10_cell_18 : decode cX10_cell 18 = .ok (.invokestatic 105, 3) := by decide +kernel
theorem dX10_cell_21 : decode cX10_cell 21 = .ok (.ifCond .ne 7, 3) := by decide +kernel
theorem dX10_cell_24 : decode cX10_cell 24 = .ok (.invokestatic 91, 3) := by decide +kernel
theorem dX10_cell_27 : decode cX10_cell 27 = .ok (.lreturn, 1) := by decide +kernel
theorem dX10_cell_28 : decode cX10_cell 28 = .ok (.aload_n 0, 1) := by decide +kernel
theorem dX10_cell_29 : decode cX10_cell 29 = .ok (.getfield 73, 3) := by decide +kernel
theorem dX10_cell_32 : decode cX10_cell 32 = .ok (.iload_n 1, 1) := by decide +kernel
theorem dX10_cell_33 : decode cX10_cell 33 = .ok (.iaload, 1) := by decide +kernel
theorem dX10_cell_34 : decode cX10_cell 34 = .ok (.ifCond .lt 19, 3) := by decide +kernel
theorem dX10_cell_37 : decode cX10_cell 37 = .ok (.aload_n 0, 1) := by decide +kernel
theorem dX10_cell_38 : decode cX10_cell 38 = .ok (.getfield 76, 3) := by decide +kernel
theorem dX10_cell_41 : decode cX10_cell 41 = .ok (.iload_n 1, 1) := by decide +kernel
theorem dX10_cell_42 : decode cX10_cell 42 = .ok (.iaload, 1) := by decide +kernel
theorem dX10_cell_43 : decode cX10_cell 43 = .ok (.iload_n 3, 1) := by decide +kernel
theorem dX10_cell_44 : decode cX10_cell 44 = .ok (.if_icmp .eq 9, 3) := by decide +kernel
theorem dX10_cell_47 : decode cX10_cell 47 = .ok (.aload_n 0, 1) := by decide +kernel
theorem dX10_cell_48 : decode cX10_cell 48 = .ok (.iconst 2, 1) := by decide +kernel
theorem dX10_cell_49 : decode cX10_cell 49 = .ok (.invokevirtual 303, 3) := by decide +kernel
theorem dX10_cell_52 : decode cX10_cell 52 = .ok (.lreturn, 1) := by decide +kernel
theorem dX10_cell_53 : decode cX10_cell 53 = .ok (.aload_n 0, 1) := by decide +kernel
theorem dX10_cell_54 : decode cX10_cell 54 = .ok (.iload_n 1, 1) := by decide +kernel
theorem dX10_cell_55 : decode cX10_cell 55 = .ok (.iload_n 2, 1) := by decide +kernel
theorem dX10_cell_56 : decode cX10_cell 56 = .ok (.invokevirtual 300, 3) := by decide +kernel
theorem dX10_cell_59 : decode cX10_cell 59 = .ok (.ifCond .le 16, 3) := by decide +kernel
theorem dX10_cell_62 : decode cX10_cell 62 = .ok (.aload_n 0, 1) := by decide +kernel
theorem dX10_cell_63 : decode cX10_cell 63 = .ok (.aload_n 0, 1) := by decide +kernel
theorem dX10_cell_64 : decode cX10_cell 64 = .ok (.iload_n 1, 1) := by decide +kernel
theorem dX10_cell_65 : decode cX10_cell 65 = .ok (.iload_n 2, 1) := by decide +kernel
theorem dX10_cell_66 : decode cX10_cell 66 = .ok (.invokevirtual 300, 3) := by decide +kernel
theorem dX10_cell_69 : decode cX10_cell 69 = .ok (.invokevirtual 303, 3) := by decide +kernel
theorem dX10_cell_72 : decode cX10_cell 72 = .ok (.goto 15, 3) := by decide +kernel
theorem dX10_cell_75 : decode cX10_cell 75 = .ok (.aload_n 0, 1) := by decide +kernel
theorem dX10_cell_76 : decode cX10_cell 76 = .ok (.getfield 79, 3) := by decide +kernel
theorem dX10_cell_79 : decode cX10_cell 79 = .ok (.bipush 80, 2) := by decide +kernel
theorem dX10_cell_81 : decode cX10_cell 81 = .ok (.iload_n 1, 1) := by decide +kernel
theorem dX10_cell_82 : decode cX10_cell 82 = .ok (.imul, 1) := by decide +kernel
theorem dX10_cell_83 : decode cX10_cell 83 = .ok (.iload_n 2, 1) := by decide +kernel
theorem dX10_cell_84 : decode cX10_cell 84 = .ok (.iadd, 1) := by decide +kernel
theorem dX10_cell_85 : decode cX10_cell 85 = .ok (.iaload, 1) := by decide +kernel
theorem dX10_cell_86 : decode cX10_cell 86 = .ok (.i2l, 1) := by decide +kernel
theorem dX10_cell_87 : decode cX10_cell 87 = .ok (.lreturn, 1) := by decide +kernel
theorem dX10_isBeyond_0 : decode cX10_isBeyond 0 = .ok (.iload_n 0, 1) := by decide +kernel
theorem dX10_isBeyond_1 : decode cX10_isBeyond 1 = .ok (.ifCond .lt 19, 3) := by decide +kernel
theorem dX10_isBeyond_4 : decode cX10_isBeyond 4 = .ok (.lload_n 1, 1) := by decide +kernel
theorem dX10_isBeyond_5 : decode cX10_isBeyond 5 = .ok (.lconst 0, 1) := by decide +kernel
theorem dX10_isBeyond_6 : decode cX10_isBeyond 6 = .ok (.lcmp, 1) := by decide +kernel
theorem dX10_isBeyond_7 : decode cX10_isBeyond 7 = .ok (.ifCond .lt 13, 3) := by decide +kernel
theorem dX10_isBeyond_10 : decode cX10_isBeyond 10 = .ok (.iload_n 0, 1) := by decide +kernel
theorem dX10_isBeyond_11 : decode cX10_isBeyond 11 = .ok (.i2l, 1) := by decide +kernel
theorem dX10_isBeyond_12 : decode cX10_isBeyond 12 = .ok (.lload_n 1, 1) := by decide +kernel
theorem dX10_isBeyond_13 : decode cX10_isBeyond 13 = .ok (.ladd, 1) := by decide +kernel
theorem dX10_isBeyond_14 : decode cX10_isBeyond 14 = .ok (.iload_n 3, 1) := by decide +kernel
theorem dX10_isBeyond_15 : decode cX10_isBeyond 15 = .ok (.i2l, 1) := by decide +kernel
theorem dX10_isBeyond_16 : decode cX10_isBeyond 16 = .ok (.lcmp, 1) := by decide +kernel
theorem dX10_isBeyond_17 : decode cX10_isBeyond 17 = .ok (.ifCond .le 7, 3) := by decide +kernel
theorem dX10_isBeyond_20 : decode cX10_isBeyond 20 = .ok (.iconst 1, 1) := by decide +kernel
theorem dX10_isBeyond_21 : decode cX10_isBeyond 21 = .ok (.goto 4, 3) := by decide +kernel
theorem dX10_isBeyond_24 : decode cX10_isBeyond 24 = .ok (.iconst 0, 1) := by decide +kernel
theorem dX10_isBeyond_25 : decode cX10_isBeyond 25 = .ok (.ireturn, 1) := by decide +kernel
theorem dX10_copy_0 : decode cX10_copy 0 = .ok (.iload_n 1, 1) := by decide +kernel
theorem dX10_copy_1 : decode cX10_copy 1 = .ok (.invokestatic 95, 3) := by decide +kernel
theorem dX10_copy_4 : decode cX10_copy 4 = .ok (.ifCond .ne 10, 3) := by decide +kernel
theorem dX10_copy_7 : decode cX10_copy 7 = .ok (.iload_n 3, 1) := by decide +kernel
theorem dX10_copy_8 : decode cX10_copy 8 = .ok (.invokestatic 95, 3) := by decide +kernel
theorem dX10_copy_11 : decode cX10_copy 11 = .ok (.ifCond .eq 9, 3) := by decide +kernel
theorem dX10_copy_14 : decode cX10_copy 14 = .ok (.aload_n 0, 1) := by decide +kernel
theorem dX10_copy_15 : decode cX10_copy 15 = .ok (.iconst (-1), 1) := by decide +kernel
theorem dX10_copy_16 : decode cX10_copy 16 = .ok (.invokevirtual 99, 3) := by decide +kernel
theorem dX10_copy_19 : decode cX10_copy 19 = .ok (.ireturn, 1) := by decide +kernel
theorem dX10_copy_20 : decode cX10_copy 20 = .ok (.aload_n 0, 1) := by decide +kernel
theorem dX10_copy_21 : decode cX10_copy 21 = .ok (.getfield 73, 3) := by decide +kernel
theorem dX10_copy_24 : decode cX10_copy 24 = .ok (.iload_n 1, 1) := by decide +kernel
theorem dX10_copy_25 : decode cX10_copy 25 = .ok (.iaload, 1) := by decide +kernel
theorem dX10_copy_26 : decode cX10_copy 26 = .ok (.ifCond .lt 12, 3) := by decide +kernel
theorem dX10_copy_29 : decode cX10_copy 29 = .ok (.aload_n 0, 1) := by decide +kernel
theorem dX10_copy_30 : decode cX10_copy 30 = .ok (.getfield 73, 3) := by decide +kernel
theorem dX10_copy_33 : decode cX10_copy 33 = .ok (.iload_n 3, 1) := by decide +kernel
theorem dX10_copy_34 : decode cX10_copy 34 = .ok (.iaload, 1) := by decide +kernel
theorem dX10_copy_35 : decode cX10_copy 35 = .ok (.ifCond .ge 9, 3) := by decide +kernel
theorem dX10_copy_38 : decode cX10_copy 38 = .ok (.aload_n 0, 1) := by decide +kernel
theorem dX10_copy_39 : decode cX10_copy 39 = .ok (.iconst 1, 1) := by decide +kernel
theorem dX10_copy_40 : decode cX10_copy 40 = .ok (.invokevirtual 109, 3) := by decide +kernel
theorem dX10_copy_43 : decode cX10_copy 43 = .ok (.ireturn, 1) := by decide +kernel
theorem dX10_copy_44 : decode cX10_copy 44 = .ok (.aload_n 0, 1) := by decide +kernel
theorem dX10_copy_45 : decode cX10_copy 45 = .ok (.getfield 76, 3) := by decide +kernel
theorem dX10_copy_48 : decode cX10_copy 48 = .ok (.iload_n 1, 1) := by decide +kernel
theorem dX10_copy_49 : decode cX10_copy 49 = .ok (.iaload, 1) := by decide +kernel
theorem dX10_copy_50 : decode cX10_copy 50 = .ok (.aload_n 0, 1) := by decide +kernel
theorem dX10_copy_51 : decode cX10_copy 51 = .ok (.getfield 76, 3) := by decide +kernel
theorem dX10_copy_54 : decode cX10_copy 54 = .ok (.iload_n 3, 1) := by decide +kernel
theorem dX10_copy_55 : decode cX10_copy 55 = .ok (.iaload, 1) := by decide +kernel
theorem dX10_copy_56 : decode cX10_copy 56 = .ok (.if_icmp .eq 9, 3) := by decide +kernel
theorem dX10_copy_59 : decode cX10_copy 59 = .ok (.aload_n 0, 1) := by decide +kernel
theorem dX10_copy_60 : decode cX10_copy 60 = .ok (.iconst 2, 1) := by decide +kernel
theorem dX10_copy_61 : decode cX10_copy 61 = .ok (.invokevirtual 109, 3) := by decide +kernel
theorem dX10_copy_64 : decode cX10_copy 64 = .ok (.ireturn, 1) := by decide +kernel
theorem dX10_copy_65 : decode cX10_copy 65 = .ok (.iload_n 2, 1) := by decide +kernel
theorem dX10_copy_66 : decode cX10_copy 66 = .ok (.iload 5, 2) := by decide +kernel
theorem dX10_copy_68 : decode cX10_copy 68 = .ok (.i2l, 1) := by decide +kernel
theorem dX10_copy_69 : decode cX10_copy 69 = .ok (.aload_n 0, 1) := by decide +kernel
theorem dX10_copy_70 : decode cX10_copy 70 = .ok (.getfield 73, 3) := by decide +kernel
theorem dX10_copy_73 : decode cX10_copy 73 = .ok (.iload_n 1, 1) := by decide +kernel
theorem dX10_copy_74 : decode cX10_copy 74 = .ok (.iaload, 1) := by decide +kernel
theorem dX10_copy_75 : decode cX10_copy 75 = .ok (.invokestatic 112, 3) := by decide +kernel
theorem dX10_copy_78 : decode cX10_copy 78 = .ok (.ifCond .ne 20, 3) := by decide +kernel
theorem dX10_copy_81 : decode cX10_copy 81 = .ok (.iload 4, 2) := by decide +kernel
theorem dX10_copy_83 : decode cX10_copy 83 = .ok (.iload 5, 2) := by decide +kernel
theorem dX10_copy_85 : decode cX10_copy 85 = .ok (.i2l, 1) := by decide +kernel
theorem dX10_copy_86 : decode cX10_copy 86 = .ok (.aload_n 0, 1) := by decide +kernel
theorem dX10_copy_87 : decode cX10_copy 87 = .ok (.getfield 73, 3) := by decide +kernel
theorem dX10_copy_90 : decode cX10_copy 90 = .ok (.iload_n 3, 1) := by decide +kernel
theorem dX10_copy_91 : decode cX10_copy 91 = .ok (.iaload, 1) := by decide +kernel
theorem dX10_copy_92 : decode cX10_copy 92 = .ok (.invokestatic 112, 3) := by decide +kernel
theorem dX10_copy_95 : decode cX10_copy 95 = .ok (.ifCond .eq 9, 3) := by decide +kernel
theorem dX10_copy_98 : decode cX10_copy 98 = .ok (.aload_n 0, 1) := by decide +kernel
theorem dX10_copy_99 : decode cX10_copy 99 = .ok (.iconst 3, 1) := by decide +kernel
theorem dX10_copy_100 : decode cX10_copy 100 = .ok (.invokevirtual 109, 3) := by decide +kernel
theorem dX10_copy_103 : decode cX10_copy 103 = .ok (.ireturn, 1) := by decide +kernel
theorem dX10_copy_104 : decode cX10_copy 104 = .ok (.iconst 0, 1) := by decide +kernel
theorem dX10_copy_105 : decode cX10_copy 105 = .ok (.istore 6, 2) := by decide +kernel
theorem dX10_copy_107 : decode cX10_copy 107 = .ok (.iload 6, 2) := by decide +kernel
theorem dX10_copy_109 : decode cX10_copy 109 = .ok (.iload 5, 2) := by decide +kernel
theorem dX10_copy_111 : decode cX10_copy 111 = .ok (.if_icmp .ge 30, 3) := by decide +kernel
theorem dX10_copy_114 : decode cX10_copy 114 = .ok (.aload_n 0, 1) := by decide +kernel
theorem dX10_copy_115 : decode cX10_copy 115 = .ok (.getfield 82, 3) := by decide +kernel
theorem dX10_copy_118 : decode cX10_copy 118 = .ok (.iload 6, 2) := by decide +kernel
theorem dX10_copy_120 : decode cX10_copy 120 = .ok (.aload_n 0, 1) := by decide +kernel
theorem dX10_copy_121 : decode cX10_copy 121 = .ok (.getfield 79, 3) := by decide +kernel
theorem dX10_copy_124 : decode cX10_copy 124 = .ok (.bipush 80, 2) := by decide +kernel
theorem dX10_copy_126 : decode cX10_copy 126 = .ok (.iload_n 1, 1) := by decide +kernel
theorem dX10_copy_127 : decode cX10_copy 127 = .ok (.imul, 1) := by decide +kernel
theorem dX10_copy_128 : decode cX10_copy 128 = .ok (.iload_n 2, 1) := by decide +kernel
theorem dX10_copy_129 : decode cX10_copy 129 = .ok (.iadd, 1) := by decide +kernel
theorem dX10_copy_130 : decode cX10_copy 130 = .ok (.iload 6, 2) := by decide +kernel
theorem dX10_copy_132 : decode cX10_copy 132 = .ok (.iadd, 1) := by decide +kernel
theorem dX10_copy_133 : decode cX10_copy 133 = .ok (.iaload, 1) := by decide +kernel
theorem dX10_copy_134 : decode cX10_copy 134 = .ok (.iastore, 1) := by decide +kernel
theorem dX10_copy_135 : decode cX10_copy 135 = .ok (.iinc 6 1, 3) := by decide +kernel
theorem dX10_copy_138 : decode cX10_copy 138 = .ok (.goto (-31), 3) := by decide +kernel
theorem dX10_copy_141 : decode cX10_copy 141 = .ok (.iconst 0, 1) := by decide +kernel
theorem dX10_copy_142 : decode cX10_copy 142 = .ok (.istore 6, 2) := by decide +kernel
theorem dX10_copy_144 : decode cX10_copy 144 = .ok (.iload 6, 2) := by decide +kernel
theorem dX10_copy_146 : decode cX10_copy 146 = .ok (.iload 5, 2) := by decide +kernel
theorem dX10_copy_148 : decode cX10_copy 148 = .ok (.if_icmp .ge 31, 3) := by decide +kernel
theorem dX10_copy_151 : decode cX10_copy 151 = .ok (.aload_n 0, 1) := by decide +kernel
theorem dX10_copy_152 : decode cX10_copy 152 = .ok (.getfield 79, 3) := by decide +kernel
theorem dX10_copy_155 : decode cX10_copy 155 = .ok (.bipush 80, 2) := by decide +kernel
theorem dX10_copy_157 : decode cX10_copy 157 = .ok (.iload_n 3, 1) := by decide +kernel
theorem dX10_copy_158 : decode cX10_copy 158 = .ok (.imul, 1) := by decide +kernel
theorem dX10_copy_159 : decode cX10_copy 159 = .ok (.iload 4, 2) := by decide +kernel
theorem dX10_copy_161 : decode cX10_copy 161 = .ok (.iadd, 1) := by decide +kernel
theorem dX10_copy_162 : decode cX10_copy 162 = .ok (.iload 6, 2) := by decide +kernel
theorem dX10_copy_164 : decode cX10_copy 164 = .ok (.iadd, 1) := by decide +kernel
theorem dX10_copy_165 : decode cX10_copy 165 = .ok (.aload_n 0, 1) := by decide +kernel
theorem dX10_copy_166 : decode cX10_copy 166 = .ok (.getfield 82, 3) := by decide +kernel
theorem dX10_copy_169 : decode cX10_copy 169 = .ok (.iload 6, 2) := by decide +kernel
theorem dX10_copy_171 : decode cX10_copy 171 = .ok (.iaload, 1) := by decide +kernel
theorem dX10_copy_172 : decode cX10_copy 172 = .ok (.iastore, 1) := by decide +kernel
theorem dX10_copy_173 : decode cX10_copy 173 = .ok (.iinc 6 1, 3) := by decide +kernel
theorem dX10_copy_176 : decode cX10_copy 176 = .ok (.goto (-32), 3) := by decide +kernel
theorem dX10_copy_179 : decode cX10_copy 179 = .ok (.aload_n 0, 1) := by decide +kernel
theorem dX10_copy_180 : decode cX10_copy 180 = .ok (.iload 5, 2) := by decide +kernel
theorem dX10_copy_182 : decode cX10_copy 182 = .ok (.invokevirtual 99, 3) := by decide +kernel
theorem dX10_copy_185 : decode cX10_copy 185 = .ok (.ireturn, 1) := by decide +kernel
theorem dX10_traced_0 : decode cX10_traced 0 = .ok (.aload_n 0, 1) := by decide +kernel
theorem dX10_traced_1 : decode cX10_traced 1 = .ok (.bipush 31, 2) := by decide +kernel
theorem dX10_traced_3 : decode cX10_traced 3 = .ok (.aload_n 0, 1) := by decide +kernel
theorem dX10_traced_4 : decode cX10_traced 4 = .ok (.getfield 307, 3) := by decide +kernel
theorem dX10_traced_7 : decode cX10_traced 7 = .ok (.imul, 1) := by decide +kernel
theorem dX10_traced_8 : decode cX10_traced 8 = .ok (.iload_n 1, 1) := by decide +kernel
theorem dX10_traced_9 : decode cX10_traced 9 = .ok (.iadd, 1) := by decide +kernel
theorem dX10_traced_10 : decode cX10_traced 10 = .ok (.putfield 307, 3) := by decide +kernel
theorem dX10_traced_13 : decode cX10_traced 13 = .ok (.return_, 1) := by decide +kernel
theorem dX10_tell_0 : decode cX10_tell 0 = .ok (.aload_n 0, 1) := by decide +kernel
theorem dX10_tell_1 : decode cX10_tell 1 = .ok (.iload_n 1, 1) := by decide +kernel
theorem dX10_tell_2 : decode cX10_tell 2 = .ok (.invokevirtual 151, 3) := by decide +kernel
theorem dX10_tell_5 : decode cX10_tell 5 = .ok (.ifCond .eq 5, 3) := by decide +kernel
theorem dX10_tell_8 : decode cX10_tell 8 = .ok (.iconst (-1), 1) := by decide +kernel
theorem dX10_tell_9 : decode cX10_tell 9 = .ok (.ireturn, 1) := by decide +kernel
theorem dX10_tell_10 : decode cX10_tell 10 = .ok (.aload_n 0, 1) := by decide +kernel
theorem dX10_tell_11 : decode cX10_tell 11 = .ok (.getfield 7, 3) := by decide +kernel
theorem dX10_tell_14 : decode cX10_tell 14 = .ok (.iload_n 1, 1) := by decide +kernel
theorem dX10_tell_15 : decode cX10_tell 15 = .ok (.iaload, 1) := by decide +kernel
theorem dX10_tell_16 : decode cX10_tell 16 = .ok (.istore_n 2, 1) := by decide +kernel
theorem dX10_tell_17 : decode cX10_tell 17 = .ok (.iload_n 2, 1) := by decide +kernel
theorem dX10_tell_18 : decode cX10_tell 18 = .ok (.iconst 2, 1) := by decide +kernel
theorem dX10_tell_19 : decode cX10_tell 19 = .ok (.if_icmp .ne 8, 3) := by decide +kernel
theorem dX10_tell_22 : decode cX10_tell 22 = .ok (.aload_n 0, 1) := by decide +kernel
theorem dX10_tell_23 : decode cX10_tell 23 = .ok (.iconst 3, 1) := by decide +kernel
theorem dX10_tell_24 : decode cX10_tell 24 = .ok (.invokevirtual 310, 3) := by decide +kernel
theorem dX10_tell_27 : decode cX10_tell 27 = .ok (.iload_n 2, 1) := by decide +kernel
theorem dX10_tell_28 : decode cX10_tell 28 = .ok (.ifCond .le 8, 3) := by decide +kernel
theorem dX10_tell_31 : decode cX10_tell 31 = .ok (.aload_n 0, 1) := by decide +kernel
theorem dX10_tell_32 : decode cX10_tell 32 = .ok (.iconst 2, 1) := by decide +kernel
theorem dX10_tell_33 : decode cX10_tell 33 = .ok (.invokevirtual 310, 3) := by decide +kernel
theorem dX10_tell_36 : decode cX10_tell 36 = .ok (.aload_n 0, 1) := by decide +kernel
theorem dX10_tell_37 : decode cX10_tell 37 = .ok (.iconst 1, 1) := by decide +kernel
theorem dX10_tell_38 : decode cX10_tell 38 = .ok (.invokevirtual 310, 3) := by decide +kernel
theorem dX10_tell_41 : decode cX10_tell 41 = .ok (.iload_n 2, 1) := by decide +kernel
theorem dX10_tell_42 : decode cX10_tell 42 = .ok (.iconst 2, 1) := by decide +kernel
theorem dX10_tell_43 : decode cX10_tell 43 = .ok (.if_icmp .ne 8, 3) := by decide +kernel
theorem dX10_tell_46 : decode cX10_tell 46 = .ok (.aload_n 0, 1) := by decide +kernel
theorem dX10_tell_47 : decode cX10_tell 47 = .ok (.iconst 1, 1) := by decide +kernel
theorem dX10_tell_48 : decode cX10_tell 48 = .ok (.invokevirtual 310, 3) := by decide +kernel
theorem dX10_tell_51 : decode cX10_tell 51 = .ok (.aload_n 0, 1) := by decide +kernel
theorem dX10_tell_52 : decode cX10_tell 52 = .ok (.getfield 22, 3) := by decide +kernel
theorem dX10_tell_55 : decode cX10_tell 55 = .ok (.iload_n 1, 1) := by decide +kernel
theorem dX10_tell_56 : decode cX10_tell 56 = .ok (.iaload, 1) := by decide +kernel
theorem dX10_tell_57 : decode cX10_tell 57 = .ok (.istore_n 3, 1) := by decide +kernel
theorem dX10_tell_58 : decode cX10_tell 58 = .ok (.iload_n 2, 1) := by decide +kernel
theorem dX10_tell_59 : decode cX10_tell 59 = .ok (.ifCond .ne 7, 3) := by decide +kernel
theorem dX10_tell_62 : decode cX10_tell 62 = .ok (.iload_n 3, 1) := by decide +kernel
theorem dX10_tell_63 : decode cX10_tell 63 = .ok (.goto 21, 3) := by decide +kernel
theorem dX10_tell_66 : decode cX10_tell 66 = .ok (.iload_n 2, 1) := by decide +kernel
theorem dX10_tell_67 : decode cX10_tell 67 = .ok (.iconst 1, 1) := by decide +kernel
theorem dX10_tell_68 : decode cX10_tell 68 = .ok (.if_icmp .ne 10, 3) := by decide +kernel
theorem dX10_tell_71 : decode cX10_tell 71 = .ok (.iload_n 3, 1) := by decide +kernel
theorem dX10_tell_72 : decode cX10_tell 72 = .ok (.bipush 100, 2) := by decide +kernel
theorem dX10_tell_74 : decode cX10_tell 74 = .ok (.iadd, 1) := by decide +kernel
theorem dX10_tell_75 : decode cX10_tell 75 = .ok (.goto 9, 3) := by decide +kernel
theorem dX10_tell_78 : decode cX10_tell 78 = .ok (.iconst 2, 1) := by decide +kernel
theorem dX10_tell_79 : decode cX10_tell 79 = .ok (.iload_n 3, 1) := by decide +kernel
theorem dX10_tell_80 : decode cX10_tell 80 = .ok (.imul, 1) := by decide +kernel
theorem dX10_tell_81 : decode cX10_tell 81 = .ok (.bipush 100, 2) := by decide +kernel
theorem dX10_tell_83 : decode cX10_tell 83 = .ok (.iadd, 1) := by decide +kernel
theorem dX10_tell_84 : decode cX10_tell 84 = .ok (.ireturn, 1) := by decide +kernel
theorem dX10_joint_0 : decode cX10_joint 0 = .ok (.aload_n 0, 1) := by decide +kernel
theorem dX10_joint_1 : decode cX10_joint 1 = .ok (.iload_n 1, 1) := by decide +kernel
theorem dX10_joint_2 : decode cX10_joint 2 = .ok (.invokevirtual 151, 3) := by decide +kernel
theorem dX10_joint_5 : decode cX10_joint 5 = .ok (.ifCond .eq 5, 3) := by decide +kernel
theorem dX10_joint_8 : decode cX10_joint 8 = .ok (.iconst (-1), 1) := by decide +kernel
theorem dX10_joint_9 : decode cX10_joint 9 = .ok (.ireturn, 1) := by decide +kernel
theorem dX10_joint_10 : decode cX10_joint 10 = .ok (.aload_n 0, 1) := by decide +kernel
theorem dX10_joint_11 : decode cX10_joint 11 = .ok (.aload_n 0, 1) := by decide +kernel
theorem dX10_joint_12 : decode cX10_joint 12 = .ok (.getfield 7, 3) := by decide +kernel
theorem dX10_joint_15 : decode cX10_joint 15 = .ok (.iload_n 1, 1) := by decide +kernel
theorem dX10_joint_16 : decode cX10_joint 16 = .ok (.iaload, 1) := by decide +kernel
theorem dX10_joint_17 : decode cX10_joint 17 = .ok (.iconst 2, 1) := by decide +kernel
theorem dX10_joint_18 : decode cX10_joint 18 = .ok (.if_icmp .ne 7, 3) := by decide +kernel
theorem dX10_joint_21 : decode cX10_joint 21 = .ok (.iconst 5, 1) := by decide +kernel
theorem dX10_joint_22 : decode cX10_joint 22 = .ok (.goto 4, 3) := by decide +kernel
theorem dX10_joint_25 : decode cX10_joint 25 = .ok (.iconst 4, 1) := by decide +kernel
theorem dX10_joint_26 : decode cX10_joint 26 = .ok (.invokevirtual 310, 3) := by decide +kernel
theorem dX10_joint_29 : decode cX10_joint 29 = .ok (.aload_n 0, 1) := by decide +kernel
theorem dX10_joint_30 : decode cX10_joint 30 = .ok (.getfield 7, 3) := by decide +kernel
theorem dX10_joint_33 : decode cX10_joint 33 = .ok (.iload_n 1, 1) := by decide +kernel
theorem dX10_joint_34 : decode cX10_joint 34 = .ok (.iaload, 1) := by decide +kernel
theorem dX10_joint_35 : decode cX10_joint 35 = .ok (.iconst 2, 1) := by decide +kernel
theorem dX10_joint_36 : decode cX10_joint 36 = .ok (.if_icmp .ne 8, 3) := by decide +kernel
theorem dX10_joint_39 : decode cX10_joint 39 = .ok (.bipush 70, 2) := by decide +kernel
theorem dX10_joint_41 : decode cX10_joint 41 = .ok (.goto 4, 3) := by decide +kernel
theorem dX10_joint_44 : decode cX10_joint 44 = .ok (.iload_n 1, 1) := by decide +kernel
theorem dX10_joint_45 : decode cX10_joint 45 = .ok (.ireturn, 1) := by decide +kernel
theorem dX10_as_0 : decode cX10_as 0 = .ok (.aload_n 0, 1) := by decide +kernel
theorem dX10_as_1 : decode cX10_as 1 = .ok (.iload_n 1, 1) := by decide +kernel
theorem dX10_as_2 : decode cX10_as 2 = .ok (.invokevirtual 151, 3) := by decide +kernel
theorem dX10_as_5 : decode cX10_as 5 = .ok (.ifCond .eq 9, 3) := by decide +kernel
theorem dX10_as_8 : decode cX10_as 8 = .ok (.aload_n 0, 1) := by decide +kernel
theorem dX10_as_9 : decode cX10_as 9 = .ok (.iconst (-1), 1) := by decide +kernel
theorem dX10_as_10 : decode cX10_as 10 = .ok (.invokevirtual 99, 3) := by decide +kernel
theorem dX10_as_13 : decode cX10_as 13 = .ok (.ireturn, 1) := by decide +kernel
theorem dX10_as_14 : decode cX10_as 14 = .ok (.iload_n 2, 1) := by decide +kernel
theorem dX10_as_15 : decode cX10_as 15 = .ok (.i2l, 1) := by decide +kernel
theorem dX10_as_16 : decode cX10_as 16 = .ok (.lconst 0, 1) := by decide +kernel
theorem dX10_as_17 : decode cX10_as 17 = .ok (.ldc2_w 103, 3) := by decide +kernel
theorem dX10_as_20 : decode cX10_as 20 = .ok (.invokestatic 105, 3) := by decide +kernel
theorem dX10_as_23 : decode cX10_as 23 = .ok (.ifCond .ne 10, 3) := by decide +kernel
theorem dX10_as_26 : decode cX10_as 26 = .ok (.aload_n 0, 1) := by decide +kernel
theorem dX10_as_27 : decode cX10_as 27 = .ok (.bipush (-2), 2) := by decide +kernel
theorem dX10_as_29 : decode cX10_as 29 = .ok (.invokevirtual 99, 3) := by decide +kernel
theorem dX10_as_32 : decode cX10_as 32 = .ok (.ireturn, 1) := by decide +kernel
theorem dX10_as_33 : decode cX10_as 33 = .ok (.aload_n 0, 1) := by decide +kernel
theorem dX10_as_34 : decode cX10_as 34 = .ok (.getfield 7, 3) := by decide +kernel
theorem dX10_as_37 : decode cX10_as 37 = .ok (.iload_n 1, 1) := by decide +kernel
theorem dX10_as_38 : decode cX10_as 38 = .ok (.iaload, 1) := by decide +kernel
theorem dX10_as_39 : decode cX10_as 39 = .ok (.iload_n 2, 1) := by decide +kernel
theorem dX10_as_40 : decode cX10_as 40 = .ok (.if_icmp .lt 11, 3) := by decide +kernel
theorem dX10_as_43 : decode cX10_as 43 = .ok (.aload_n 0, 1) := by decide +kernel
theorem dX10_as_44 : decode cX10_as 44 = .ok (.iconst 1, 1) := by decide +kernel
theorem dX10_as_45 : decode cX10_as 45 = .ok (.invokevirtual 99, 3) := by decide +kernel
theorem dX10_as_48 : decode cX10_as 48 = .ok (.goto 8, 3) := by decide +kernel
theorem dX10_as_51 : decode cX10_as 51 = .ok (.aload_n 0, 1) := by decide +kernel
theorem dX10_as_52 : decode cX10_as 52 = .ok (.iconst 2, 1) := by decide +kernel
theorem dX10_as_53 : decode cX10_as 53 = .ok (.invokevirtual 109, 3) := by decide +kernel
theorem dX10_as_56 : decode cX10_as 56 = .ok (.ireturn, 1) := by decide +kernel
theorem dX10_trace_0 : decode cX10_trace 0 = .ok (.aload_n 0, 1) := by decide +kernel
theorem dX10_trace_1 : decode cX10_trace 1 = .ok (.getfield 307, 3) := by decide +kernel
theorem dX10_trace_4 : decode cX10_trace 4 = .ok (.ireturn, 1) := by decide +kernel
theorem dX10_fault_0 : decode cX10_fault 0 = .ok (.aload_n 0, 1) := by decide +kernel
theorem dX10_fault_1 : decode cX10_fault 1 = .ok (.getfield 87, 3) := by decide +kernel
theorem dX10_fault_4 : decode cX10_fault 4 = .ok (.ireturn, 1) := by decide +kernel
theorem dX10_many_0 : decode cX10_many 0 = .ok (.aload_n 0, 1) := by decide +kernel
theorem dX10_many_1 : decode cX10_many 1 = .ok (.invokevirtual 210, 3) := by decide +kernel
theorem dX10_many_4 : decode cX10_many 4 = .ok (.iload_n 1, 1) := by decide +kernel
theorem dX10_many_5 : decode cX10_many 5 = .ok (.tableswitch 60 0 4 #[35, 40, 45, 50, 55], 35) := by decide +kernel
theorem dX10_many_40 : decode cX10_many 40 = .ok (.aload_n 0, 1) := by decide +kernel
theorem dX10_many_41 : decode cX10_many 41 = .ok (.getfield 116, 3) := by decide +kernel
theorem dX10_many_44 : decode cX10_many 44 = .ok (.ireturn, 1) := by decide +kernel
theorem dX10_many_45 : decode cX10_many 45 = .ok (.aload_n 0, 1) := by decide +kernel
theorem dX10_many_46 : decode cX10_many 46 = .ok (.getfield 172, 3) := by decide +kernel
theorem dX10_many_49 : decode cX10_many 49 = .ok (.ireturn, 1) := by decide +kernel
theorem dX10_many_50 : decode cX10_many 50 = .ok (.aload_n 0, 1) := by decide +kernel
theorem dX10_many_51 : decode cX10_many 51 = .ok (.getfield 142, 3) := by decide +kernel
theorem dX10_many_54 : decode cX10_many 54 = .ok (.ireturn, 1) := by decide +kernel
theorem dX10_many_55 : decode cX10_many 55 = .ok (.aload_n 0, 1) := by decide +kernel
theorem dX10_many_56 : decode cX10_many 56 = .ok (.getfield 145, 3) := by decide +kernel
theorem dX10_many_59 : decode cX10_many 59 = .ok (.ireturn, 1) := by decide +kernel
theorem dX10_many_60 : decode cX10_many 60 = .ok (.aload_n 0, 1) := by decide +kernel
theorem dX10_many_61 : decode cX10_many 61 = .ok (.getfield 201, 3) := by decide +kernel
theorem dX10_many_64 : decode cX10_many 64 = .ok (.ireturn, 1) := by decide +kernel
theorem dX10_many_65 : decode cX10_many 65 = .ok (.bipush (-2), 2) := by decide +kernel
theorem dX10_many_67 : decode cX10_many 67 = .ok (.ireturn, 1) := by decide +kernel
theorem dJ6_bitCount_0f7a4_0 : decode cJ6_bitCount_0f7a4 0 = .ok (.iload_n 0, 1) := by decide +kernel
theorem dJ6_bitCount_0f7a4_1 : decode cJ6_bitCount_0f7a4 1 = .ok (.iload_n 0, 1) := by decide +kernel
theorem dJ6_bitCount_0f7a4_2 : decode cJ6_bitCount_0f7a4 2 = .ok (.iconst 1, 1) := by decide +kernel
theorem dJ6_bitCount_0f7a4_3 : decode cJ6_bitCount_0f7a4 3 = .ok (.iushr, 1) := by decide +kernel
theorem dJ6_bitCount_0f7a4_4 : decode cJ6_bitCount_0f7a4 4 = .ok (.ldc_w 265, 3) := by decide +kernel
theorem dJ6_bitCount_0f7a4_7 : decode cJ6_bitCount_0f7a4 7 = .ok (.iand, 1) := by decide +kernel
theorem dJ6_bitCount_0f7a4_8 : decode cJ6_bitCount_0f7a4 8 = .ok (.isub, 1) := by decide +kernel
theorem dJ6_bitCount_0f7a4_9 : decode cJ6_bitCount_0f7a4 9 = .ok (.istore_n 0, 1) := by decide +kernel
theorem dJ6_bitCount_0f7a4_10 : decode cJ6_bitCount_0f7a4 10 = .ok (.iload_n 0, 1) := by decide +kernel
theorem dJ6_bitCount_0f7a4_11 : decode cJ6_bitCount_0f7a4 11 = .ok (.ldc_w 266, 3) := by decide +kernel
theorem dJ6_bitCount_0f7a4_14 : decode cJ6_bitCount_0f7a4 14 = .ok (.iand, 1) := by decide +kernel
theorem dJ6_bitCount_0f7a4_15 : decode cJ6_bitCount_0f7a4 15 = .ok (.iload_n 0, 1) := by decide +kernel
theorem dJ6_bitCount_0f7a4_16 : decode cJ6_bitCount_0f7a4 16 = .ok (.iconst 2, 1) := by decide +kernel
theorem dJ6_bitCount_0f7a4_17 : decode cJ6_bitCount_0f7a4 17 = .ok (.iushr, 1) := by decide +kernel
theorem dJ6_bitCount_0f7a4_18 : decode cJ6_bitCount_0f7a4 18 = .ok (.ldc_w 266, 3) := by decide +kernel
theorem dJ6_bitCount_0f7a4_21 : decode cJ6_bitCount_0f7a4 21 = .ok (.iand, 1) := by decide +kernel
theorem dJ6_bitCount_0f7a4_22 : decode cJ6_bitCount_0f7a4 22 = .ok (.iadd, 1) := by decide +kernel
theorem dJ6_bitCount_0f7a4_23 : decode cJ6_bitCount_0f7a4 23 = .ok (.istore_n 0, 1) := by decide +kernel
theorem dJ6_bitCount_0f7a4_24 : decode cJ6_bitCount_0f7a4 24 = .ok (.iload_n 0, 1) := by decide +kernel
theorem dJ6_bitCount_0f7a4_25 : decode cJ6_bitCount_0f7a4 25 = .ok (.iload_n 0, 1) := by decide +kernel
theorem dJ6_bitCount_0f7a4_26 : decode cJ6_bitCount_0f7a4 26 = .ok (.iconst 4, 1) := by decide +kernel
theorem dJ6_bitCount_0f7a4_27 : decode cJ6_bitCount_0f7a4 27 = .ok (.iushr, 1) := by decide +kernel
theorem dJ6_bitCount_0f7a4_28 : decode cJ6_bitCount_0f7a4 28 = .ok (.iadd, 1) := by decide +kernel
theorem dJ6_bitCount_0f7a4_29 : decode cJ6_bitCount_0f7a4 29 = .ok (.ldc_w 267, 3) := by decide +kernel
theorem dJ6_bitCount_0f7a4_32 : decode cJ6_bitCount_0f7a4 32 = .ok (.iand, 1) := by decide +kernel
theorem dJ6_bitCount_0f7a4_33 : decode cJ6_bitCount_0f7a4 33 = .ok (.istore_n 0, 1) := by decide +kernel
theorem dJ6_bitCount_0f7a4_34 : decode cJ6_bitCount_0f7a4 34 = .ok (.iload_n 0, 1) := by decide +kernel
theorem dJ6_bitCount_0f7a4_35 : decode cJ6_bitCount_0f7a4 35 = .ok (.iload_n 0, 1) := by decide +kernel
theorem dJ6_bitCount_0f7a4_36 : decode cJ6_bitCount_0f7a4 36 = .ok (.bipush 8, 2) := by decide +kernel
theorem dJ6_bitCount_0f7a4_38 : decode cJ6_bitCount_0f7a4 38 = .ok (.iushr, 1) := by decide +kernel
theorem dJ6_bitCount_0f7a4_39 : decode cJ6_bitCount_0f7a4 39 = .ok (.iadd, 1) := by decide +kernel
theorem dJ6_bitCount_0f7a4_40 : decode cJ6_bitCount_0f7a4 40 = .ok (.istore_n 0, 1) := by decide +kernel
theorem dJ6_bitCount_0f7a4_41 : decode cJ6_bitCount_0f7a4 41 = .ok (.iload_n 0, 1) := by decide +kernel
theorem dJ6_bitCount_0f7a4_42 : decode cJ6_bitCount_0f7a4 42 = .ok (.iload_n 0, 1) := by decide +kernel
theorem dJ6_bitCount_0f7a4_43 : decode cJ6_bitCount_0f7a4 43 = .ok (.bipush 16, 2) := by decide +kernel
theorem dJ6_bitCount_0f7a4_45 : decode cJ6_bitCount_0f7a4 45 = .ok (.iushr, 1) := by decide +kernel
theorem dJ6_bitCount_0f7a4_46 : decode cJ6_bitCount_0f7a4 46 = .ok (.iadd, 1) := by decide +kernel
theorem dJ6_bitCount_0f7a4_47 : decode cJ6_bitCount_0f7a4 47 = .ok (.istore_n 0, 1) := by decide +kernel
theorem dJ6_bitCount_0f7a4_48 : decode cJ6_bitCount_0f7a4 48 = .ok (.iload_n 0, 1) := by decide +kernel
theorem dJ6_bitCount_0f7a4_49 : decode cJ6_bitCount_0f7a4 49 = .ok (.bipush 63, 2) := by decide +kernel
theorem dJ6_bitCount_0f7a4_51 : decode cJ6_bitCount_0f7a4 51 = .ok (.iand, 1) := by decide +kernel
theorem dJ6_bitCount_0f7a4_52 : decode cJ6_bitCount_0f7a4 52 = .ok (.ireturn, 1) := by decide +kernel
theorem dJ9_abs_0f7a4_0 : decode cJ9_abs_0f7a4 0 = .ok (.iload_n 0, 1) := by decide +kernel
theorem dJ9_abs_0f7a4_1 : decode cJ9_abs_0f7a4 1 = .ok (.ifCond .ge 8, 3) := by decide +kernel
theorem dJ9_abs_0f7a4_4 : decode cJ9_abs_0f7a4 4 = .ok (.iload_n 0, 1) := by decide +kernel
theorem dJ9_abs_0f7a4_5 : decode cJ9_abs_0f7a4 5 = .ok (.ineg, 1) := by decide +kernel
theorem dJ9_abs_0f7a4_6 : decode cJ9_abs_0f7a4 6 = .ok (.goto 4, 3) := by decide +kernel
theorem dJ9_abs_0f7a4_9 : decode cJ9_abs_0f7a4 9 = .ok (.iload_n 0, 1) := by decide +kernel
theorem dJ9_abs_0f7a4_10 : decode cJ9_abs_0f7a4 10 = .ok (.ireturn, 1) := by decide +kernel
theorem dJ9_max_7cf53_0 : decode cJ9_max_7cf53 0 = .ok (.iload_n 0, 1) := by decide +kernel
theorem dJ9_max_7cf53_1 : decode cJ9_max_7cf53 1 = .ok (.iload_n 1, 1) := by decide +kernel
theorem dJ9_max_7cf53_2 : decode cJ9_max_7cf53 2 = .ok (.if_icmp .lt 7, 3) := by decide +kernel
theorem dJ9_max_7cf53_5 : decode cJ9_max_7cf53 5 = .ok (.iload_n 0, 1) := by decide +kernel
theorem dJ9_max_7cf53_6 : decode cJ9_max_7cf53 6 = .ok (.goto 4, 3) := by decide +kernel
theorem dJ9_max_7cf53_9 : decode cJ9_max_7cf53 9 = .ok (.iload_n 1, 1) := by decide +kernel
theorem dJ9_max_7cf53_10 : decode cJ9_max_7cf53 10 = .ok (.ireturn, 1) := by decide +kernel
theorem dJ9_min_7cf53_0 : decode cJ9_min_7cf53 0 = .ok (.iload_n 0, 1) := by decide +kernel
theorem dJ9_min_7cf53_1 : decode cJ9_min_7cf53 1 = .ok (.iload_n 1, 1) := by decide +kernel
theorem dJ9_min_7cf53_2 : decode cJ9_min_7cf53 2 = .ok (.if_icmp .gt 7, 3) := by decide +kernel
theorem dJ9_min_7cf53_5 : decode cJ9_min_7cf53 5 = .ok (.iload_n 0, 1) := by decide +kernel
theorem dJ9_min_7cf53_6 : decode cJ9_min_7cf53 6 = .ok (.goto 4, 3) := by decide +kernel
theorem dJ9_min_7cf53_9 : decode cJ9_min_7cf53 9 = .ok (.iload_n 1, 1) := by decide +kernel
theorem dJ9_min_7cf53_10 : decode cJ9_min_7cf53 10 = .ok (.ireturn, 1) := by decide +kernel
theorem dL_law_0 : decode cL_law 0 = .ok (.new 7, 3) := by decide +kernel
theorem dL_law_3 : decode cL_law 3 = .ok (.dup, 1) := by decide +kernel
theorem dL_law_4 : decode cL_law 4 = .ok (.invokespecial 9, 3) := by decide +kernel
theorem dL_law_7 : decode cL_law 7 = .ok (.astore_n 1, 1) := by decide +kernel
theorem dL_law_8 : decode cL_law 8 = .ok (.new 10, 3) := by decide +kernel
theorem dL_law_11 : decode cL_law 11 = .ok (.dup, 1) := by decide +kernel
theorem dL_law_12 : decode cL_law 12 = .ok (.invokespecial 12, 3) := by decide +kernel
theorem dL_law_15 : decode cL_law 15 = .ok (.astore_n 2, 1) := by decide +kernel
theorem dL_law_16 : decode cL_law 16 = .ok (.iconst 0, 1) := by decide +kernel
theorem dL_law_17 : decode cL_law 17 = .ok (.istore_n 3, 1) := by decide +kernel
theorem dL_law_18 : decode cL_law 18 = .ok (.iload_n 3, 1) := by decide +kernel
theorem dL_law_19 : decode cL_law 19 = .ok (.aload_n 0, 1) := by decide +kernel
theorem dL_law_20 : decode cL_law 20 = .ok (.arraylength, 1) := by decide +kernel
theorem dL_law_21 : decode cL_law 21 = .ok (.bipush 6, 2) := by decide +kernel
theorem dL_law_23 : decode cL_law 23 = .ok (.isub, 1) := by decide +kernel
theorem dL_law_24 : decode cL_law 24 = .ok (.if_icmp .gt 1305, 3) := by decide +kernel
theorem dL_law_27 : decode cL_law 27 = .ok (.aload_n 0, 1) := by decide +kernel
theorem dL_law_28 : decode cL_law 28 = .ok (.iload_n 3, 1) := by decide +kernel
theorem dL_law_29 : decode cL_law 29 = .ok (.iaload, 1) := by decide +kernel
theorem dL_law_30 : decode cL_law 30 = .ok (.bipush 63, 2) := by decide +kernel
theorem dL_law_32 : decode cL_law 32 = .ok (.iand, 1) := by decide +kernel
theorem dL_law_33 : decode cL_law 33 = .ok (.tableswitch 1290 0 35 #[159, 212, 245, 288, 311, 364, 397, 440, 463, 486, 510, 534, 547, 560, 583, 616, 639, 682, 715, 748, 771, 794, 817, 850, 883, 946, 989, 1012, 1055, 1099, 1162, 1185, 1208, 1241, 1254, 1267], 159) := by decide +kernel
theorem dL_law_192 : decode cL_law 192 = .ok (.aload_n 1, 1) := by decide +kernel
theorem dL_law_193 : decode cL_law 193 = .ok (.aload_n 0, 1) := by decide +kernel
theorem dL_law_194 : decode cL_law 194 = .ok (.iload_n 3, 1) := by decide +kernel
theorem dL_law_195 : decode cL_law 195 = .ok (.iconst 1, 1) := by decide +kernel
theorem dL_law_196 : decode cL_law 196 = .ok (.iadd, 1) := by decide +kernel
theorem dL_law_197 : decode cL_law 197 = .ok (.iaload, 1) := by decide +kernel
theorem dL_law_198 : decode cL_law 198 = .ok (.aload_n 0, 1) := by decide +kernel
theorem dL_law_199 : decode cL_law 199 = .ok (.iload_n 3, 1) := by decide +kernel
theorem dL_law_200 : decode cL_law 200 = .ok (.iconst 2, 1) := by decide +kernel
theorem dL_law_201 : decode cL_law 201 = .ok (.iadd, 1) := by decide +kernel
theorem dL_law_202 : decode cL_law 202 = .ok (.iaload, 1) := by decide +kernel
theorem dL_law_203 : decode cL_law 203 = .ok (.aload_n 0, 1) := by decide +kernel
theorem dL_law_204 : decode cL_law 204 = .ok (.iload_n 3, 1) := by decide +kernel
theorem dL_law_205 : decode cL_law 205 = .ok (.iconst 3, 1) := by decide +kernel
theorem dL_law_206 : decode cL_law 206 = .ok (.iadd, 1) := by decide +kernel
theorem dL_law_207 : decode cL_law 207 = .ok (.iaload, 1) := by decide +kernel
theorem dL_law_208 : decode cL_law 208 = .ok (.aload_n 0, 1) := by decide +kernel
theorem dL_law_209 : decode cL_law 209 = .ok (.iload_n 3, 1) := by decide +kernel
theorem dL_law_210 : decode cL_law 210 = .ok (.iconst 4, 1) := by decide +kernel
theorem dL_law_211 : decode cL_law 211 = .ok (.iadd, 1) := by decide +kernel
theorem dL_law_212 : decode cL_law 212 = .ok (.iaload, 1) := by decide +kernel
theorem dL_law_213 : decode cL_law 213 = .ok (.invokevirtual 13, 3) := by decide +kernel
theorem dL_law_216 : decode cL_law 216 = .ok (.aload_n 2, 1) := by decide +kernel
theorem dL_law_217 : decode cL_law 217 = .ok (.aload_n 0, 1) := by decide +kernel
theorem dL_law_218 : decode cL_law 218 = .ok (.iload_n 3, 1) := by decide +kernel
theorem dL_law_219 : decode cL_law 219 = .ok (.iconst 1, 1) := by decide +kernel
theorem dL_law_220 : decode cL_law 220 = .ok (.iadd, 1) := by decide +kernel
theorem dL_law_221 : decode cL_law 221 = .ok (.iaload, 1) := by decide +kernel
theorem dL_law_222 : decode cL_law 222 = .ok (.aload_n 0, 1) := by decide +kernel
theorem dL_law_223 : decode cL_law 223 = .ok (.iload_n 3, 1) := by decide +kernel
theorem dL_law_224 : decode cL_law 224 = .ok (.iconst 2, 1) := by decide +kernel
theorem dL_law_225 : decode cL_law 225 = .ok (.iadd, 1) := by decide +kernel
theorem dL_law_226 : decode cL_law 226 = .ok (.iaload, 1) := by decide +kernel
theorem dL_law_227 : decode cL_law 227 = .ok (.aload_n 0, 1) := by decide +kernel
theorem dL_law_228 : decode cL_law 228 = .ok (.iload_n 3, 1) := by decide +kernel
theorem dL_law_229 : decode cL_law 229 = .ok (.iconst 3, 1) := by decide +kernel
theorem dL_law_230 : decode cL_law 230 = .ok (.iadd, 1) := by decide +kernel
theorem dL_law_231 : decode cL_law 231 = .ok (.iaload, 1) := by decide +kernel
theorem dL_law_232 : decode cL_law 232 = .ok (.aload_n 0, 1) := by decide +kernel
theorem dL_law_233 : decode cL_law 233 = .ok (.iload_n 3, 1) := by decide +kernel
theorem dL_law_234 : decode cL_law 234 = .ok (.iconst 4, 1) := by decide +kernel
theorem dL_law_235 : decode cL_law 235 = .ok (.iadd, 1) := by decide +kernel
theorem dL_law_236 : decode cL_law 236 = .ok (.iaload, 1) := by decide +kernel
theorem dL_law_237 : decode cL_law 237 = .ok (.invokevirtual 17, 3) := by decide +kernel
theorem dL_law_240 : decode cL_law 240 = .ok (.if_icmp .eq 1083, 3) := by decide +kernel
theorem dL_law_243 : decode cL_law 243 = .ok (.iconst 0, 1) := by decide +kernel
theorem dL_law_244 : decode cL_law 244 = .ok (.ireturn, 1) := by decide +kernel
theorem dL_law_245 : decode cL_law 245 = .ok (.aload_n 1, 1) := by decide +kernel
theorem dL_law_246 : decode cL_law 246 = .ok (.aload_n 0, 1) := by decide +kernel
theorem dL_law_247 : decode cL_law 247 = .ok (.iload_n 3, 1) := by decide +kernel
theorem dL_law_248 : decode cL_law 248 = .ok (.iconst 1, 1) := by decide +kernel
theorem dL_law_249 : decode cL_law 249 = .ok (.iadd, 1) := by decide +kernel
theorem dL_law_250 : decode cL_law 250 = .ok (.iaload, 1) := by decide +kernel
theorem dL_law_251 : decode cL_law 251 = .ok (.aload_n 0, 1) := by decide +kernel
theorem dL_law_252 : decode cL_law 252 = .ok (.iload_n 3, 1) := by decide +kernel
theorem dL_law_253 : decode cL_law 253 = .ok (.iconst 2, 1) := by decide +kernel
theorem dL_law_254 : decode cL_law 254 = .ok (.iadd, 1) := by decide +kernel
theorem dL_law_255 : decode cL_law 255 = .ok (.iaload, 1) := by decide +kernel
theorem dL_law_256 : decode cL_law 256 = .ok (.invokevirtual 18, 3) := by decide +kernel
theorem dL_law_259 : decode cL_law 259 = .ok (.aload_n 2, 1) := by decide +kernel
theorem dL_law_260 : decode cL_law 260 = .ok (.aload_n 0, 1) := by decide +kernel
theorem dL_law_261 : decode cL_law 261 = .ok (.iload_n 3, 1) := by decide +kernel
theorem dL_law_262 : decode cL_law 262 = .ok (.iconst 1, 1) := by decide +kernel
theorem dL_law_263 : decode cL_law 263 = .ok (.iadd, 1) := by decide +kernel
theorem dL_law_264 : decode cL_law 264 = .ok (.iaload, 1) := by decide +kernel
theorem dL_law_265 : decode cL_law 265 = .ok (.aload_n 0, 1) := by decide +kernel
theorem dL_law_266 : decode cL_law 266 = .ok (.iload_n 3, 1) := by decide +kernel
theorem dL_law_267 : decode cL_law 267 = .ok (.iconst 2, 1) := by decide +kernel
theorem dL_law_268 : decode cL_law 268 = .ok (.iadd, 1) := by decide +kernel
theorem dL_law_269 : decode cL_law 269 = .ok (.iaload, 1) := by decide +kernel
theorem dL_law_270 : decode cL_law 270 = .ok (.invokevirtual 22, 3) := by decide +kernel
theorem dL_law_273 : decode cL_law 273 = .ok (.if_icmp .eq 1050, 3) := by decide +kernel
theorem dL_law_276 : decode cL_law 276 = .ok (.iconst 0, 1) := by decide +kernel
theorem dL_law_277 : decode cL_law 277 = .ok (.ireturn, 1) := by decide +kernel
theorem dL_law_278 : decode cL_law 278 = .ok (.aload_n 1, 1) := by decide +kernel
theorem dL_law_279 : decode cL_law 279 = .ok (.aload_n 0, 1) := by decide +kernel
theorem dL_law_280 : decode cL_law 280 = .ok (.iload_n 3, 1) := by decide +kernel
theorem dL_law_281 : decode cL_law 281 = .ok (.iconst 1, 1) := by decide +kernel
theorem dL_law_282 : decode cL_law 282 = .ok (.iadd, 1) := by decide +kernel
theorem dL_law_283 : decode cL_law 283 = .ok (.iaload, 1) := by decide +kernel
theorem dL_law_284 : decode cL_law 284 = .ok (.aload_n 0, 1) := by decide +kernel
theorem dL_law_285 : decode cL_law 285 = .ok (.iload_n 3, 1) := by decide +kernel
theorem dL_law_286 : decode cL_law 286 = .ok (.iconst 2, 1) := by decide +kernel
theorem dL_law_287 : decode cL_law 287 = .ok (.iadd, 1) := by decide +kernel
theorem dL_law_288 : decode cL_law 288 = .ok (.iaload, 1) := by decide +kernel
theorem dL_law_289 : decode cL_law 289 = .ok (.aload_n 0, 1) := by decide +kernel
theorem dL_law_290 : decode cL_law 290 = .ok (.iload_n 3, 1) := by decide +kernel
theorem dL_law_291 : decode cL_law 291 = .ok (.iconst 3, 1) := by decide +kernel
theorem dL_law_292 : decode cL_law 292 = .ok (.iadd, 1) := by decide +kernel
theorem dL_law_293 : decode cL_law 293 = .ok (.iaload, 1) := by decide +kernel
theorem dL_law_294 : decode cL_law 294 = .ok (.invokevirtual 23, 3) := by decide +kernel
theorem dL_law_297 : decode cL_law 297 = .ok (.aload_n 2, 1) := by decide +kernel
theorem dL_law_298 : decode cL_law 298 = .ok (.aload_n 0, 1) := by decide +kernel
theorem dL_law_299 : decode cL_law 299 = .ok (.iload_n 3, 1) := by decide +kernel
theorem dL_law_300 : decode cL_law 300 = .ok (.iconst 1, 1) := by decide +kernel
theorem dL_law_301 : decode cL_law 301 = .ok (.iadd, 1) := by decide +kernel
theorem dL_law_302 : decode cL_law 302 = .ok (.iaload, 1) := by decide +kernel
theorem dL_law_303 : decode cL_law 303 = .ok (.aload_n 0, 1) := by decide +kernel
theorem dL_law_304 : decode cL_law 304 = .ok (.iload_n 3, 1) := by decide +kernel
theorem dL_law_305 : decode cL_law 305 = .ok (.iconst 2, 1) := by decide +kernel
theorem dL_law_306 : decode cL_law 306 = .ok (.iadd, 1) := by decide +kernel
theorem dL_law_307 : decode cL_law 307 = .ok (.iaload, 1) := by decide +kernel
theorem dL_law_308 : decode cL_law 308 = .ok (.aload_n 0, 1) := by decide +kernel
theorem dL_law_309 : decode cL_law 309 = .ok (.iload_n 3, 1) := by decide +kernel
theorem dL_law_310 : decode cL_law 310 = .ok (.iconst 3, 1) := by decide +kernel
theorem dL_law_311 : decode cL_law 311 = .ok (.iadd, 1) := by decide +kernel
theorem dL_law_312 : decode cL_law 312 = .ok (.iaload, 1) := by decide +kernel
theorem dL_law_313 : decode cL_law 313 = .ok (.invokevirtual 27, 3) := by decide +kernel
theorem dL_law_316 : decode cL_law 316 = .ok (.if_icmp .eq 1007, 3) := by decide +kernel
theorem dL_law_319 : decode cL_law 319 = .ok (.iconst 0, 1) := by decide +kernel
theorem dL_law_320 : decode cL_law 320 = .ok (.ireturn, 1) := by decide +kernel
theorem dL_law_321 : decode cL_law 321 = .ok (.aload_n 1, 1) := by decide +kernel
theorem dL_law_322 : decode cL_law 322 = .ok (.aload_n 0, 1) := by decide +kernel
theorem dL_law_323 : decode cL_law 323 = .ok (.iload_n 3, 1) := by decide +kernel
theorem dL_law_324 : decode cL_law 324 = .ok (.iconst 1, 1) := by decide +kernel
theorem dL_law_325 : decode cL_law 325 = .ok (.iadd, 1) := by decide +kernel
theorem dL_law_326 : decode cL_law 326 = .ok (.iaload, 1) := by decide +kernel
theorem dL_law_327 : decode cL_law 327 = .ok (.invokevirtual 28, 3) := by decide +kernel
theorem dL_law_330 : decode cL_law 330 = .ok (.aload_n 2, 1) := by decide +kernel
theorem dL_law_331 : decode cL_law 331 = .ok (.aload_n 0, 1) := by decide +kernel
theorem dL_law_332 : decode cL_law 332 = .ok (.iload_n 3, 1) := by decide +kernel
theorem dL_law_333 : decode cL_law 333 = .ok (.iconst 1, 1) := by decide +kernel
theorem dL_law_334 : decode cL_law 334 = .ok (.iadd, 1) := by decide +kernel
theorem dL_law_335 : decode cL_law 335 = .ok (.iaload, 1) := by decide +kernel
theorem dL_law_336 : decode cL_law 336 = .ok (.invokevirtual 32, 3) := by decide +kernel
theorem dL_law_339 : decode cL_law 339 = .ok (.if_icmp .eq 984, 3) := by decide +kernel
theorem dL_law_342 : decode cL_law 342 = .ok (.iconst 0, 1) := by decide +kernel
theorem dL_law_343 : decode cL_law 343 = .ok (.ireturn, 1) := by decide +kernel
theorem dL_law_344 : decode cL_law 344 = .ok (.aload_n 1, 1) := by decide +kernel
theorem dL_law_345 : decode cL_law 345 = .ok (.aload_n 0, 1) := by decide +kernel
theorem dL_law_346 : decode cL_law 346 = .ok (.iload_n 3, 1) := by decide +kernel
theorem dL_law_347 : decode cL_law 347 = .ok (.iconst 1, 1) := by decide +kernel
theorem dL_law_348 : decode cL_law 348 = .ok (.iadd, 1) := by decide +kernel
theorem dL_law_349 : decode cL_law 349 = .ok (.iaload, 1) := by decide +kernel
theorem dL_law_350 : decode cL_law 350 = .ok (.aload_n 0, 1) := by decide +kernel
theorem dL_law_351 : decode cL_law 351 = .ok (.iload_n 3, 1) := by decide +kernel
theorem dL_law_352 : decode cL_law 352 = .ok (.iconst 2, 1) := by decide +kernel
theorem dL_law_353 : decode cL_law 353 = .ok (.iadd, 1) := by decide +kernel
theorem dL_law_354 : decode cL_law 354 = .ok (.iaload, 1) := by decide +kernel
theorem dL_law_355 : decode cL_law 355 = .ok (.aload_n 0, 1) := by decide +kernel
theorem dL_law_356 : decode cL_law 356 = .ok (.iload_n 3, 1) := by decide +kernel
theorem dL_law_357 : decode cL_law 357 = .ok (.iconst 3, 1) := by decide +kernel
theorem dL_law_358 : decode cL_law 358 = .ok (.iadd, 1) := by decide +kernel
theorem dL_law_359 : decode cL_law 359 = .ok (.iaload, 1) := by decide +kernel
theorem dL_law_360 : decode cL_law 360 = .ok (.aload_n 0, 1) := by decide +kernel
theorem dL_law_361 : decode cL_law 361 = .ok (.iload_n 3, 1) := by decide +kernel
theorem dL_law_362 : decode cL_law 362 = .ok (.iconst 4, 1) := by decide +kernel
theorem dL_law_363 : decode cL_law 363 = .ok (.iadd, 1) := by decide +kernel
theorem dL_law_364 : decode cL_law 364 = .ok (.iaload, 1) := by decide +kernel
theorem dL_law_365 : decode cL_law 365 = .ok (.invokevirtual 33, 3) := by decide +kernel
theorem dL_law_368 : decode cL_law 368 = .ok (.aload_n 2, 1) := by decide +kernel
theorem dL_law_369 : decode cL_law 369 = .ok (.aload_n 0, 1) := by decide +kernel
theorem dL_law_370 : decode cL_law 370 = .ok (.iload_n 3, 1) := by decide +kernel
theorem dL_law_371 : decode cL_law 371 = .ok (.iconst 1, 1) := by decide +kernel
theorem dL_law_372 : decode cL_law 372 = .ok (.iadd, 1) := by decide +kernel
theorem dL_law_373 : decode cL_law 373 = .ok (.iaload, 1) := by decide +kernel
theorem dL_law_374 : decode cL_law 374 = .ok (.aload_n 0, 1) := by decide +kernel
theorem dL_law_375 : decode cL_law 375 = .ok (.iload_n 3, 1) := by decide +kernel
theorem dL_law_376 : decode cL_law 376 = .ok (.iconst 2, 1) := by decide +kernel
theorem dL_law_377 : decode cL_law 377 = .ok (.iadd, 1) := by decide +kernel
theorem dL_law_378 : decode cL_law 378 = .ok (.iaload, 1) := by decide +kernel
theorem dL_law_379 : decode cL_law 379 = .ok (.aload_n 0, 1) := by decide +kernel
theorem dL_law_380 : decode cL_law 380 = .ok (.iload_n 3, 1) := by decide +kernel
theorem dL_law_381 : decode cL_law 381 = .ok (.iconst 3, 1) := by decide +kernel
theorem dL_law_382 : decode cL_law 382 = .ok (.iadd, 1) := by decide +kernel
theorem dL_law_383 : decode cL_law 383 = .ok (.iaload, 1) := by decide +kernel
theorem dL_law_384 : decode cL_law 384 = .ok (.aload_n 0, 1) := by decide +kernel
theorem dL_law_385 : decode cL_law 385 = .ok (.iload_n 3, 1) := by decide +kernel
theorem dL_law_386 : decode cL_law 386 = .ok (.iconst 4, 1) := by decide +kernel
theorem dL_law_387 : decode cL_law 387 = .ok (.iadd, 1) := by decide +kernel
theorem dL_law_388 : decode cL_law 388 = .ok (.iaload, 1) := by decide +kernel
theorem dL_law_389 : decode cL_law 389 = .ok (.invokevirtual 36, 3) := by decide +kernel
theorem dL_law_392 : decode cL_law 392 = .ok (.if_icmp .eq 931, 3) := by decide +kernel
theorem dL_law_395 : decode cL_law 395 = .ok (.iconst 0, 1) := by decide +kernel
theorem dL_law_396 : decode cL_law 396 = .ok (.ireturn, 1) := by decide +kernel
theorem dL_law_397 : decode cL_law 397 = .ok (.aload_n 1, 1) := by decide +kernel
theorem dL_law_398 : decode cL_law 398 = .ok (.aload_n 0, 1) := by decide +kernel
theorem dL_law_399 : decode cL_law 399 = .ok (.iload_n 3, 1) := by decide +kernel
theorem dL_law_400 : decode cL_law 400 = .ok (.iconst 1, 1) := by decide +kernel
theorem dL_law_401 : decode cL_law 401 = .ok (.iadd, 1) := by decide +kernel
theorem dL_law_402 : decode cL_law 402 = .ok (.iaload, 1) := by decide +kernel
theorem dL_law_403 : decode cL_law 403 = .ok (.aload_n 0, 1) := by decide +kernel
theorem dL_law_404 : decode cL_law 404 = .ok (.iload_n 3, 1) := by decide +kernel
theorem dL_law_405 : decode cL_law 405 = .ok (.iconst 2, 1) := by decide +kernel
theorem dL_law_406 : decode cL_law 406 = .ok (.iadd, 1) := by decide +kernel
theorem dL_law_407 : decode cL_law 407 = .ok (.iaload, 1) := by decide +kernel
theorem dL_law_408 : decode cL_law 408 = .ok (.invokevirtual 37, 3) := by decide +kernel
theorem dL_law_411 : decode cL_law 411 = .ok (.aload_n 2, 1) := by decide +kernel
theorem dL_law_412 : decode cL_law 412 = .ok (.aload_n 0, 1) := by decide +kernel
theorem dL_law_413 : decode cL_law 413 = .ok (.iload_n 3, 1) := by decide +kernel
theorem dL_law_414 : decode cL_law 414 = .ok (.iconst 1, 1) := by decide +kernel
theorem dL_law_415 : decode cL_law 415 = .ok (.iadd, 1) := by decide +kernel
theorem dL_law_416 : decode cL_law 416 = .ok (.iaload, 1) := by decide +kernel
theorem dL_law_417 : decode cL_law 417 = .ok (.aload_n 0, 1) := by decide +kernel
theorem dL_law_418 : decode cL_law 418 = .ok (.iload_n 3, 1) := by decide +kernel
theorem dL_law_419 : decode cL_law 419 = .ok (.iconst 2, 1) := by decide +kernel
theorem dL_law_420 : decode cL_law 420 = .ok (.iadd, 1) := by decide +kernel
theorem dL_law_421 : decode cL_law 421 = .ok (.iaload, 1) := by decide +kernel
theorem dL_law_422 : decode cL_law 422 = .ok (.invokevirtual 40, 3) := by decide +kernel
theorem dL_law_425 : decode cL_law 425 = .ok (.if_icmp .eq 898, 3) := by decide +kernel
theorem dL_law_428 : decode cL_law 428 = .ok (.iconst 0, 1) := by decide +kernel
theorem dL_law_429 : decode cL_law 429 = .ok (.ireturn, 1) := by decide +kernel
theorem dL_law_430 : decode cL_law 430 = .ok (.aload_n 1, 1) := by decide +kernel
theorem dL_law_431 : decode cL_law 431 = .ok (.aload_n 0, 1) := by decide +kernel
theorem dL_law_432 : decode cL_law 432 = .ok (.iload_n 3, 1) := by decide +kernel
theorem dL_law_433 : decode cL_law 433 = .ok (.iconst 1, 1) := by decide +kernel
theorem dL_law_434 : decode cL_law 434 = .ok (.iadd, 1) := by decide +kernel
theorem dL_law_435 : decode cL_law 435 = .ok (.iaload, 1) := by decide +kernel
theorem dL_law_436 : decode cL_law 436 = .ok (.aload_n 0, 1) := by decide +kernel
theorem dL_law_437 : decode cL_law 437 = .ok (.iload_n 3, 1) := by decide +kernel
theorem dL_law_438 : decode cL_law 438 = .ok (.iconst 2, 1) := by decide +kernel
theorem dL_law_439 : decode cL_law 439 = .ok (.iadd, 1) := by decide +kernel
theorem dL_law_440 : decode cL_law 440 = .ok (.iaload, 1) := by decide +kernel
theorem dL_law_441 : decode cL_law 441 = .ok (.aload_n 0, 1) := by decide +kernel
theorem dL_law_442 : decode cL_law 442 = .ok (.iload_n 3, 1) := by decide +kernel
theorem dL_law_443 : decode cL_law 443 = .ok (.iconst 3, 1) := by decide +kernel
theorem dL_law_444 : decode cL_law 444 = .ok (.iadd, 1) := by decide +kernel
theorem dL_law_445 : decode cL_law 445 = .ok (.iaload, 1) := by decide +kernel
theorem dL_law_446 : decode cL_law 446 = .ok (.invokevirtual 41, 3) := by decide +kernel
theorem dL_law_449 : decode cL_law 449 = .ok (.aload_n 2, 1) := by decide +kernel
theorem dL_law_450 : decode cL_law 450 = .ok (.aload_n 0, 1) := by decide +kernel
theorem dL_law_451 : decode cL_law 451 = .ok (.iload_n 3, 1) := by decide +kernel
theorem dL_law_452 : decode cL_law 452 = .ok (.iconst 1, 1) := by decide +kernel
theorem dL_law_453 : decode cL_law 453 = .ok (.iadd, 1) := by decide +kernel
theorem dL_law_454 : decode cL_law 454 = .ok (.iaload, 1) := by decide +kernel
theorem dL_law_455 : decode cL_law 455 = .ok (.aload_n 0, 1) := by decide +kernel
theorem dL_law_456 : decode cL_law 456 = .ok (.iload_n 3, 1) := by decide +kernel
theorem dL_law_457 : decode cL_law 457 = .ok (.iconst 2, 1) := by decide +kernel
theorem dL_law_458 : decode cL_law 458 = .ok (.iadd, 1) := by decide +kernel
theorem dL_law_459 : decode cL_law 459 = .ok (.iaload, 1) := by decide +kernel
theorem dL_law_460 : decode cL_law 460 = .ok (.aload_n 0, 1) := by decide +kernel
theorem dL_law_461 : decode cL_law 461 = .ok (.iload_n 3, 1) := by decide +kernel
theorem dL_law_462 : decode cL_law 462 = .ok (.iconst 3, 1) := by decide +kernel
theorem dL_law_463 : decode cL_law 463 = .ok (.iadd, 1) := by decide +kernel
theorem dL_law_464 : decode cL_law 464 = .ok (.iaload, 1) := by decide +kernel
theorem dL_law_465 : decode cL_law 465 = .ok (.invokevirtual 44, 3) := by decide +kernel
theorem dL_law_468 : decode cL_law 468 = .ok (.if_icmp .eq 855, 3) := by decide +kernel
theorem dL_law_471 : decode cL_law 471 = .ok (.iconst 0, 1) := by decide +kernel
theorem dL_law_472 : decode cL_law 472 = .ok (.ireturn, 1) := by decide +kernel
theorem dL_law_473 : decode cL_law 473 = .ok (.aload_n 1, 1) := by decide +kernel
theorem dL_law_474 : decode cL_law 474 = .ok (.aload_n 0, 1) := by decide +kernel
theorem dL_law_475 : decode cL_law 475 = .ok (.iload_n 3, 1) := by decide +kernel
theorem dL_law_476 : decode cL_law 476 = .ok (.iconst 1, 1) := by decide +kernel
theorem dL_law_477 : decode cL_law 477 = .ok (.iadd, 1) := by decide +kernel
theorem dL_law_478 : decode cL_law 478 = .ok (.iaload, 1) := by decide +kernel
theorem dL_law_479 : decode cL_law 479 = .ok (.invokevirtual 45, 3) := by decide +kernel
theorem dL_law_482 : decode cL_law 482 = .ok (.aload_n 2, 1) := by decide +kernel
theorem dL_law_483 : decode cL_law 483 = .ok (.aload_n 0, 1) := by decide +kernel
theorem dL_law_484 : decode cL_law 484 = .ok (.iload_n 3, 1) := by decide +kernel
theorem dL_law_485 : decode cL_law 485 = .ok (.iconst 1, 1) := by decide +kernel
theorem dL_law_486 : decode cL_law 486 = .ok (.iadd, 1) := by decide +kernel
theorem dL_law_487 : decode cL_law 487 = .ok (.iaload, 1) := by decide +kernel
theorem dL_law_488 : decode cL_law 488 = .ok (.invokevirtual 48, 3) := by decide +kernel
theorem dL_law_491 : decode cL_law 491 = .ok (.if_icmp .eq 832, 3) := by decide +kernel
theorem dL_law_494 : decode cL_law 494 = .ok (.iconst 0, 1) := by decide +kernel
theorem dL_law_495 : decode cL_law 495 = .ok (.ireturn, 1) := by decide +kernel
theorem dL_law_496 : decode cL_law 496 = .ok (.aload_n 1, 1) := by decide +kernel
theorem dL_law_497 : decode cL_law 497 = .ok (.aload_n 0, 1) := by decide +kernel
theorem dL_law_498 : decode cL_law 498 = .ok (.iload_n 3, 1) := by decide +kernel
theorem dL_law_499 : decode cL_law 499 = .ok (.iconst 1, 1) := by decide +kernel
theorem dL_law_500 : decode cL_law 500 = .ok (.iadd, 1) := by decide +kernel
theorem dL_law_501 : decode cL_law 501 = .ok (.iaload, 1) := by decide +kernel
theorem dL_law_502 : decode cL_law 502 = .ok (.invokevirtual 49, 3) := by decide +kernel
theorem dL_law_505 : decode cL_law 505 = .ok (.aload_n 2, 1) := by decide +kernel
theorem dL_law_506 : decode cL_law 506 = .ok (.aload_n 0, 1) := by decide +kernel
theorem dL_law_507 : decode cL_law 507 = .ok (.iload_n 3, 1) := by decide +kernel
theorem dL_law_508 : decode cL_law 508 = .ok (.iconst 1, 1) := by decide +kernel
theorem dL_law_509 : decode cL_law 509 = .ok (.iadd, 1) := by decide +kernel
theorem dL_law_510 : decode cL_law 510 = .ok (.iaload, 1) := by decide +kernel
theorem dL_law_511 : decode cL_law 511 = .ok (.invokevirtual 52, 3) := by decide +kernel
theorem dL_law_514 : decode cL_law 514 = .ok (.if_icmp .eq 809, 3) := by decide +kernel
theorem dL_law_517 : decode cL_law 517 = .ok (.iconst 0, 1) := by decide +kernel
theorem dL_law_518 : decode cL_law 518 = .ok (.ireturn, 1) := by decide +kernel
theorem dL_law_519 : decode cL_law 519 = .ok (.aload_n 1, 1) := by decide +kernel
theorem dL_law_520 : decode cL_law 520 = .ok (.aload_n 0, 1) := by decide +kernel
theorem dL_law_521 : decode cL_law 521 = .ok (.iload_n 3, 1) := by decide +kernel
theorem dL_law_522 : decode cL_law 522 = .ok (.iconst 1, 1) := by decide +kernel
theorem dL_law_523 : decode cL_law 523 = .ok (.iadd, 1) := by decide +kernel
theorem dL_law_524 : decode cL_law 524 = .ok (.iaload, 1) := by decide +kernel
theorem dL_law_525 : decode cL_law 525 = .ok (.invokevirtual 53, 3) := by decide +kernel
theorem dL_law_528 : decode cL_law 528 = .ok (.aload_n 2, 1) := by decide +kernel
theorem dL_law_529 : decode cL_law 529 = .ok (.aload_n 0, 1) := by decide +kernel
theorem dL_law_530 : decode cL_law 530 = .ok (.iload_n 3, 1) := by decide +kernel
theorem dL_law_531 : decode cL_law 531 = .ok (.iconst 1, 1) := by decide +kernel
theorem dL_law_532 : decode cL_law 532 = .ok (.iadd, 1) := by decide +kernel
theorem dL_law_533 : decode cL_law 533 = .ok (.iaload, 1) := by decide +kernel
theorem dL_law_534 : decode cL_law 534 = .ok (.invokevirtual 57, 3) := by decide +kernel
theorem dL_law_537 : decode cL_law 537 = .ok (.lcmp, 1) := by decide +kernel
theorem dL_law_538 : decode cL_law 538 = .ok (.ifCond .eq 785, 3) := by decide +kernel
theorem dL_law_541 : decode cL_law 541 = .ok (.iconst 0, 1) := by decide +kernel
theorem dL_law_542 : decode cL_law 542 = .ok (.ireturn, 1) := by decide +kernel
theorem dL_law_543 : decode cL_law 543 = .ok (.aload_n 1, 1) := by decide +kernel
theorem dL_law_544 : decode cL_law 544 = .ok (.aload_n 0, 1) := by decide +kernel
theorem dL_law_545 : decode cL_law 545 = .ok (.iload_n 3, 1) := by decide +kernel
theorem dL_law_546 : decode cL_law 546 = .ok (.iconst 1, 1) := by decide +kernel
theorem dL_law_547 : decode cL_law 547 = .ok (.iadd, 1) := by decide +kernel
theorem dL_law_548 : decode cL_law 548 = .ok (.iaload, 1) := by decide +kernel
theorem dL_law_549 : decode cL_law 549 = .ok (.invokevirtual 58, 3) := by decide +kernel
theorem dL_law_552 : decode cL_law 552 = .ok (.aload_n 2, 1) := by decide +kernel
theorem dL_law_553 : decode cL_law 553 = .ok (.aload_n 0, 1) := by decide +kernel
theorem dL_law_554 : decode cL_law 554 = .ok (.iload_n 3, 1) := by decide +kernel
theorem dL_law_555 : decode cL_law 555 = .ok (.iconst 1, 1) := by decide +kernel
theorem dL_law_556 : decode cL_law 556 = .ok (.iadd, 1) := by decide +kernel
theorem dL_law_557 : decode cL_law 557 = .ok (.iaload, 1) := by decide +kernel
theorem dL_law_558 : decode cL_law 558 = .ok (.invokevirtual 61, 3) := by decide +kernel
theorem dL_law_561 : decode cL_law 561 = .ok (.lcmp, 1) := by decide +kernel
theorem dL_law_562 : decode cL_law 562 = .ok (.ifCond .eq 761, 3) := by decide +kernel
theorem dL_law_565 : decode cL_law 565 = .ok (.iconst 0, 1) := by decide +kernel
theorem dL_law_566 : decode cL_law 566 = .ok (.ireturn, 1) := by decide +kernel
theorem dL_law_567 : decode cL_law 567 = .ok (.aload_n 1, 1) := by decide +kernel
theorem dL_law_568 : decode cL_law 568 = .ok (.invokevirtual 62, 3) := by decide +kernel
theorem dL_law_571 : decode cL_law 571 = .ok (.aload_n 2, 1) := by decide +kernel
theorem dL_law_572 : decode cL_law 572 = .ok (.invokevirtual 66, 3) := by decide +kernel
theorem dL_law_575 : decode cL_law 575 = .ok (.if_icmp .eq 748, 3) := by decide +kernel
theorem dL_law_578 : decode cL_law 578 = .ok (.iconst 0, 1) := by decide +kernel
theorem dL_law_579 : decode cL_law 579 = .ok (.ireturn, 1) := by decide +kernel
theorem dL_law_580 : decode cL_law 580 = .ok (.aload_n 1, 1) := by decide +kernel
theorem dL_law_581 : decode cL_law 581 = .ok (.invokevirtual 67, 3) := by decide +kernel
theorem dL_law_584 : decode cL_law 584 = .ok (.aload_n 2, 1) := by decide +kernel
theorem dL_law_585 : decode cL_law 585 = .ok (.invokevirtual 70, 3) := by decide +kernel
theorem dL_law_588 : decode cL_law 588 = .ok (.if_icmp .eq 735, 3) := by decide +kernel
theorem dL_law_591 : decode cL_law 591 = .ok (.iconst 0, 1) := by decide +kernel
theorem dL_law_592 : decode cL_law 592 = .ok (.ireturn, 1) := by decide +kernel
theorem dL_law_593 : decode cL_law 593 = .ok (.aload_n 1, 1) := by decide +kernel
theorem dL_law_594 : decode cL_law 594 = .ok (.aload_n 0, 1) := by decide +kernel
theorem dL_law_595 : decode cL_law 595 = .ok (.iload_n 3, 1) := by decide +kernel
theorem dL_law_596 : decode cL_law 596 = .ok (.iconst 1, 1) := by decide +kernel
theorem dL_law_597 : decode cL_law 597 = .ok (.iadd, 1) := by decide +kernel
theorem dL_law_598 : decode cL_law 598 = .ok (.iaload, 1) := by decide +kernel
theorem dL_law_599 : decode cL_law 599 = .ok (.invokevirtual 71, 3) := by decide +kernel
theorem dL_law_602 : decode cL_law 602 = .ok (.aload_n 2, 1) := by decide +kernel
theorem dL_law_603 : decode cL_law 603 = .ok (.aload_n 0, 1) := by decide +kernel
theorem dL_law_604 : decode cL_law 604 = .ok (.iload_n 3, 1) := by decide +kernel
theorem dL_law_605 : decode cL_law 605 = .ok (.iconst 1, 1) := by decide +kernel
theorem dL_law_606 : decode cL_law 606 = .ok (.iadd, 1) := by decide +kernel
theorem dL_law_607 : decode cL_law 607 = .ok (.iaload, 1) := by decide +kernel
theorem dL_law_608 : decode cL_law 608 = .ok (.invokevirtual 74, 3) := by decide +kernel
theorem dL_law_611 : decode cL_law 611 = .ok (.if_icmp .eq 712, 3) := by decide +kernel
theorem dL_law_614 : decode cL_law 614 = .ok (.iconst 0, 1) := by decide +kernel
theorem dL_law_615 : decode cL_law 615 = .ok (.ireturn, 1) := by decide +kernel
theorem dL_law_616 : decode cL_law 616 = .ok (.aload_n 1, 1) := by decide +kernel
theorem dL_law_617 : decode cL_law 617 = .ok (.aload_n 0, 1) := by decide +kernel
theorem dL_law_618 : decode cL_law 618 = .ok (.iload_n 3, 1) := by decide +kernel
theorem dL_law_619 : decode cL_law 619 = .ok (.iconst 1, 1) := by decide +kernel
theorem dL_law_620 : decode cL_law 620 = .ok (.iadd, 1) := by decide +kernel
theorem dL_law_621 : decode cL_law 621 = .ok (.iaload, 1) := by decide +kernel
theorem dL_law_622 : decode cL_law 622 = .ok (.aload_n 0, 1) := by decide +kernel
theorem dL_law_623 : decode cL_law 623 = .ok (.iload_n 3, 1) := by decide +kernel
theorem dL_law_624 : decode cL_law 624 = .ok (.iconst 2, 1) := by decide +kernel
theorem dL_law_625 : decode cL_law 625 = .ok (.iadd, 1) := by decide +kernel
theorem dL_law_626 : decode cL_law 626 = .ok (.iaload, 1) := by decide +kernel
theorem dL_law_627 : decode cL_law 627 = .ok (.invokevirtual 75, 3) := by decide +kernel
theorem dL_law_630 : decode cL_law 630 = .ok (.aload_n 2, 1) := by decide +kernel
theorem dL_law_631 : decode cL_law 631 = .ok (.aload_n 0, 1) := by decide +kernel
theorem dL_law_632 : decode cL_law 632 = .ok (.iload_n 3, 1) := by decide +kernel
theorem dL_law_633 : decode cL_law 633 = .ok (.iconst 1, 1) := by decide +kernel
theorem dL_law_634 : decode cL_law 634 = .ok (.iadd, 1) := by decide +kernel
theorem dL_law_635 : decode cL_law 635 = .ok (.iaload, 1) := by decide +kernel
theorem dL_law_636 : decode cL_law 636 = .ok (.aload_n 0, 1) := by decide +kernel
theorem dL_law_637 : decode cL_law 637 = .ok (.iload_n 3, 1) := by decide +kernel
theorem dL_law_638 : decode cL_law 638 = .ok (.iconst 2, 1) := by decide +kernel
theorem dL_law_639 : decode cL_law 639 = .ok (.iadd, 1) := by decide +kernel
theorem dL_law_640 : decode cL_law 640 = .ok (.iaload, 1) := by decide +kernel
theorem dL_law_641 : decode cL_law 641 = .ok (.invokevirtual 78, 3) := by decide +kernel
theorem dL_law_644 : decode cL_law 644 = .ok (.if_icmp .eq 679, 3) := by decide +kernel
theorem dL_law_647 : decode cL_law 647 = .ok (.iconst 0, 1) := by decide +kernel
theorem dL_law_648 : decode cL_law 648 = .ok (.ireturn, 1) := by decide +kernel
theorem dL_law_649 : decode cL_law 649 = .ok (.aload_n 1, 1) := by decide +kernel
theorem dL_law_650 : decode cL_law 650 = .ok (.aload_n 0, 1) := by decide +kernel
theorem dL_law_651 : decode cL_law 651 = .ok (.iload_n 3, 1) := by decide +kernel
theorem dL_law_652 : decode cL_law 652 = .ok (.iconst 1, 1) := by decide +kernel
theorem dL_law_653 : decode cL_law 653 = .ok (.iadd, 1) := by decide +kernel
theorem dL_law_654 : decode cL_law 654 = .ok (.iaload, 1) := by decide +kernel
theorem dL_law_655 : decode cL_law 655 = .ok (.invokevirtual 79, 3) := by decide +kernel
theorem dL_law_658 : decode cL_law 658 = .ok (.aload_n 2, 1) := by decide +kernel
theorem dL_law_659 : decode cL_law 659 = .ok (.aload_n 0, 1) := by decide +kernel
theorem dL_law_660 : decode cL_law 660 = .ok (.iload_n 3, 1) := by decide +kernel
theorem dL_law_661 : decode cL_law 661 = .ok (.iconst 1, 1) := by decide +kernel
theorem dL_law_662 : decode cL_law 662 = .ok (.iadd, 1) := by decide +kernel
theorem dL_law_663 : decode cL_law 663 = .ok (.iaload, 1) := by decide +kernel
theorem dL_law_664 : decode cL_law 664 = .ok (.invokevirtual 82, 3) := by decide +kernel
theorem dL_law_667 : decode cL_law 667 = .ok (.if_icmp .eq 656, 3) := by decide +kernel
theorem dL_law_670 : decode cL_law 670 = .ok (.iconst 0, 1) := by decide +kernel
theorem dL_law_671 : decode cL_law 671 = .ok (.ireturn, 1) := by decide +kernel
theorem dL_law_672 : decode cL_law 672 = .ok (.aload_n 1, 1) := by decide +kernel
theorem dL_law_673 : decode cL_law 673 = .ok (.aload_n 0, 1) := by decide +kernel
theorem dL_law_674 : decode cL_law 674 = .ok (.iload_n 3, 1) := by decide +kernel
theorem dL_law_675 : decode cL_law 675 = .ok (.iconst 1, 1) := by decide +kernel
theorem dL_law_676 : decode cL_law 676 = .ok (.iadd, 1) := by decide +kernel
theorem dL_law_677 : decode cL_law 677 = .ok (.iaload, 1) := by decide +kernel
theorem dL_law_678 : decode cL_law 678 = .ok (.aload_n 0, 1) := by decide +kernel
theorem dL_law_679 : decode cL_law 679 = .ok (.iload_n 3, 1) := by decide +kernel
theorem dL_law_680 : decode cL_law 680 = .ok (.iconst 2, 1) := by decide +kernel
theorem dL_law_681 : decode cL_law 681 = .ok (.iadd, 1) := by decide +kernel
theorem dL_law_682 : decode cL_law 682 = .ok (.iaload, 1) := by decide +kernel
theorem dL_law_683 : decode cL_law 683 = .ok (.aload_n 0, 1) := by decide +kernel
theorem dL_law_684 : decode cL_law 684 = .ok (.iload_n 3, 1) := by decide +kernel
theorem dL_law_685 : decode cL_law 685 = .ok (.iconst 3, 1) := by decide +kernel
theorem dL_law_686 : decode cL_law 686 = .ok (.iadd, 1) := by decide +kernel
theorem dL_law_687 : decode cL_law 687 = .ok (.iaload, 1) := by decide +kernel
theorem dL_law_688 : decode cL_law 688 = .ok (.invokevirtual 83, 3) := by decide +kernel
theorem dL_law_691 : decode cL_law 691 = .ok (.aload_n 2, 1) := by decide +kernel
theorem dL_law_692 : decode cL_law 692 = .ok (.aload_n 0, 1) := by decide +kernel
theorem dL_law_693 : decode cL_law 693 = .ok (.iload_n 3, 1) := by decide +kernel
theorem dL_law_694 : decode cL_law 694 = .ok (.iconst 1, 1) := by decide +kernel
theorem dL_law_695 : decode cL_law 695 = .ok (.iadd, 1) := by decide +kernel
theorem dL_law_696 : decode cL_law 696 = .ok (.iaload, 1) := by decide +kernel
theorem dL_law_697 : decode cL_law 697 = .ok (.aload_n 0, 1) := by decide +kernel
theorem dL_law_698 : decode cL_law 698 = .ok (.iload_n 3, 1) := by decide +kernel
theorem dL_law_699 : decode cL_law 699 = .ok (.iconst 2, 1) := by decide +kernel
theorem dL_law_700 : decode cL_law 700 = .ok (.iadd, 1) := by decide +kernel
theorem dL_law_701 : decode cL_law 701 = .ok (.iaload, 1) := by decide +kernel
theorem dL_law_702 : decode cL_law 702 = .ok (.aload_n 0, 1) := by decide +kernel
theorem dL_law_703 : decode cL_law 703 = .ok (.iload_n 3, 1) := by decide +kernel
theorem dL_law_704 : decode cL_law 704 = .ok (.iconst 3, 1) := by decide +kernel
theorem dL_law_705 : decode cL_law 705 = .ok (.iadd, 1) := by decide +kernel
theorem dL_law_706 : decode cL_law 706 = .ok (.iaload, 1) := by decide +kernel
theorem dL_law_707 : decode cL_law 707 = .ok (.invokevirtual 86, 3) := by decide +kernel
theorem dL_law_710 : decode cL_law 710 = .ok (.if_icmp .eq 613, 3) := by decide +kernel
theorem dL_law_713 : decode cL_law 713 = .ok (.iconst 0, 1) := by decide +kernel
theorem dL_law_714 : decode cL_law 714 = .ok (.ireturn, 1) := by decide +kernel
theorem dL_law_715 : decode cL_law 715 = .ok (.aload_n 1, 1) := by decide +kernel
theorem dL_law_716 : decode cL_law 716 = .ok (.aload_n 0, 1) := by decide +kernel
theorem dL_law_717 : decode cL_law 717 = .ok (.iload_n 3, 1) := by decide +kernel
theorem dL_law_718 : decode cL_law 718 = .ok (.iconst 1, 1) := by decide +kernel
theorem dL_law_719 : decode cL_law 719 = .ok (.iadd, 1) := by decide +kernel
theorem dL_law_720 : decode cL_law 720 = .ok (.iaload, 1) := by decide +kernel
theorem dL_law_721 : decode cL_law 721 = .ok (.aload_n 0, 1) := by decide +kernel
theorem dL_law_722 : decode cL_law 722 = .ok (.iload_n 3, 1) := by decide +kernel
theorem dL_law_723 : decode cL_law 723 = .ok (.iconst 2, 1) := by decide +kernel
theorem dL_law_724 : decode cL_law 724 = .ok (.iadd, 1) := by decide +kernel
theorem dL_law_725 : decode cL_law 725 = .ok (.iaload, 1) := by decide +kernel
theorem dL_law_726 : decode cL_law 726 = .ok (.invokevirtual 87, 3) := by decide +kernel
theorem dL_law_729 : decode cL_law 729 = .ok (.aload_n 2, 1) := by decide +kernel
theorem dL_law_730 : decode cL_law 730 = .ok (.aload_n 0, 1) := by decide +kernel
theorem dL_law_731 : decode cL_law 731 = .ok (.iload_n 3, 1) := by decide +kernel
theorem dL_law_732 : decode cL_law 732 = .ok (.iconst 1, 1) := by decide +kernel
theorem dL_law_733 : decode cL_law 733 = .ok (.iadd, 1) := by decide +kernel
theorem dL_law_734 : decode cL_law 734 = .ok (.iaload, 1) := by decide +kernel
theorem dL_law_735 : decode cL_law 735 = .ok (.aload_n 0, 1) := by decide +kernel
theorem dL_law_736 : decode cL_law 736 = .ok (.iload_n 3, 1) := by decide +kernel
theorem dL_law_737 : decode cL_law 737 = .ok (.iconst 2, 1) := by decide +kernel
theorem dL_law_738 : decode cL_law 738 = .ok (.iadd, 1) := by decide +kernel
theorem dL_law_739 : decode cL_law 739 = .ok (.iaload, 1) := by decide +kernel
theorem dL_law_740 : decode cL_law 740 = .ok (.invokevirtual 90, 3) := by decide +kernel
theorem dL_law_743 : decode cL_law 743 = .ok (.if_icmp .eq 580, 3) := by decide +kernel
theorem dL_law_746 : decode cL_law 746 = .ok (.iconst 0, 1) := by decide +kernel
theorem dL_law_747 : decode cL_law 747 = .ok (.ireturn, 1) := by decide +kernel
theorem dL_law_748 : decode cL_law 748 = .ok (.aload_n 1, 1) := by decide +kernel
theorem dL_law_749 : decode cL_law 749 = .ok (.aload_n 0, 1) := by decide +kernel
theorem dL_law_750 : decode cL_law 750 = .ok (.iload_n 3, 1) := by decide +kernel
theorem dL_law_751 : decode cL_law 751 = .ok (.iconst 1, 1) := by decide +kernel
theorem dL_law_752 : decode cL_law 752 = .ok (.iadd, 1) := by decide +kernel
theorem dL_law_753 : decode cL_law 753 = .ok (.iaload, 1) := by decide +kernel
theorem dL_law_754 : decode cL_law 754 = .ok (.aload_n 0, 1) := by decide +kernel
theorem dL_law_755 : decode cL_law 755 = .ok (.iload_n 3, 1) := by decide +kernel
theorem dL_law_756 : decode cL_law 756 = .ok (.iconst 2, 1) := by decide +kernel
theorem dL_law_757 : decode cL_law 757 = .ok (.iadd, 1) := by decide +kernel
theorem dL_law_758 : decode cL_law 758 = .ok (.iaload, 1) := by decide +kernel
theorem dL_law_759 : decode cL_law 759 = .ok (.invokevirtual 91, 3) := by decide +kernel
theorem dL_law_762 : decode cL_law 762 = .ok (.aload_n 2, 1) := by decide +kernel
theorem dL_law_763 : decode cL_law 763 = .ok (.aload_n 0, 1) := by decide +kernel
theorem dL_law_764 : decode cL_law 764 = .ok (.iload_n 3, 1) := by decide +kernel
theorem dL_law_765 : decode cL_law 765 = .ok (.iconst 1, 1) := by decide +kernel
theorem dL_law_766 : decode cL_law 766 = .ok (.iadd, 1) := by decide +kernel
theorem dL_law_767 : decode cL_law 767 = .ok (.iaload, 1) := by decide +kernel
theorem dL_law_768 : decode cL_law 768 = .ok (.aload_n 0, 1) := by decide +kernel
theorem dL_law_769 : decode cL_law 769 = .ok (.iload_n 3, 1) := by decide +kernel
theorem dL_law_770 : decode cL_law 770 = .ok (.iconst 2, 1) := by decide +kernel
theorem dL_law_771 : decode cL_law 771 = .ok (.iadd, 1) := by decide +kernel
theorem dL_law_772 : decode cL_law 772 = .ok (.iaload, 1) := by decide +kernel
theorem dL_law_773 : decode cL_law 773 = .ok (.invokevirtual 94, 3) := by decide +kernel
theorem dL_law_776 : decode cL_law 776 = .ok (.if_icmp .eq 547, 3) := by decide +kernel
theorem dL_law_779 : decode cL_law 779 = .ok (.iconst 0, 1) := by decide +kernel
theorem dL_law_780 : decode cL_law 780 = .ok (.ireturn, 1) := by decide +kernel
theorem dL_law_781 : decode cL_law 781 = .ok (.aload_n 1, 1) := by decide +kernel
theorem dL_law_782 : decode cL_law 782 = .ok (.aload_n 0, 1) := by decide +kernel
theorem dL_law_783 : decode cL_law 783 = .ok (.iload_n 3, 1) := by decide +kernel
theorem dL_law_784 : decode cL_law 784 = .ok (.iconst 1, 1) := by decide +kernel
theorem dL_law_785 : decode cL_law 785 = .ok (.iadd, 1) := by decide +kernel
theorem dL_law_786 : decode cL_law 786 = .ok (.iaload, 1) := by decide +kernel
theorem dL_law_787 : decode cL_law 787 = .ok (.invokevirtual 95, 3) := by decide +kernel
theorem dL_law_790 : decode cL_law 790 = .ok (.aload_n 2, 1) := by decide +kernel
theorem dL_law_791 : decode cL_law 791 = .ok (.aload_n 0, 1) := by decide +kernel
theorem dL_law_792 : decode cL_law 792 = .ok (.iload_n 3, 1) := by decide +kernel
theorem dL_law_793 : decode cL_law 793 = .ok (.iconst 1, 1) := by decide +kernel
theorem dL_law_794 : decode cL_law 794 = .ok (.iadd, 1) := by decide +kernel
theorem dL_law_795 : decode cL_law 795 = .ok (.iaload, 1) := by decide +kernel
theorem dL_law_796 : decode cL_law 796 = .ok (.invokevirtual 98, 3) := by decide +kernel
theorem dL_law_799 : decode cL_law 799 = .ok (.if_icmp .eq 524, 3) := by decide +kernel
theorem dL_law_802 : decode cL_law 802 = .ok (.iconst 0, 1) := by decide +kernel
theorem dL_law_803 : decode cL_law 803 = .ok (.ireturn, 1) := by decide +kernel
theorem dL_law_804 : decode cL_law 804 = .ok (.aload_n 1, 1) := by decide +kernel
theorem dL_law_805 : decode cL_law 805 = .ok (.aload_n 0, 1) := by decide +kernel
theorem dL_law_806 : decode cL_law 806 = .ok (.iload_n 3, 1) := by decide +kernel
theorem dL_law_807 : decode cL_law 807 = .ok (.iconst 1, 1) := by decide +kernel
theorem dL_law_808 : decode cL_law 808 = .ok (.iadd, 1) := by decide +kernel
theorem dL_law_809 : decode cL_law 809 = .ok (.iaload, 1) := by decide +kernel
theorem dL_law_810 : decode cL_law 810 = .ok (.invokevirtual 99, 3) := by decide +kernel
theorem dL_law_813 : decode cL_law 813 = .ok (.aload_n 2, 1) := by decide +kernel
theorem dL_law_814 : decode cL_law 814 = .ok (.aload_n 0, 1) := by decide +kernel
theorem dL_law_815 : decode cL_law 815 = .ok (.iload_n 3, 1) := by decide +kernel
theorem dL_law_816 : decode cL_law 816 = .ok (.iconst 1, 1) := by decide +kernel
theorem dL_law_817 : decode cL_law 817 = .ok (.iadd, 1) := by decide +kernel
theorem dL_law_818 : decode cL_law 818 = .ok (.iaload, 1) := by decide +kernel
theorem dL_law_819 : decode cL_law 819 = .ok (.invokevirtual 102, 3) := by decide +kernel
theorem dL_law_822 : decode cL_law 822 = .ok (.if_icmp .eq 501, 3) := by decide +kernel
theorem dL_law_825 : decode cL_law 825 = .ok (.iconst 0, 1) := by decide +kernel
theorem dL_law_826 : decode cL_law 826 = .ok (.ireturn, 1) := by decide +kernel
theorem dL_law_827 : decode cL_law 827 = .ok (.aload_n 1, 1) := by decide +kernel
theorem dL_law_828 : decode cL_law 828 = .ok (.aload_n 0, 1) := by decide +kernel
theorem dL_law_829 : decode cL_law 829 = .ok (.iload_n 3, 1) := by decide +kernel
theorem dL_law_830 : decode cL_law 830 = .ok (.iconst 1, 1) := by decide +kernel
theorem dL_law_831 : decode cL_law 831 = .ok (.iadd, 1) := by decide +kernel
theorem dL_law_832 : decode cL_law 832 = .ok (.iaload, 1) := by decide +kernel
theorem dL_law_833 : decode cL_law 833 = .ok (.invokevirtual 103, 3) := by decide +kernel
theorem dL_law_836 : decode cL_law 836 = .ok (.aload_n 2, 1) := by decide +kernel
theorem dL_law_837 : decode cL_law 837 = .ok (.aload_n 0, 1) := by decide +kernel
theorem dL_law_838 : decode cL_law 838 = .ok (.iload_n 3, 1) := by decide +kernel
theorem dL_law_839 : decode cL_law 839 = .ok (.iconst 1, 1) := by decide +kernel
theorem dL_law_840 : decode cL_law 840 = .ok (.iadd, 1) := by decide +kernel
theorem dL_law_841 : decode cL_law 841 = .ok (.iaload, 1) := by decide +kernel
theorem dL_law_842 : decode cL_law 842 = .ok (.invokevirtual 106, 3) := by decide +kernel
theorem dL_law_845 : decode cL_law 845 = .ok (.if_icmp .eq 478, 3) := by decide +kernel
theorem dL_law_848 : decode cL_law 848 = .ok (.iconst 0, 1) := by decide +kernel
theorem dL_law_849 : decode cL_law 849 = .ok (.ireturn, 1) := by decide +kernel
theorem dL_law_850 : decode cL_law 850 = .ok (.aload_n 1, 1) := by decide +kernel
theorem dL_law_851 : decode cL_law 851 = .ok (.aload_n 0, 1) := by decide +kernel
theorem dL_law_852 : decode cL_law 852 = .ok (.iload_n 3, 1) := by decide +kernel
theorem dL_law_853 : decode cL_law 853 = .ok (.iconst 1, 1) := by decide +kernel
theorem dL_law_854 : decode cL_law 854 = .ok (.iadd, 1) := by decide +kernel
theorem dL_law_855 : decode cL_law 855 = .ok (.iaload, 1) := by decide +kernel
theorem dL_law_856 : decode cL_law 856 = .ok (.aload_n 0, 1) := by decide +kernel
theorem dL_law_857 : decode cL_law 857 = .ok (.iload_n 3, 1) := by decide +kernel
theorem dL_law_858 : decode cL_law 858 = .ok (.iconst 2, 1) := by decide +kernel
theorem dL_law_859 : decode cL_law 859 = .ok (.iadd, 1) := by decide +kernel
theorem dL_law_860 : decode cL_law 860 = .ok (.iaload, 1) := by decide +kernel
theorem dL_law_861 : decode cL_law 861 = .ok (.invokevirtual 107, 3) := by decide +kernel
theorem dL_law_864 : decode cL_law 864 = .ok (.aload_n 2, 1) := by decide +kernel
theorem dL_law_865 : decode cL_law 865 = .ok (.aload_n 0, 1) := by decide +kernel
theorem dL_law_866 : decode cL_law 866 = .ok (.iload_n 3, 1) := by decide +kernel
theorem dL_law_867 : decode cL_law 867 = .ok (.iconst 1, 1) := by decide +kernel
theorem dL_law_868 : decode cL_law 868 = .ok (.iadd, 1) := by decide +kernel
theorem dL_law_869 : decode cL_law 869 = .ok (.iaload, 1) := by decide +kernel
theorem dL_law_870 : decode cL_law 870 = .ok (.aload_n 0, 1) := by decide +kernel
theorem dL_law_871 : decode cL_law 871 = .ok (.iload_n 3, 1) := by decide +kernel
theorem dL_law_872 : decode cL_law 872 = .ok (.iconst 2, 1) := by decide +kernel
theorem dL_law_873 : decode cL_law 873 = .ok (.iadd, 1) := by decide +kernel
theorem dL_law_874 : decode cL_law 874 = .ok (.iaload, 1) := by decide +kernel
theorem dL_law_875 : decode cL_law 875 = .ok (.invokevirtual 110, 3) := by decide +kernel
theorem dL_law_878 : decode cL_law 878 = .ok (.if_icmp .eq 445, 3) := by decide +kernel
theorem dL_law_881 : decode cL_law 881 = .ok (.iconst 0, 1) := by decide +kernel
theorem dL_law_882 : decode cL_law 882 = .ok (.ireturn, 1) := by decide +kernel
theorem dL_law_883 : decode cL_law 883 = .ok (.aload_n 1, 1) := by decide +kernel
theorem dL_law_884 : decode cL_law 884 = .ok (.aload_n 0, 1) := by decide +kernel
theorem dL_law_885 : decode cL_law 885 = .ok (.iload_n 3, 1) := by decide +kernel
theorem dL_law_886 : decode cL_law 886 = .ok (.iconst 1, 1) := by decide +kernel
theorem dL_law_887 : decode cL_law 887 = .ok (.iadd, 1) := by decide +kernel
theorem dL_law_888 : decode cL_law 888 = .ok (.iaload, 1) := by decide +kernel
theorem dL_law_889 : decode cL_law 889 = .ok (.aload_n 0, 1) := by decide +kernel
theorem dL_law_890 : decode cL_law 890 = .ok (.iload_n 3, 1) := by decide +kernel
theorem dL_law_891 : decode cL_law 891 = .ok (.iconst 2, 1) := by decide +kernel
theorem dL_law_892 : decode cL_law 892 = .ok (.iadd, 1) := by decide +kernel
theorem dL_law_893 : decode cL_law 893 = .ok (.iaload, 1) := by decide +kernel
theorem dL_law_894 : decode cL_law 894 = .ok (.invokevirtual 111, 3) := by decide +kernel
theorem dL_law_897 : decode cL_law 897 = .ok (.aload_n 2, 1) := by decide +kernel
theorem dL_law_898 : decode cL_law 898 = .ok (.aload_n 0, 1) := by decide +kernel
theorem dL_law_899 : decode cL_law 899 = .ok (.iload_n 3, 1) := by decide +kernel
theorem dL_law_900 : decode cL_law 900 = .ok (.iconst 1, 1) := by decide +kernel
theorem dL_law_901 : decode cL_law 901 = .ok (.iadd, 1) := by decide +kernel
theorem dL_law_902 : decode cL_law 902 = .ok (.iaload, 1) := by decide +kernel
theorem dL_law_903 : decode cL_law 903 = .ok (.aload_n 0, 1) := by decide +kernel
theorem dL_law_904 : decode cL_law 904 = .ok (.iload_n 3, 1) := by decide +kernel
theorem dL_law_905 : decode cL_law 905 = .ok (.iconst 2, 1) := by decide +kernel
theorem dL_law_906 : decode cL_law 906 = .ok (.iadd, 1) := by decide +kernel
theorem dL_law_907 : decode cL_law 907 = .ok (.iaload, 1) := by decide +kernel
theorem dL_law_908 : decode cL_law 908 = .ok (.invokevirtual 114, 3) := by decide +kernel
theorem dL_law_911 : decode cL_law 911 = .ok (.if_icmp .eq 412, 3) := by decide +kernel
theorem dL_law_914 : decode cL_law 914 = .ok (.iconst 0, 1) := by decide +kernel
theorem dL_law_915 : decode cL_law 915 = .ok (.ireturn, 1) := by decide +kernel
theorem dL_law_916 : decode cL_law 916 = .ok (.aload_n 1, 1) := by decide +kernel
theorem dL_law_917 : decode cL_law 917 = .ok (.aload_n 0, 1) := by decide +kernel
theorem dL_law_918 : decode cL_law 918 = .ok (.iload_n 3, 1) := by decide +kernel
theorem dL_law_919 : decode cL_law 919 = .ok (.iconst 1, 1) := by decide +kernel
theorem dL_law_920 : decode cL_law 920 = .ok (.iadd, 1) := by decide +kernel
theorem dL_law_921 : decode cL_law 921 = .ok (.iaload, 1) := by decide +kernel
theorem dL_law_922 : decode cL_law 922 = .ok (.aload_n 0, 1) := by decide +kernel
theorem dL_law_923 : decode cL_law 923 = .ok (.iload_n 3, 1) := by decide +kernel
theorem dL_law_924 : decode cL_law 924 = .ok (.iconst 2, 1) := by decide +kernel
theorem dL_law_925 : decode cL_law 925 = .ok (.iadd, 1) := by decide +kernel
theorem dL_law_926 : decode cL_law 926 = .ok (.iaload, 1) := by decide +kernel
theorem dL_law_927 : decode cL_law 927 = .ok (.aload_n 0, 1) := by decide +kernel
theorem dL_law_928 : decode cL_law 928 = .ok (.iload_n 3, 1) := by decide +kernel
theorem dL_law_929 : decode cL_law 929 = .ok (.iconst 3, 1) := by decide +kernel
theorem dL_law_930 : decode cL_law 930 = .ok (.iadd, 1) := by decide +kernel
theorem dL_law_931 : decode cL_law 931 = .ok (.iaload, 1) := by decide +kernel
theorem dL_law_932 : decode cL_law 932 = .ok (.aload_n 0, 1) := by decide +kernel
theorem dL_law_933 : decode cL_law 933 = .ok (.iload_n 3, 1) := by decide +kernel
theorem dL_law_934 : decode cL_law 934 = .ok (.iconst 4, 1) := by decide +kernel
theorem dL_law_935 : decode cL_law 935 = .ok (.iadd, 1) := by decide +kernel
theorem dL_law_936 : decode cL_law 936 = .ok (.iaload, 1) := by decide +kernel
theorem dL_law_937 : decode cL_law 937 = .ok (.aload_n 0, 1) := by decide +kernel
theorem dL_law_938 : decode cL_law 938 = .ok (.iload_n 3, 1) := by decide +kernel
theorem dL_law_939 : decode cL_law 939 = .ok (.iconst 5, 1) := by decide +kernel
theorem dL_law_940 : decode cL_law 940 = .ok (.iadd, 1) := by decide +kernel
theorem dL_law_941 : decode cL_law 941 = .ok (.iaload, 1) := by decide +kernel
theorem dL_law_942 : decode cL_law 942 = .ok (.invokevirtual 115, 3) := by decide +kernel
theorem dL_law_945 : decode cL_law 945 = .ok (.aload_n 2, 1) := by decide +kernel
theorem dL_law_946 : decode cL_law 946 = .ok (.aload_n 0, 1) := by decide +kernel
theorem dL_law_947 : decode cL_law 947 = .ok (.iload_n 3, 1) := by decide +kernel
theorem dL_law_948 : decode cL_law 948 = .ok (.iconst 1, 1) := by decide +kernel
theorem dL_law_949 : decode cL_law 949 = .ok (.iadd, 1) := by decide +kernel
theorem dL_law_950 : decode cL_law 950 = .ok (.iaload, 1) := by decide +kernel
theorem dL_law_951 : decode cL_law 951 = .ok (.aload_n 0, 1) := by decide +kernel
theorem dL_law_952 : decode cL_law 952 = .ok (.iload_n 3, 1) := by decide +kernel
theorem dL_law_953 : decode cL_law 953 = .ok (.iconst 2, 1) := by decide +kernel
theorem dL_law_954 : decode cL_law 954 = .ok (.iadd, 1) := by decide +kernel
theorem dL_law_955 : decode cL_law 955 = .ok (.iaload, 1) := by decide +kernel
theorem dL_law_956 : decode cL_law 956 = .ok (.aload_n 0, 1) := by decide +kernel
theorem dL_law_957 : decode cL_law 957 = .ok (.iload_n 3, 1) := by decide +kernel
theorem dL_law_958 : decode cL_law 958 = .ok (.iconst 3, 1) := by decide +kernel
theorem dL_law_959 : decode cL_law 959 = .ok (.iadd, 1) := by decide +kernel
theorem dL_law_960 : decode cL_law 960 = .ok (.iaload, 1) := by decide +kernel
theorem dL_law_961 : decode cL_law 961 = .ok (.aload_n 0, 1) := by decide +kernel
theorem dL_law_962 : decode cL_law 962 = .ok (.iload_n 3, 1) := by decide +kernel
theorem dL_law_963 : decode cL_law 963 = .ok (.iconst 4, 1) := by decide +kernel
theorem dL_law_964 : decode cL_law 964 = .ok (.iadd, 1) := by decide +kernel
theorem dL_law_965 : decode cL_law 965 = .ok (.iaload, 1) := by decide +kernel
theorem dL_law_966 : decode cL_law 966 = .ok (.aload_n 0, 1) := by decide +kernel
theorem dL_law_967 : decode cL_law 967 = .ok (.iload_n 3, 1) := by decide +kernel
theorem dL_law_968 : decode cL_law 968 = .ok (.iconst 5, 1) := by decide +kernel
theorem dL_law_969 : decode cL_law 969 = .ok (.iadd, 1) := by decide +kernel
theorem dL_law_970 : decode cL_law 970 = .ok (.iaload, 1) := by decide +kernel
theorem dL_law_971 : decode cL_law 971 = .ok (.invokevirtual 119, 3) := by decide +kernel
theorem dL_law_974 : decode cL_law 974 = .ok (.if_icmp .eq 349, 3) := by decide +kernel
theorem dL_law_977 : decode cL_law 977 = .ok (.iconst 0, 1) := by decide +kernel
theorem dL_law_978 : decode cL_law 978 = .ok (.ireturn, 1) := by decide +kernel
theorem dL_law_979 : decode cL_law 979 = .ok (.aload_n 1, 1) := by decide +kernel
theorem dL_law_980 : decode cL_law 980 = .ok (.aload_n 0, 1) := by decide +kernel
theorem dL_law_981 : decode cL_law 981 = .ok (.iload_n 3, 1) := by decide +kernel
theorem dL_law_982 : decode cL_law 982 = .ok (.iconst 1, 1) := by decide +kernel
theorem dL_law_983 : decode cL_law 983 = .ok (.iadd, 1) := by decide +kernel
theorem dL_law_984 : decode cL_law 984 = .ok (.iaload, 1) := by decide +kernel
theorem dL_law_985 : decode cL_law 985 = .ok (.aload_n 0, 1) := by decide +kernel
theorem dL_law_986 : decode cL_law 986 = .ok (.iload_n 3, 1) := by decide +kernel
theorem dL_law_987 : decode cL_law 987 = .ok (.iconst 2, 1) := by decide +kernel
theorem dL_law_988 : decode cL_law 988 = .ok (.iadd, 1) := by decide +kernel
theorem dL_law_989 : decode cL_law 989 = .ok (.iaload, 1) := by decide +kernel
theorem dL_law_990 : decode cL_law 990 = .ok (.aload_n 0, 1) := by decide +kernel
theorem dL_law_991 : decode cL_law 991 = .ok (.iload_n 3, 1) := by decide +kernel
theorem dL_law_992 : decode cL_law 992 = .ok (.iconst 3, 1) := by decide +kernel
theorem dL_law_993 : decode cL_law 993 = .ok (.iadd, 1) := by decide +kernel
theorem dL_law_994 : decode cL_law 994 = .ok (.iaload, 1) := by decide +kernel
theorem dL_law_995 : decode cL_law 995 = .ok (.invokevirtual 120, 3) := by decide +kernel
theorem dL_law_998 : decode cL_law 998 = .ok (.aload_n 2, 1) := by decide +kernel
theorem dL_law_999 : decode cL_law 999 = .ok (.aload_n 0, 1) := by decide +kernel
theorem dL_law_1000 : decode cL_law 1000 = .ok (.iload_n 3, 1) := by decide +kernel
theorem dL_law_1001 : decode cL_law 1001 = .ok (.iconst 1, 1) := by decide +kernel
theorem dL_law_1002 : decode cL_law 1002 = .ok (.iadd, 1) := by decide +kernel
theorem dL_law_1003 : decode cL_law 1003 = .ok (.iaload, 1) := by decide +kernel
theorem dL_law_1004 : decode cL_law 1004 = .ok (.aload_n 0, 1) := by decide +kernel
theorem dL_law_1005 : decode cL_law 1005 = .ok (.iload_n 3, 1) := by decide +kernel
theorem dL_law_1006 : decode cL_law 1006 = .ok (.iconst 2, 1) := by decide +kernel
theorem dL_law_1007 : decode cL_law 1007 = .ok (.iadd, 1) := by decide +kernel
theorem dL_law_1008 : decode cL_law 1008 = .ok (.iaload, 1) := by decide +kernel
theorem dL_law_1009 : decode cL_law 1009 = .ok (.aload_n 0, 1) := by decide +kernel
theorem dL_law_1010 : decode cL_law 1010 = .ok (.iload_n 3, 1) := by decide +kernel
theorem dL_law_1011 : decode cL_law 1011 = .ok (.iconst 3, 1) := by decide +kernel
theorem dL_law_1012 : decode cL_law 1012 = .ok (.iadd, 1) := by decide +kernel
theorem dL_law_1013 : decode cL_law 1013 = .ok (.iaload, 1) := by decide +kernel
theorem dL_law_1014 : decode cL_law 1014 = .ok (.invokevirtual 123, 3) := by decide +kernel
theorem dL_law_1017 : decode cL_law 1017 = .ok (.if_icmp .eq 306, 3) := by decide +kernel
theorem dL_law_1020 : decode cL_law 1020 = .ok (.iconst 0, 1) := by decide +kernel
theorem dL_law_1021 : decode cL_law 1021 = .ok (.ireturn, 1) := by decide +kernel
theorem dL_law_1022 : decode cL_law 1022 = .ok (.aload_n 1, 1) := by decide +kernel
theorem dL_law_1023 : decode cL_law 1023 = .ok (.aload_n 0, 1) := by decide +kernel
theorem dL_law_1024 : decode cL_law 1024 = .ok (.iload_n 3, 1) := by decide +kernel
theorem dL_law_1025 : decode cL_law 1025 = .ok (.iconst 1, 1) := by decide +kernel
theorem dL_law_1026 : decode cL_law 1026 = .ok (.iadd, 1) := by decide +kernel
theorem dL_law_1027 : decode cL_law 1027 = .ok (.iaload, 1) := by decide +kernel
theorem dL_law_1028 : decode cL_law 1028 = .ok (.invokevirtual 124, 3) := by decide +kernel
theorem dL_law_1031 : decode cL_law 1031 = .ok (.aload_n 2, 1) := by decide +kernel
theorem dL_law_1032 : decode cL_law 1032 = .ok (.aload_n 0, 1) := by decide +kernel
theorem dL_law_1033 : decode cL_law 1033 = .ok (.iload_n 3, 1) := by decide +kernel
theorem dL_law_1034 : decode cL_law 1034 = .ok (.iconst 1, 1) := by decide +kernel
theorem dL_law_1035 : decode cL_law 1035 = .ok (.iadd, 1) := by decide +kernel
theorem dL_law_1036 : decode cL_law 1036 = .ok (.iaload, 1) := by decide +kernel
theorem dL_law_1037 : decode cL_law 1037 = .ok (.invokevirtual 127, 3) := by decide +kernel
theorem dL_law_1040 : decode cL_law 1040 = .ok (.if_icmp .eq 283, 3) := by decide +kernel
theorem dL_law_1043 : decode cL_law 1043 = .ok (.iconst 0, 1) := by decide +kernel
theorem dL_law_1044 : decode cL_law 1044 = .ok (.ireturn, 1) := by decide +kernel
theorem dL_law_1045 : decode cL_law 1045 = .ok (.aload_n 1, 1) := by decide +kernel
theorem dL_law_1046 : decode cL_law 1046 = .ok (.aload_n 0, 1) := by decide +kernel
theorem dL_law_1047 : decode cL_law 1047 = .ok (.iload_n 3, 1) := by decide +kernel
theorem dL_law_1048 : decode cL_law 1048 = .ok (.iconst 1, 1) := by decide +kernel
theorem dL_law_1049 : decode cL_law 1049 = .ok (.iadd, 1) := by decide +kernel
theorem dL_law_1050 : decode cL_law 1050 = .ok (.iaload, 1) := by decide +kernel
theorem dL_law_1051 : decode cL_law 1051 = .ok (.aload_n 0, 1) := by decide +kernel
theorem dL_law_1052 : decode cL_law 1052 = .ok (.iload_n 3, 1) := by decide +kernel
theorem dL_law_1053 : decode cL_law 1053 = .ok (.iconst 2, 1) := by decide +kernel
theorem dL_law_1054 : decode cL_law 1054 = .ok (.iadd, 1) := by decide +kernel
theorem dL_law_1055 : decode cL_law 1055 = .ok (.iaload, 1) := by decide +kernel
theorem dL_law_1056 : decode cL_law 1056 = .ok (.aload_n 0, 1) := by decide +kernel
theorem dL_law_1057 : decode cL_law 1057 = .ok (.iload_n 3, 1) := by decide +kernel
theorem dL_law_1058 : decode cL_law 1058 = .ok (.iconst 3, 1) := by decide +kernel
theorem dL_law_1059 : decode cL_law 1059 = .ok (.iadd, 1) := by decide +kernel
theorem dL_law_1060 : decode cL_law 1060 = .ok (.iaload, 1) := by decide +kernel
theorem dL_law_1061 : decode cL_law 1061 = .ok (.invokevirtual 128, 3) := by decide +kernel
theorem dL_law_1064 : decode cL_law 1064 = .ok (.aload_n 2, 1) := by decide +kernel
theorem dL_law_1065 : decode cL_law 1065 = .ok (.aload_n 0, 1) := by decide +kernel
theorem dL_law_1066 : decode cL_law 1066 = .ok (.iload_n 3, 1) := by decide +kernel
theorem dL_law_1067 : decode cL_law 1067 = .ok (.iconst 1, 1) := by decide +kernel
theorem dL_law_1068 : decode cL_law 1068 = .ok (.iadd, 1) := by decide +kernel
theorem dL_law_1069 : decode cL_law 1069 = .ok (.iaload, 1) := by decide +kernel
theorem dL_law_1070 : decode cL_law 1070 = .ok (.aload_n 0, 1) := by decide +kernel
theorem dL_law_1071 : decode cL_law 1071 = .ok (.iload_n 3, 1) := by decide +kernel
theorem dL_law_1072 : decode cL_law 1072 = .ok (.iconst 2, 1) := by decide +kernel
theorem dL_law_1073 : decode cL_law 1073 = .ok (.iadd, 1) := by decide +kernel
theorem dL_law_1074 : decode cL_law 1074 = .ok (.iaload, 1) := by decide +kernel
theorem dL_law_1075 : decode cL_law 1075 = .ok (.aload_n 0, 1) := by decide +kernel
theorem dL_law_1076 : decode cL_law 1076 = .ok (.iload_n 3, 1) := by decide +kernel
theorem dL_law_1077 : decode cL_law 1077 = .ok (.iconst 3, 1) := by decide +kernel
theorem dL_law_1078 : decode cL_law 1078 = .ok (.iadd, 1) := by decide +kernel
theorem dL_law_1079 : decode cL_law 1079 = .ok (.iaload, 1) := by decide +kernel
theorem dL_law_1080 : decode cL_law 1080 = .ok (.invokevirtual 131, 3) := by decide +kernel
theorem dL_law_1083 : decode cL_law 1083 = .ok (.if_icmp .eq 240, 3) := by decide +kernel
theorem dL_law_1086 : decode cL_law 1086 = .ok (.iconst 0, 1) := by decide +kernel
theorem dL_law_1087 : decode cL_law 1087 = .ok (.ireturn, 1) := by decide +kernel
theorem dL_law_1088 : decode cL_law 1088 = .ok (.aload_n 1, 1) := by decide +kernel
theorem dL_law_1089 : decode cL_law 1089 = .ok (.aload_n 0, 1) := by decide +kernel
theorem dL_law_1090 : decode cL_law 1090 = .ok (.iload_n 3, 1) := by decide +kernel
theorem dL_law_1091 : decode cL_law 1091 = .ok (.iconst 1, 1) := by decide +kernel
theorem dL_law_1092 : decode cL_law 1092 = .ok (.iadd, 1) := by decide +kernel
theorem dL_law_1093 : decode cL_law 1093 = .ok (.iaload, 1) := by decide +kernel
theorem dL_law_1094 : decode cL_law 1094 = .ok (.aload_n 0, 1) := by decide +kernel
theorem dL_law_1095 : decode cL_law 1095 = .ok (.iload_n 3, 1) := by decide +kernel
theorem dL_law_1096 : decode cL_law 1096 = .ok (.iconst 2, 1) := by decide +kernel
theorem dL_law_1097 : decode cL_law 1097 = .ok (.iadd, 1) := by decide +kernel
theorem dL_law_1098 : decode cL_law 1098 = .ok (.iaload, 1) := by decide +kernel
theorem dL_law_1099 : decode cL_law 1099 = .ok (.aload_n 0, 1) := by decide +kernel
theorem dL_law_1100 : decode cL_law 1100 = .ok (.iload_n 3, 1) := by decide +kernel
theorem dL_law_1101 : decode cL_law 1101 = .ok (.iconst 3, 1) := by decide +kernel
theorem dL_law_1102 : decode cL_law 1102 = .ok (.iadd, 1) := by decide +kernel
theorem dL_law_1103 : decode cL_law 1103 = .ok (.iaload, 1) := by decide +kernel
theorem dL_law_1104 : decode cL_law 1104 = .ok (.invokevirtual 132, 3) := by decide +kernel
theorem dL_law_1107 : decode cL_law 1107 = .ok (.aload_n 2, 1) := by decide +kernel
theorem dL_law_1108 : decode cL_law 1108 = .ok (.aload_n 0, 1) := by decide +kernel
theorem dL_law_1109 : decode cL_law 1109 = .ok (.iload_n 3, 1) := by decide +kernel
theorem dL_law_1110 : decode cL_law 1110 = .ok (.iconst 1, 1) := by decide +kernel
theorem dL_law_1111 : decode cL_law 1111 = .ok (.iadd, 1) := by decide +kernel
theorem dL_law_1112 : decode cL_law 1112 = .ok (.iaload, 1) := by decide +kernel
theorem dL_law_1113 : decode cL_law 1113 = .ok (.aload_n 0, 1) := by decide +kernel
theorem dL_law_1114 : decode cL_law 1114 = .ok (.iload_n 3, 1) := by decide +kernel
theorem dL_law_1115 : decode cL_law 1115 = .ok (.iconst 2, 1) := by decide +kernel
theorem dL_law_1116 : decode cL_law 1116 = .ok (.iadd, 1) := by decide +kernel
theorem dL_law_1117 : decode cL_law 1117 = .ok (.iaload, 1) := by decide +kernel
theorem dL_law_1118 : decode cL_law 1118 = .ok (.aload_n 0, 1) := by decide +kernel
theorem dL_law_1119 : decode cL_law 1119 = .ok (.iload_n 3, 1) := by decide +kernel
theorem dL_law_1120 : decode cL_law 1120 = .ok (.iconst 3, 1) := by decide +kernel
theorem dL_law_1121 : decode cL_law 1121 = .ok (.iadd, 1) := by decide +kernel
theorem dL_law_1122 : decode cL_law 1122 = .ok (.iaload, 1) := by decide +kernel
theorem dL_law_1123 : decode cL_law 1123 = .ok (.invokevirtual 136, 3) := by decide +kernel
theorem dL_law_1126 : decode cL_law 1126 = .ok (.lcmp, 1) := by decide +kernel
theorem dL_law_1127 : decode cL_law 1127 = .ok (.ifCond .eq 196, 3) := by decide +kernel
theorem dL_law_1130 : decode cL_law 1130 = .ok (.iconst 0, 1) := by decide +kernel
theorem dL_law_1131 : decode cL_law 1131 = .ok (.ireturn, 1) := by decide +kernel
theorem dL_law_1132 : decode cL_law 1132 = .ok (.aload_n 1, 1) := by decide +kernel
theorem dL_law_1133 : decode cL_law 1133 = .ok (.aload_n 0, 1) := by decide +kernel
theorem dL_law_1134 : decode cL_law 1134 = .ok (.iload_n 3, 1) := by decide +kernel
theorem dL_law_1135 : decode cL_law 1135 = .ok (.iconst 1, 1) := by decide +kernel
theorem dL_law_1136 : decode cL_law 1136 = .ok (.iadd, 1) := by decide +kernel
theorem dL_law_1137 : decode cL_law 1137 = .ok (.iaload, 1) := by decide +kernel
theorem dL_law_1138 : decode cL_law 1138 = .ok (.aload_n 0, 1) := by decide +kernel
theorem dL_law_1139 : decode cL_law 1139 = .ok (.iload_n 3, 1) := by decide +kernel
theorem dL_law_1140 : decode cL_law 1140 = .ok (.iconst 2, 1) := by decide +kernel
theorem dL_law_1141 : decode cL_law 1141 = .ok (.iadd, 1) := by decide +kernel
theorem dL_law_1142 : decode cL_law 1142 = .ok (.iaload, 1) := by decide +kernel
theorem dL_law_1143 : decode cL_law 1143 = .ok (.aload_n 0, 1) := by decide +kernel
theorem dL_law_1144 : decode cL_law 1144 = .ok (.iload_n 3, 1) := by decide +kernel
theorem dL_law_1145 : decode cL_law 1145 = .ok (.iconst 3, 1) := by decide +kernel
theorem dL_law_1146 : decode cL_law 1146 = .ok (.iadd, 1) := by decide +kernel
theorem dL_law_1147 : decode cL_law 1147 = .ok (.iaload, 1) := by decide +kernel
theorem dL_law_1148 : decode cL_law 1148 = .ok (.aload_n 0, 1) := by decide +kernel
theorem dL_law_1149 : decode cL_law 1149 = .ok (.iload_n 3, 1) := by decide +kernel
theorem dL_law_1150 : decode cL_law 1150 = .ok (.iconst 4, 1) := by decide +kernel
theorem dL_law_1151 : decode cL_law 1151 = .ok (.iadd, 1) := by decide +kernel
theorem dL_law_1152 : decode cL_law 1152 = .ok (.iaload, 1) := by decide +kernel
theorem dL_law_1153 : decode cL_law 1153 = .ok (.aload_n 0, 1) := by decide +kernel
theorem dL_law_1154 : decode cL_law 1154 = .ok (.iload_n 3, 1) := by decide +kernel
theorem dL_law_1155 : decode cL_law 1155 = .ok (.iconst 5, 1) := by decide +kernel
theorem dL_law_1156 : decode cL_law 1156 = .ok (.iadd, 1) := by decide +kernel
theorem dL_law_1157 : decode cL_law 1157 = .ok (.iaload, 1) := by decide +kernel
theorem dL_law_1158 : decode cL_law 1158 = .ok (.invokevirtual 137, 3) := by decide +kernel
theorem dL_law_1161 : decode cL_law 1161 = .ok (.aload_n 2, 1) := by decide +kernel
theorem dL_law_1162 : decode cL_law 1162 = .ok (.aload_n 0, 1) := by decide +kernel
theorem dL_law_1163 : decode cL_law 1163 = .ok (.iload_n 3, 1) := by decide +kernel
theorem dL_law_1164 : decode cL_law 1164 = .ok (.iconst 1, 1) := by decide +kernel
theorem dL_law_1165 : decode cL_law 1165 = .ok (.iadd, 1) := by decide +kernel
theorem dL_law_1166 : decode cL_law 1166 = .ok (.iaload, 1) := by decide +kernel
theorem dL_law_1167 : decode cL_law 1167 = .ok (.aload_n 0, 1) := by decide +kernel
theorem dL_law_1168 : decode cL_law 1168 = .ok (.iload_n 3, 1) := by decide +kernel
theorem dL_law_1169 : decode cL_law 1169 = .ok (.iconst 2, 1) := by decide +kernel
theorem dL_law_1170 : decode cL_law 1170 = .ok (.iadd, 1) := by decide +kernel
theorem dL_law_1171 : decode cL_law 1171 = .ok (.iaload, 1) := by decide +kernel
theorem dL_law_1172 : decode cL_law 1172 = .ok (.aload_n 0, 1) := by decide +kernel
theorem dL_law_1173 : decode cL_law 1173 = .ok (.iload_n 3, 1) := by decide +kernel
theorem dL_law_1174 : decode cL_law 1174 = .ok (.iconst 3, 1) := by decide +kernel
theorem dL_law_1175 : decode cL_law 1175 = .ok (.iadd, 1) := by decide +kernel
theorem dL_law_1176 : decode cL_law 1176 = .ok (.iaload, 1) := by decide +kernel
theorem dL_law_1177 : decode cL_law 1177 = .ok (.aload_n 0, 1) := by decide +kernel
theorem dL_law_1178 : decode cL_law 1178 = .ok (.iload_n 3, 1) := by decide +kernel
theorem dL_law_1179 : decode cL_law 1179 = .ok (.iconst 4, 1) := by decide +kernel
theorem dL_law_1180 : decode cL_law 1180 = .ok (.iadd, 1) := by decide +kernel
theorem dL_law_1181 : decode cL_law 1181 = .ok (.iaload, 1) := by decide +kernel
theorem dL_law_1182 : decode cL_law 1182 = .ok (.aload_n 0, 1) := by decide +kernel
theorem dL_law_1183 : decode cL_law 1183 = .ok (.iload_n 3, 1) := by decide +kernel
theorem dL_law_1184 : decode cL_law 1184 = .ok (.iconst 5, 1) := by decide +kernel
theorem dL_law_1185 : decode cL_law 1185 = .ok (.iadd, 1) := by decide +kernel
theorem dL_law_1186 : decode cL_law 1186 = .ok (.iaload, 1) := by decide +kernel
theorem dL_law_1187 : decode cL_law 1187 = .ok (.invokevirtual 140, 3) := by decide +kernel
theorem dL_law_1190 : decode cL_law 1190 = .ok (.if_icmp .eq 133, 3) := by decide +kernel
theorem dL_law_1193 : decode cL_law 1193 = .ok (.iconst 0, 1) := by decide +kernel
theorem dL_law_1194 : decode cL_law 1194 = .ok (.ireturn, 1) := by decide +kernel
theorem dL_law_1195 : decode cL_law 1195 = .ok (.aload_n 1, 1) := by decide +kernel
theorem dL_law_1196 : decode cL_law 1196 = .ok (.aload_n 0, 1) := by decide +kernel
theorem dL_law_1197 : decode cL_law 1197 = .ok (.iload_n 3, 1) := by decide +kernel
theorem dL_law_1198 : decode cL_law 1198 = .ok (.iconst 1, 1) := by decide +kernel
theorem dL_law_1199 : decode cL_law 1199 = .ok (.iadd, 1) := by decide +kernel
theorem dL_law_1200 : decode cL_law 1200 = .ok (.iaload, 1) := by decide +kernel
theorem dL_law_1201 : decode cL_law 1201 = .ok (.invokevirtual 141, 3) := by decide +kernel
theorem dL_law_1204 : decode cL_law 1204 = .ok (.aload_n 2, 1) := by decide +kernel
theorem dL_law_1205 : decode cL_law 1205 = .ok (.aload_n 0, 1) := by decide +kernel
theorem dL_law_1206 : decode cL_law 1206 = .ok (.iload_n 3, 1) := by decide +kernel
theorem dL_law_1207 : decode cL_law 1207 = .ok (.iconst 1, 1) := by decide +kernel
theorem dL_law_1208 : decode cL_law 1208 = .ok (.iadd, 1) := by decide +kernel
theorem dL_law_1209 : decode cL_law 1209 = .ok (.iaload, 1) := by decide +kernel
theorem dL_law_1210 : decode cL_law 1210 = .ok (.invokevirtual 144, 3) := by decide +kernel
theorem dL_law_1213 : decode cL_law 1213 = .ok (.if_icmp .eq 110, 3) := by decide +kernel
theorem dL_law_1216 : decode cL_law 1216 = .ok (.iconst 0, 1) := by decide +kernel
theorem dL_law_1217 : decode cL_law 1217 = .ok (.ireturn, 1) := by decide +kernel
theorem dL_law_1218 : decode cL_law 1218 = .ok (.aload_n 1, 1) := by decide +kernel
theorem dL_law_1219 : decode cL_law 1219 = .ok (.aload_n 0, 1) := by decide +kernel
theorem dL_law_1220 : decode cL_law 1220 = .ok (.iload_n 3, 1) := by decide +kernel
theorem dL_law_1221 : decode cL_law 1221 = .ok (.iconst 1, 1) := by decide +kernel
theorem dL_law_1222 : decode cL_law 1222 = .ok (.iadd, 1) := by decide +kernel
theorem dL_law_1223 : decode cL_law 1223 = .ok (.iaload, 1) := by decide +kernel
theorem dL_law_1224 : decode cL_law 1224 = .ok (.invokevirtual 145, 3) := by decide +kernel
theorem dL_law_1227 : decode cL_law 1227 = .ok (.aload_n 2, 1) := by decide +kernel
theorem dL_law_1228 : decode cL_law 1228 = .ok (.aload_n 0, 1) := by decide +kernel
theorem dL_law_1229 : decode cL_law 1229 = .ok (.iload_n 3, 1) := by decide +kernel
theorem dL_law_1230 : decode cL_law 1230 = .ok (.iconst 1, 1) := by decide +kernel
theorem dL_law_1231 : decode cL_law 1231 = .ok (.iadd, 1) := by decide +kernel
theorem dL_law_1232 : decode cL_law 1232 = .ok (.iaload, 1) := by decide +kernel
theorem dL_law_1233 : decode cL_law 1233 = .ok (.invokevirtual 148, 3) := by decide +kernel
theorem dL_law_1236 : decode cL_law 1236 = .ok (.if_icmp .eq 87, 3) := by decide +kernel
theorem dL_law_1239 : decode cL_law 1239 = .ok (.iconst 0, 1) := by decide +kernel
theorem dL_law_1240 : decode cL_law 1240 = .ok (.ireturn, 1) := by decide +kernel
theorem dL_law_1241 : decode cL_law 1241 = .ok (.aload_n 1, 1) := by decide +kernel
theorem dL_law_1242 : decode cL_law 1242 = .ok (.aload_n 0, 1) := by decide +kernel
theorem dL_law_1243 : decode cL_law 1243 = .ok (.iload_n 3, 1) := by decide +kernel
theorem dL_law_1244 : decode cL_law 1244 = .ok (.iconst 1, 1) := by decide +kernel
theorem dL_law_1245 : decode cL_law 1245 = .ok (.iadd, 1) := by decide +kernel
theorem dL_law_1246 : decode cL_law 1246 = .ok (.iaload, 1) := by decide +kernel
theorem dL_law_1247 : decode cL_law 1247 = .ok (.aload_n 0, 1) := by decide +kernel
theorem dL_law_1248 : decode cL_law 1248 = .ok (.iload_n 3, 1) := by decide +kernel
theorem dL_law_1249 : decode cL_law 1249 = .ok (.iconst 2, 1) := by decide +kernel
theorem dL_law_1250 : decode cL_law 1250 = .ok (.iadd, 1) := by decide +kernel
theorem dL_law_1251 : decode cL_law 1251 = .ok (.iaload, 1) := by decide +kernel
theorem dL_law_1252 : decode cL_law 1252 = .ok (.invokevirtual 149, 3) := by decide +kernel
theorem dL_law_1255 : decode cL_law 1255 = .ok (.aload_n 2, 1) := by decide +kernel
theorem dL_law_1256 : decode cL_law 1256 = .ok (.aload_n 0, 1) := by decide +kernel
theorem dL_law_1257 : decode cL_law 1257 = .ok (.iload_n 3, 1) := by decide +kernel
theorem dL_law_1258 : decode cL_law 1258 = .ok (.iconst 1, 1) := by decide +kernel
theorem dL_law_1259 : decode cL_law 1259 = .ok (.iadd, 1) := by decide +kernel
theorem dL_law_1260 : decode cL_law 1260 = .ok (.iaload, 1) := by decide +kernel
theorem dL_law_1261 : decode cL_law 1261 = .ok (.aload_n 0, 1) := by decide +kernel
theorem dL_law_1262 : decode cL_law 1262 = .ok (.iload_n 3, 1) := by decide +kernel
theorem dL_law_1263 : decode cL_law 1263 = .ok (.iconst 2, 1) := by decide +kernel
theorem dL_law_1264 : decode cL_law 1264 = .ok (.iadd, 1) := by decide +kernel
theorem dL_law_1265 : decode cL_law 1265 = .ok (.iaload, 1) := by decide +kernel
theorem dL_law_1266 : decode cL_law 1266 = .ok (.invokevirtual 152, 3) := by decide +kernel
theorem dL_law_1269 : decode cL_law 1269 = .ok (.if_icmp .eq 54, 3) := by decide +kernel
theorem dL_law_1272 : decode cL_law 1272 = .ok (.iconst 0, 1) := by decide +kernel
theorem dL_law_1273 : decode cL_law 1273 = .ok (.ireturn, 1) := by decide +kernel
theorem dL_law_1274 : decode cL_law 1274 = .ok (.aload_n 1, 1) := by decide +kernel
theorem dL_law_1275 : decode cL_law 1275 = .ok (.invokevirtual 153, 3) := by decide +kernel
theorem dL_law_1278 : decode cL_law 1278 = .ok (.aload_n 2, 1) := by decide +kernel
theorem dL_law_1279 : decode cL_law 1279 = .ok (.invokevirtual 156, 3) := by decide +kernel
theorem dL_law_1282 : decode cL_law 1282 = .ok (.if_icmp .eq 41, 3) := by decide +kernel
theorem dL_law_1285 : decode cL_law 1285 = .ok (.iconst 0, 1) := by decide +kernel
theorem dL_law_1286 : decode cL_law 1286 = .ok (.ireturn, 1) := by decide +kernel
theorem dL_law_1287 : decode cL_law 1287 = .ok (.aload_n 1, 1) := by decide +kernel
theorem dL_law_1288 : decode cL_law 1288 = .ok (.invokevirtual 157, 3) := by decide +kernel
theorem dL_law_1291 : decode cL_law 1291 = .ok (.aload_n 2, 1) := by decide +kernel
theorem dL_law_1292 : decode cL_law 1292 = .ok (.invokevirtual 160, 3) := by decide +kernel
theorem dL_law_1295 : decode cL_law 1295 = .ok (.if_icmp .eq 28, 3) := by decide +kernel
theorem dL_law_1298 : decode cL_law 1298 = .ok (.iconst 0, 1) := by decide +kernel
theorem dL_law_1299 : decode cL_law 1299 = .ok (.ireturn, 1) := by decide +kernel
theorem dL_law_1300 : decode cL_law 1300 = .ok (.aload_n 1, 1) := by decide +kernel
theorem dL_law_1301 : decode cL_law 1301 = .ok (.aload_n 0, 1) := by decide +kernel
theorem dL_law_1302 : decode cL_law 1302 = .ok (.iload_n 3, 1) := by decide +kernel
theorem dL_law_1303 : decode cL_law 1303 = .ok (.iconst 1, 1) := by decide +kernel
theorem dL_law_1304 : decode cL_law 1304 = .ok (.iadd, 1) := by decide +kernel
theorem dL_law_1305 : decode cL_law 1305 = .ok (.iaload, 1) := by decide +kernel
theorem dL_law_1306 : decode cL_law 1306 = .ok (.invokevirtual 161, 3) := by decide +kernel
theorem dL_law_1309 : decode cL_law 1309 = .ok (.aload_n 2, 1) := by decide +kernel
theorem dL_law_1310 : decode cL_law 1310 = .ok (.aload_n 0, 1) := by decide +kernel
theorem dL_law_1311 : decode cL_law 1311 = .ok (.iload_n 3, 1) := by decide +kernel
theorem dL_law_1312 : decode cL_law 1312 = .ok (.iconst 1, 1) := by decide +kernel
theorem dL_law_1313 : decode cL_law 1313 = .ok (.iadd, 1) := by decide +kernel
theorem dL_law_1314 : decode cL_law 1314 = .ok (.iaload, 1) := by decide +kernel
theorem dL_law_1315 : decode cL_law 1315 = .ok (.invokevirtual 164, 3) := by decide +kernel
theorem dL_law_1318 : decode cL_law 1318 = .ok (.if_icmp .eq 5, 3) := by decide +kernel
theorem dL_law_1321 : decode cL_law 1321 = .ok (.iconst 0, 1) := by decide +kernel
theorem dL_law_1322 : decode cL_law 1322 = .ok (.ireturn, 1) := by decide +kernel
theorem dL_law_1323 : decode cL_law 1323 = .ok (.iinc 3 6, 3) := by decide +kernel
theorem dL_law_1326 : decode cL_law 1326 = .ok (.goto (-1308), 3) := by decide +kernel
theorem dL_law_1329 : decode cL_law 1329 = .ok (.iconst 1, 1) := by decide +kernel
theorem dL_law_1330 : decode cL_law 1330 = .ok (.ireturn, 1) := by decide +kernel
end
section
/-! The judgement sw_J: the machine at a frame of one method, with the whole system's cells as one function sw_St (cell number, place) -> Int32, does what a pure expression e says. Rules: one a kind of instruction. -/
abbrev sw_St : Type := Nat → Nat → Int32
abbrev sw_H : Type := Nat ⊕ (Nat × List (Option Nat))
def sw_up (σ : sw_St) (c k : Nat) (v : Int32) : sw_St := fun c' => if c' = c then upd (σ c) k v else σ c'
def sw_ar (σ : sw_St) (c : Nat) (f : Nat → Int32) : sw_St := fun c' => if c' = c then f else σ c'
/-- an index into a row of n -/
def sw_ok (i : Int32) (n : Nat) : Bool := decide (0 ≤ i.toInt) && decide (i.toInt < n)
theorem sw_ok_in {i : Int32} {n : Nat} (h : sw_ok i n = true) : vp_in i n := by
  rw [vp_in_iff]
  simpa [sw_ok] using h
/-- the shape of the system: an int row of n, or an object of a class with its fields (a cell that it holds, or an int) -/
def sw_sh : List sw_H := [.inr (9, [some 1, some 5, some 9, some 13, some 17, some 21, some 22, some 23, some 26, some 30, some 33, some 34, none, none]), .inr (7, [some 2, some 3, some 4]), .inl 4, .inl 4, .inl 320, .inr (6, [none, some 6, some 7, some 8]), .inl 8, .inl 8, .inl 24, .inr (6, [none, some 10, some 11, some 12]), .inl 8, .inl 8, .inl 24, .inr (6, [none, some 14, some 15, some 16]), .inl 8, .inl 8, .inl 24, .inr (0, [none, some 18, some 19, some 20]), .inl 24, .inl 24, .inl 24, .inr (3, [none, none, none, none]), .inr (3, [none, none, none, none]), .inr (1, [none, none, none, some 24, some 25]), .inl 24, .inl 24, .inr (2, [none, some 27, some 28, some 29]), .inl 6, .inl 6, .inl 6, .inr (5, [none, some 31, some 32]), .inl 8, .inl 8, .inr (4, [none, none, none, none]), .inr (8, [none, some 35, some 36]), .inl 7, .inl 64, .inr (10, [none, none, some 38, some 39, some 40, some 41, some 42, none, none, some 43, some 44, some 45, none, some 46, some 47, some 48, none, none, none, none, none, some 49, some 50, none, none, some 51, some 52, some 53, none, some 54, some 55, none, none, some 56, none, none, none, none, some 57, some 58, none, some 59, some 60, some 61, some 62, none]), .inl 8, .inl 8, .inl 8, .inl 8, .inl 8, .inl 8, .inl 8, .inl 72, .inl 24, .inl 24, .inl 24, .inl 24, .inl 24, .inl 6, .inl 6, .inl 6, .inl 8, .inl 8, .inl 6, .inl 6, .inl 7, .inl 4, .inl 4, .inl 320, .inl 80]
def sw_fs (ad : Nat → Nat) (f : Nat → Int32) (fl : List (Option Nat)) : List Value := fl.mapIdx (fun k o => match o with | some r => Value.ref (ad r) | none => Value.int (f k))
def sw_cell (ad : Nat → Nat) (cA : ClassId) (σ : sw_St) (c : Nat) (h : sw_H) : Nat × va_E := match h with
  | .inl n => (ad c, .inl (cA, n, .inl (σ c)))
  | .inr (ci, fl) => (ad c, .inr (ci, sw_fs ad (σ c) fl))
def sw_ws (ad : Nat → Nat) (cA : ClassId) (σ : sw_St) : va_W := sw_sh.mapIdx (fun c h => sw_cell ad cA σ c h)
theorem sw_ws_at (ad : Nat → Nat) (cA : ClassId) (σ : sw_St) (c : Nat) : (sw_ws ad cA σ)[c]? = (sw_sh[c]?).map (sw_cell ad cA σ c) := by
  simp [sw_ws, List.getElem?_mapIdx]
theorem sw_sh_len : sw_sh.length = 63 := rfl
theorem sw_cell_1 (ad : Nat → Nat) (cA : ClassId) (σ : sw_St) (c : Nat) (h : sw_H) : (sw_cell ad cA σ c h).1 = ad c := by
  cases h <;> rfl
theorem sw_ws_1 {ad : Nat → Nat} {cA : ClassId} {σ : sw_St} {c : Nat} {q : Nat × va_E} (h : (sw_ws ad cA σ)[c]? = some q) : c < 63 ∧ q.1 = ad c := by
  rw [sw_ws_at] at h
  cases hs : sw_sh[c]? with
  | none => rw [hs] at h; cases h
  | some z =>
    rw [hs] at h
    have hq : sw_cell ad cA σ c z = q := Option.some.inj h
    have hl := (List.getElem?_eq_some_iff.mp hs).1
    rw [sw_sh_len] at hl
    exact ⟨hl, by rw [← hq]; exact sw_cell_1 ad cA σ c z⟩
def sw_ap (ad : Nat → Nat) : Prop := ∀ i j : Nat, i < 63 → j < 63 → ad i = ad j → i = j
theorem sw_D {ad : Nat → Nat} {cA : ClassId} {σ : sw_St} {A : Nat → Prop} (hap : sw_ap ad) (hA : ∀ i : Nat, i < 63 → A (ad i)) : va_D A (sw_ws ad cA σ) := by
  refine ⟨fun i j p q hi hj hpq => ?_, fun k q hk => ?_⟩
  · obtain ⟨h1, h2⟩ := sw_ws_1 hi
    obtain ⟨h3, h4⟩ := sw_ws_1 hj
    exact hap i j h1 h3 (by rw [← h2, ← h4, hpq])
  · obtain ⟨h1, h2⟩ := sw_ws_1 hk
    rw [h2]
    exact hA k h1
theorem sw_at_arr {ad : Nat → Nat} {cA : ClassId} {σ : sw_St} {c n : Nat} (hs : sw_sh[c]? = some (.inl n)) : (sw_ws ad cA σ)[c]? = some (ad c, .inl (cA, n, .inl (σ c))) := by
  rw [sw_ws_at, hs]; rfl
theorem sw_at_obj {ad : Nat → Nat} {cA : ClassId} {σ : sw_St} {c ci : Nat} {fl : List (Option Nat)} (hs : sw_sh[c]? = some (.inr (ci, fl))) : (sw_ws ad cA σ)[c]? = some (ad c, .inr (ci, sw_fs ad (σ c) fl)) := by
  rw [sw_ws_at, hs]; rfl
theorem sw_fs_int {ad : Nat → Nat} {f : Nat → Int32} {fl : List (Option Nat)} {k : Nat} (h : fl[k]? = some none) : (sw_fs ad f fl)[k]? = some (.int (f k)) := by
  simp [sw_fs, List.getElem?_mapIdx, h]
theorem sw_fs_ref {ad : Nat → Nat} {f : Nat → Int32} {fl : List (Option Nat)} {k r : Nat} (h : fl[k]? = some (some r)) : (sw_fs ad f fl)[k]? = some (.ref (ad r)) := by
  simp [sw_fs, List.getElem?_mapIdx, h]
theorem sw_fs_set {ad : Nat → Nat} {f : Nat → Int32} {fl : List (Option Nat)} {k : Nat} {v : Int32} (h : fl[k]? = some none) : (sw_fs ad f fl).set k (.int v) = sw_fs ad (upd f k v) fl := by
  apply List.ext_getElem?
  intro j
  have hk := (List.getElem?_eq_some_iff.mp h).1
  by_cases hj : k = j
  · subst hj
    rw [sw_fs_int (ad := ad) (f := upd f k v) h, List.getElem?_set_self (by simpa [sw_fs] using hk)]
    simp [upd]
  · rw [List.getElem?_set_ne hj]
    simp only [sw_fs, List.getElem?_mapIdx]
    cases hq : fl[j]? with
    | none => rfl
    | some z =>
      cases z with
      | none => simp [upd, show ¬ j = k from fun q => hj q.symm]
      | some r => rfl
theorem sw_cell_ne {ad : Nat → Nat} {cA : ClassId} {σ τ : sw_St} {c : Nat} (h : τ c = σ c) (z : sw_H) : sw_cell ad cA τ c z = sw_cell ad cA σ c z := by
  cases z <;> simp [sw_cell, h]
theorem sw_ws_set {ad : Nat → Nat} {cA : ClassId} {σ τ : sw_St} {c : Nat} {z : sw_H} {q : Nat × va_E} (hs : sw_sh[c]? = some z) (hq : sw_cell ad cA τ c z = q) (ho : ∀ j, j ≠ c → τ j = σ j) : (sw_ws ad cA σ).set c q = sw_ws ad cA τ := by
  apply List.ext_getElem?
  intro j
  by_cases hj : c = j
  · subst hj
    have hl := (List.getElem?_eq_some_iff.mp hs).1
    rw [List.getElem?_set_self (by simpa [sw_ws] using hl), sw_ws_at, hs]
    simp [hq]
  · rw [List.getElem?_set_ne hj, sw_ws_at, sw_ws_at]
    cases sw_sh[j]? with
    | none => rfl
    | some z => simp [sw_cell_ne (ho j (fun q => hj q.symm))]
theorem sw_ws_put {ad : Nat → Nat} {cA : ClassId} {σ : sw_St} {c ci k : Nat} {fl : List (Option Nat)} {v : Int32} (hs : sw_sh[c]? = some (.inr (ci, fl))) (h : fl[k]? = some none) : (sw_ws ad cA σ).set c (ad c, .inr (ci, (sw_fs ad (σ c) fl).set k (.int v))) = sw_ws ad cA (sw_up σ c k v) :=
  sw_ws_set hs (by rw [sw_fs_set h]; simp [sw_cell, sw_up]) (fun j hj => by simp [sw_up, hj])
theorem sw_ws_ast {ad : Nat → Nat} {cA : ClassId} {σ : sw_St} {c n k : Nat} {v : Int32} (hs : sw_sh[c]? = some (.inl n)) : (sw_ws ad cA σ).set c (ad c, .inl (cA, n, .inl (upd (σ c) k v))) = sw_ws ad cA (sw_up σ c k v) :=
  sw_ws_set hs (by simp [sw_cell, sw_up]) (fun j hj => by simp [sw_up, hj])
theorem sw_ws_ar {ad : Nat → Nat} {cA : ClassId} {σ : sw_St} {c n : Nat} {f : Nat → Int32} (hs : sw_sh[c]? = some (.inl n)) : (sw_ws ad cA σ).set c (ad c, .inl (cA, n, .inl f)) = sw_ws ad cA (sw_ar σ c f) :=
  sw_ws_set hs (by simp [sw_cell, sw_ar]) (fun j hj => by simp [sw_ar, hj])
/-- the words of the tables that may be carried to a callee -/
def sw_tbl : List Cond := lw_tbl.filter goodWord
theorem sw_mem {w : Cond} (j : Nat) (h : lw_tbl[j]? = some w) (hg : goodWord w = true) : w ∈ sw_tbl := List.mem_filter.mpr ⟨List.mem_of_getElem? h, hg⟩
theorem sw_memw {w : Cond} (h : w ∈ lw_tbl) (hg : goodWord w = true) : w ∈ sw_tbl := List.mem_filter.mpr ⟨h, hg⟩
def sw_wsU (y : MethodName) (cc : ByteArray) (nL : Nat) (ret : Option FieldType) : List Cond := .code y cc nL ret :: sw_tbl
theorem sw_goodU {y : MethodName} {cc : ByteArray} {nL : Nat} {ret : Option FieldType} (h : Cond.code y cc nL ret ∈ sw_tbl) : GoodIn sw_tbl (sw_wsU y cc nL ret) := by
  intro w hw
  have hm : w ∈ sw_tbl := by
    rcases List.mem_cons.mp hw with rfl | h2
    · exact h
    · exact h2
  exact ⟨hm, good_of_word (List.mem_filter.mp hm).2⟩
/-- all that stays the same through a method: program, launch, environment, room, start, method; arguments, frames below, code; cells, slots, end; the method's own cells, class numbers, the int row's class, how many locals -/
abbrev sw_X : Type := (Program × Launch × Env × Room × State × MethodId) × (Array Value × List Frame × Method × Code) × (Nat × Nat × (State → Prop)) × ((Nat → Prop) × va_G × ClassId × Nat)
def sw_B (X : sw_X) (ad : Nat → Nat) (pc : Nat) (L : List (Nat × Value)) (st : List Value) (σ : sw_St) : Prop := match X with
  | ((p, l, e, R, s, m), (args, below, meth, c), (cells, slots, Q), (A, D, cA, nL)) => ∀ (H : Heap) (locs : List Loc) (ls : Array Slot), va_P D vwCl (sw_ws ad cA σ) H → va_S A s.heap H locs → lv_has ls nL L → W p l e R s m args below meth c H locs cells slots Q (F0 m pc ls st)
def sw_C (X : sw_X) (ad : Nat → Nat) (cc : ByteArray) (own : String) (d : Nat) : Prop := match X with
  | ((p, l, e, R, s, m), (args, below, meth, c), (cells, slots, Q), (A, D, cA, nL)) => p.tables.exec = Jvm.exec ∧ c.code = cc ∧ c.maxLocals = nL ∧ s.vm.findClass own = some m.cls ∧ (∀ w ∈ sw_tbl, w.before args s = true) ∧ va_K D vwCl [(cA, .int)] s ∧ sw_ap ad ∧ (∀ i : Nat, i < 63 → A (ad i)) ∧ (∀ q : Nat, s.heap.size ≤ q → A q) ∧ d ≤ R.frames ∧ 40 * d ≤ R.locals ∧ cells ≤ R.cells ∧ slots ≤ R.slots
def sw_nL (X : sw_X) : Nat := X.2.2.2.2.2.2
def sw_J {α : Type} (X : sw_X) (ad : Nat → Nat) (t : α × sw_St) (pc : Nat) (L : List (Nat × Value)) (st : List Value) (σ : sw_St) (e : Option (α × sw_St)) : Prop := e = some t → sw_B X ad pc L st σ
section
variable {α : Type} {X : sw_X} {ad : Nat → Nat} {cc : ByteArray} {own : String} {d : Nat} {t : α × sw_St} {pc : Nat} {L : List (Nat × Value)} {st : List Value} {σ : sw_St} {e e1 e2 : Option (α × sw_St)}
theorem sw_none : sw_J X ad t pc L st σ (none : Option (α × sw_St)) := fun h => by cases h
theorem sw_eq (h : e = e1) (k : sw_J X ad t pc L st σ e1) : sw_J X ad t pc L st σ e := h ▸ k
theorem sw_pc {pc' : Nat} (h : pc' = pc) (k : sw_J X ad t pc' L st σ e) : sw_J X ad t pc L st σ e := h ▸ k
theorem sw_ite {q : Prop} {i : Decidable q} (h1 : q → sw_J X ad t pc L st σ e1) (h2 : ¬ q → sw_J X ad t pc L st σ e2) : sw_J X ad t pc L st σ (@ite _ q i e1 e2) := by
  by_cases h : q
  · rw [if_pos h]; exact h1 h
  · rw [if_neg h]; exact h2 h
/-- fewer listed locals -/
theorem sw_lpick {L' : List (Nat × Value)} (ks : List Nat) (hL : lv_pick L ks = L') (k : sw_J X ad t pc L' st σ e) : sw_J X ad t pc L st σ e := by
  obtain ⟨⟨p, l, ev, R, s, m⟩, ⟨args, below, meth, c⟩, ⟨cells, slots, Q⟩, ⟨A, D, cA, nL⟩⟩ := X
  intro he H locs ls hP hS hl
  exact k he H locs ls hP hS (lv_sub hl ks hL)

theorem sw_iconst {n : Int} {v : Int32} (C : sw_C X ad cc own d) (hd : decode cc pc = .ok (.iconst n, 1)) (hv : Int32.ofInt n = v) (k : sw_J X ad t (pc + 1) L (.int v :: st) σ e) : sw_J X ad t pc L (st) σ e := by
  obtain ⟨⟨p, l, ev, R, s, m⟩, ⟨args, below, meth, c⟩, ⟨cells, slots, Q⟩, ⟨A, D, cA, nL⟩⟩ := X
  obtain ⟨hx, hb, hml, hown, hts, hK, hap, hAd, hA, hF, hR, hc1, hc2⟩ := C
  intro he H locs ls hP hS hl
  exact lv_iconst hx hb hd hv (k he H locs ls hP hS hl)
theorem sw_bipush {n : Int} {v : Int32} (C : sw_C X ad cc own d) (hd : decode cc pc = .ok (.bipush n, 2)) (hv : (Int8.ofInt n).toInt32 = v) (k : sw_J X ad t (pc + 2) L (.int v :: st) σ e) : sw_J X ad t pc L (st) σ e := by
  obtain ⟨⟨p, l, ev, R, s, m⟩, ⟨args, below, meth, c⟩, ⟨cells, slots, Q⟩, ⟨A, D, cA, nL⟩⟩ := X
  obtain ⟨hx, hb, hml, hown, hts, hK, hap, hAd, hA, hF, hR, hc1, hc2⟩ := C
  intro he H locs ls hP hS hl
  exact lv_bipush hx hb hd hv (k he H locs ls hP hS hl)
theorem sw_sipush {n : Int} {v : Int32} (C : sw_C X ad cc own d) (hd : decode cc pc = .ok (.sipush n, 3)) (hv : (Int16.ofInt n).toInt32 = v) (k : sw_J X ad t (pc + 3) L (.int v :: st) σ e) : sw_J X ad t pc L (st) σ e := by
  obtain ⟨⟨p, l, ev, R, s, m⟩, ⟨args, below, meth, c⟩, ⟨cells, slots, Q⟩, ⟨A, D, cA, nL⟩⟩ := X
  obtain ⟨hx, hb, hml, hown, hts, hK, hap, hAd, hA, hF, hR, hc1, hc2⟩ := C
  intro he H locs ls hP hS hl
  exact lv_sipush hx hb hd hv (k he H locs ls hP hS hl)
theorem sw_lconst {n : Fin 2} {v : Int64} (C : sw_C X ad cc own d) (hd : decode cc pc = .ok (.lconst n, 1)) (hv : Int64.ofNat (n : Nat) = v) (k : sw_J X ad t (pc + 1) L (.long v :: st) σ e) : sw_J X ad t pc L (st) σ e := by
  obtain ⟨⟨p, l, ev, R, s, m⟩, ⟨args, below, meth, c⟩, ⟨cells, slots, Q⟩, ⟨A, D, cA, nL⟩⟩ := X
  obtain ⟨hx, hb, hml, hown, hts, hK, hap, hAd, hA, hF, hR, hc1, hc2⟩ := C
  intro he H locs ls hP hS hl
  exact lv_lconst hx hb hd hv (k he H locs ls hP hS hl)
theorem sw_ldc {n : Nat} {v : Int32} (C : sw_C X ad cc own d) (hd : decode cc pc = .ok (.ldc n, 2)) (hw : Cond.constant own n v ∈ sw_tbl) (k : sw_J X ad t (pc + 2) L (.int v :: st) σ e) : sw_J X ad t pc L (st) σ e := by
  obtain ⟨⟨p, l, ev, R, s, m⟩, ⟨args, below, meth, c⟩, ⟨cells, slots, Q⟩, ⟨A, D, cA, nL⟩⟩ := X
  obtain ⟨hx, hb, hml, hown, hts, hK, hap, hAd, hA, hF, hR, hc1, hc2⟩ := C
  intro he H locs ls hP hS hl
  exact lv_ldc hx hb hown (hts _ hw) hd (k he H locs ls hP hS hl)
theorem sw_ldcw {n : Nat} {v : Int32} (C : sw_C X ad cc own d) (hd : decode cc pc = .ok (.ldc_w n, 3)) (hw : Cond.constant own n v ∈ sw_tbl) (k : sw_J X ad t (pc + 3) L (.int v :: st) σ e) : sw_J X ad t pc L (st) σ e := by
  obtain ⟨⟨p, l, ev, R, s, m⟩, ⟨args, below, meth, c⟩, ⟨cells, slots, Q⟩, ⟨A, D, cA, nL⟩⟩ := X
  obtain ⟨hx, hb, hml, hown, hts, hK, hap, hAd, hA, hF, hR, hc1, hc2⟩ := C
  intro he H locs ls hP hS hl
  exact lv_ldcw hx hb hown (hts _ hw) hd (k he H locs ls hP hS hl)
theorem sw_ldc2 {n : Nat} {v : Int64} (C : sw_C X ad cc own d) (hd : decode cc pc = .ok (.ldc2_w n, 3)) (hw : Cond.constantLong own n v ∈ sw_tbl) (k : sw_J X ad t (pc + 3) L (.long v :: st) σ e) : sw_J X ad t pc L (st) σ e := by
  obtain ⟨⟨p, l, ev, R, s, m⟩, ⟨args, below, meth, c⟩, ⟨cells, slots, Q⟩, ⟨A, D, cA, nL⟩⟩ := X
  obtain ⟨hx, hb, hml, hown, hts, hK, hap, hAd, hA, hF, hR, hc1, hc2⟩ := C
  intro he H locs ls hP hS hl
  exact lv_ldc2 hx hb hown (hts _ hw) hd (k he H locs ls hP hS hl)
theorem sw_iloadn {x : Int32} (i : Fin 4) (j : Nat) (C : sw_C X ad cc own d) (hd : decode cc pc = .ok (.iload_n i, 1)) (hj : L[j]? = some ((i : Nat), Value.int x)) (k : sw_J X ad t (pc + 1) L (.int x :: st) σ e) : sw_J X ad t pc L (st) σ e := by
  obtain ⟨⟨p, l, ev, R, s, m⟩, ⟨args, below, meth, c⟩, ⟨cells, slots, Q⟩, ⟨A, D, cA, nL⟩⟩ := X
  obtain ⟨hx, hb, hml, hown, hts, hK, hap, hAd, hA, hF, hR, hc1, hc2⟩ := C
  intro he H locs ls hP hS hl
  exact lv_iload_n hx hb hd rfl (lv_at hl j hj) (k he H locs ls hP hS hl)
theorem sw_iload {x : Int32} {i : Nat} (j : Nat) (C : sw_C X ad cc own d) (hd : decode cc pc = .ok (.iload i, 2)) (hj : L[j]? = some (i, Value.int x)) (k : sw_J X ad t (pc + 2) L (.int x :: st) σ e) : sw_J X ad t pc L (st) σ e := by
  obtain ⟨⟨p, l, ev, R, s, m⟩, ⟨args, below, meth, c⟩, ⟨cells, slots, Q⟩, ⟨A, D, cA, nL⟩⟩ := X
  obtain ⟨hx, hb, hml, hown, hts, hK, hap, hAd, hA, hF, hR, hc1, hc2⟩ := C
  intro he H locs ls hP hS hl
  exact lv_iload hx hb hd (lv_at hl j hj) (k he H locs ls hP hS hl)
theorem sw_lloadn {x : Int64} (i : Fin 4) (j : Nat) (C : sw_C X ad cc own d) (hd : decode cc pc = .ok (.lload_n i, 1)) (hj : L[j]? = some ((i : Nat), Value.long x)) (k : sw_J X ad t (pc + 1) L (.long x :: st) σ e) : sw_J X ad t pc L (st) σ e := by
  obtain ⟨⟨p, l, ev, R, s, m⟩, ⟨args, below, meth, c⟩, ⟨cells, slots, Q⟩, ⟨A, D, cA, nL⟩⟩ := X
  obtain ⟨hx, hb, hml, hown, hts, hK, hap, hAd, hA, hF, hR, hc1, hc2⟩ := C
  intro he H locs ls hP hS hl
  exact lv_lload_n hx hb hd rfl (lv_at hl j hj) (k he H locs ls hP hS hl)
theorem sw_lload {x : Int64} {i : Nat} (j : Nat) (C : sw_C X ad cc own d) (hd : decode cc pc = .ok (.lload i, 2)) (hj : L[j]? = some (i, Value.long x)) (k : sw_J X ad t (pc + 2) L (.long x :: st) σ e) : sw_J X ad t pc L (st) σ e := by
  obtain ⟨⟨p, l, ev, R, s, m⟩, ⟨args, below, meth, c⟩, ⟨cells, slots, Q⟩, ⟨A, D, cA, nL⟩⟩ := X
  obtain ⟨hx, hb, hml, hown, hts, hK, hap, hAd, hA, hF, hR, hc1, hc2⟩ := C
  intro he H locs ls hP hS hl
  exact lv_lload hx hb hd (lv_at hl j hj) (k he H locs ls hP hS hl)
theorem sw_aloadn {x : Nat} (i : Fin 4) (j : Nat) (C : sw_C X ad cc own d) (hd : decode cc pc = .ok (.aload_n i, 1)) (hj : L[j]? = some ((i : Nat), Value.ref x)) (k : sw_J X ad t (pc + 1) L (.ref x :: st) σ e) : sw_J X ad t pc L (st) σ e := by
  obtain ⟨⟨p, l, ev, R, s, m⟩, ⟨args, below, meth, c⟩, ⟨cells, slots, Q⟩, ⟨A, D, cA, nL⟩⟩ := X
  obtain ⟨hx, hb, hml, hown, hts, hK, hap, hAd, hA, hF, hR, hc1, hc2⟩ := C
  intro he H locs ls hP hS hl
  exact lv_aload_n hx hb hd rfl (lv_at hl j hj) (k he H locs ls hP hS hl)
theorem sw_aload {x : Nat} {i : Nat} (j : Nat) (C : sw_C X ad cc own d) (hd : decode cc pc = .ok (.aload i, 2)) (hj : L[j]? = some (i, Value.ref x)) (k : sw_J X ad t (pc + 2) L (.ref x :: st) σ e) : sw_J X ad t pc L (st) σ e := by
  obtain ⟨⟨p, l, ev, R, s, m⟩, ⟨args, below, meth, c⟩, ⟨cells, slots, Q⟩, ⟨A, D, cA, nL⟩⟩ := X
  obtain ⟨hx, hb, hml, hown, hts, hK, hap, hAd, hA, hF, hR, hc1, hc2⟩ := C
  intro he H locs ls hP hS hl
  exact lv_aload hx hb hd (lv_at hl j hj) (k he H locs ls hP hS hl)
theorem sw_istoren {x : Int32} (i : Fin 4) (L' : List (Nat × Value)) (C : sw_C X ad cc own d) (hd : decode cc pc = .ok (.istore_n i, 1)) (hn : (i : Nat) < sw_nL X) (hL : ((i : Nat), Value.int x) :: L.filter (fun q => !(q.1 == (i : Nat)) && !(q.1 + 1 == (i : Nat) && q.2.category == 2)) = L') (k : sw_J X ad t (pc + 1) L' st σ e) : sw_J X ad t pc L (.int x :: st) σ e := by
  obtain ⟨⟨p, l, ev, R, s, m⟩, ⟨args, below, meth, c⟩, ⟨cells, slots, Q⟩, ⟨A, D, cA, nL⟩⟩ := X
  obtain ⟨hx, hb, hml, hown, hts, hK, hap, hAd, hA, hF, hR, hc1, hc2⟩ := C
  intro he H locs ls hP hS hl
  exact lv_istore_n hx hb hd rfl hl hn hL (fun ls' hl' => k he H locs ls' hP hS hl')
theorem sw_astoren {x : Nat} (i : Fin 4) (L' : List (Nat × Value)) (C : sw_C X ad cc own d) (hd : decode cc pc = .ok (.astore_n i, 1)) (hn : (i : Nat) < sw_nL X) (hL : ((i : Nat), Value.ref x) :: L.filter (fun q => !(q.1 == (i : Nat)) && !(q.1 + 1 == (i : Nat) && q.2.category == 2)) = L') (k : sw_J X ad t (pc + 1) L' st σ e) : sw_J X ad t pc L (.ref x :: st) σ e := by
  obtain ⟨⟨p, l, ev, R, s, m⟩, ⟨args, below, meth, c⟩, ⟨cells, slots, Q⟩, ⟨A, D, cA, nL⟩⟩ := X
  obtain ⟨hx, hb, hml, hown, hts, hK, hap, hAd, hA, hF, hR, hc1, hc2⟩ := C
  intro he H locs ls hP hS hl
  exact lv_astore_n hx hb hd rfl hl hn hL (fun ls' hl' => k he H locs ls' hP hS hl')
theorem sw_istore {x : Int32} {i : Nat} (L' : List (Nat × Value)) (C : sw_C X ad cc own d) (hd : decode cc pc = .ok (.istore i, 2)) (hn : i < sw_nL X) (hL : (i, Value.int x) :: L.filter (fun q => !(q.1 == i) && !(q.1 + 1 == i && q.2.category == 2)) = L') (k : sw_J X ad t (pc + 2) L' st σ e) : sw_J X ad t pc L (.int x :: st) σ e := by
  obtain ⟨⟨p, l, ev, R, s, m⟩, ⟨args, below, meth, c⟩, ⟨cells, slots, Q⟩, ⟨A, D, cA, nL⟩⟩ := X
  obtain ⟨hx, hb, hml, hown, hts, hK, hap, hAd, hA, hF, hR, hc1, hc2⟩ := C
  intro he H locs ls hP hS hl
  exact lv_istore hx hb hd hl hn hL (fun ls' hl' => k he H locs ls' hP hS hl')
theorem sw_iinc {x : Int32} {i : Nat} {n : Int} (v : Int32) (j : Nat) (L' : List (Nat × Value)) (C : sw_C X ad cc own d) (hd : decode cc pc = .ok (.iinc i n, 3)) (hn : i < sw_nL X) (hj : L[j]? = some (i, Value.int x)) (hv : x + Int32.ofInt n = v) (hL : (i, Value.int v) :: L.filter (fun q => !(q.1 == i) && !(q.1 + 1 == i && q.2.category == 2)) = L') (k : sw_J X ad t (pc + 3) L' st σ e) : sw_J X ad t pc L st σ e := by
  obtain ⟨⟨p, l, ev, R, s, m⟩, ⟨args, below, meth, c⟩, ⟨cells, slots, Q⟩, ⟨A, D, cA, nL⟩⟩ := X
  obtain ⟨hx, hb, hml, hown, hts, hK, hap, hAd, hA, hF, hR, hc1, hc2⟩ := C
  intro he H locs ls hP hS hl
  exact lv_iinc hx hb hd hl hj hv hn hL (fun ls' hl' => k he H locs ls' hP hS hl')
theorem sw_iadd {x y : Int32} (C : sw_C X ad cc own d) (hd : decode cc pc = .ok (.iadd, 1))  (k : sw_J X ad t (pc + 1) L (.int (x + y) :: st) σ e) : sw_J X ad t pc L (.int y :: .int x :: st) σ e := by
  obtain ⟨⟨p, l, ev, R, s, m⟩, ⟨args, below, meth, c⟩, ⟨cells, slots, Q⟩, ⟨A, D, cA, nL⟩⟩ := X
  obtain ⟨hx, hb, hml, hown, hts, hK, hap, hAd, hA, hF, hR, hc1, hc2⟩ := C
  intro he H locs ls hP hS hl
  exact lv_iadd hx hb hd (k he H locs ls hP hS hl)
theorem sw_isub {x y : Int32} (C : sw_C X ad cc own d) (hd : decode cc pc = .ok (.isub, 1))  (k : sw_J X ad t (pc + 1) L (.int (x - y) :: st) σ e) : sw_J X ad t pc L (.int y :: .int x :: st) σ e := by
  obtain ⟨⟨p, l, ev, R, s, m⟩, ⟨args, below, meth, c⟩, ⟨cells, slots, Q⟩, ⟨A, D, cA, nL⟩⟩ := X
  obtain ⟨hx, hb, hml, hown, hts, hK, hap, hAd, hA, hF, hR, hc1, hc2⟩ := C
  intro he H locs ls hP hS hl
  exact lv_isub hx hb hd (k he H locs ls hP hS hl)
theorem sw_imul {x y : Int32} (C : sw_C X ad cc own d) (hd : decode cc pc = .ok (.imul, 1))  (k : sw_J X ad t (pc + 1) L (.int (x * y) :: st) σ e) : sw_J X ad t pc L (.int y :: .int x :: st) σ e := by
  obtain ⟨⟨p, l, ev, R, s, m⟩, ⟨args, below, meth, c⟩, ⟨cells, slots, Q⟩, ⟨A, D, cA, nL⟩⟩ := X
  obtain ⟨hx, hb, hml, hown, hts, hK, hap, hAd, hA, hF, hR, hc1, hc2⟩ := C
  intro he H locs ls hP hS hl
  exact lv_imul hx hb hd (k he H locs ls hP hS hl)
theorem sw_iand {x y : Int32} (C : sw_C X ad cc own d) (hd : decode cc pc = .ok (.iand, 1))  (k : sw_J X ad t (pc + 1) L (.int (x &&& y) :: st) σ e) : sw_J X ad t pc L (.int y :: .int x :: st) σ e := by
  obtain ⟨⟨p, l, ev, R, s, m⟩, ⟨args, below, meth, c⟩, ⟨cells, slots, Q⟩, ⟨A, D, cA, nL⟩⟩ := X
  obtain ⟨hx, hb, hml, hown, hts, hK, hap, hAd, hA, hF, hR, hc1, hc2⟩ := C
  intro he H locs ls hP hS hl
  exact lv_iand hx hb hd (k he H locs ls hP hS hl)
theorem sw_ior {x y : Int32} (C : sw_C X ad cc own d) (hd : decode cc pc = .ok (.ior, 1))  (k : sw_J X ad t (pc + 1) L (.int (x ||| y) :: st) σ e) : sw_J X ad t pc L (.int y :: .int x :: st) σ e := by
  obtain ⟨⟨p, l, ev, R, s, m⟩, ⟨args, below, meth, c⟩, ⟨cells, slots, Q⟩, ⟨A, D, cA, nL⟩⟩ := X
  obtain ⟨hx, hb, hml, hown, hts, hK, hap, hAd, hA, hF, hR, hc1, hc2⟩ := C
  intro he H locs ls hP hS hl
  exact lv_ior hx hb hd (k he H locs ls hP hS hl)
theorem sw_ishl {x y : Int32} (C : sw_C X ad cc own d) (hd : decode cc pc = .ok (.ishl, 1))  (k : sw_J X ad t (pc + 1) L (.int (x <<< (y &&& 31)) :: st) σ e) : sw_J X ad t pc L (.int y :: .int x :: st) σ e := by
  obtain ⟨⟨p, l, ev, R, s, m⟩, ⟨args, below, meth, c⟩, ⟨cells, slots, Q⟩, ⟨A, D, cA, nL⟩⟩ := X
  obtain ⟨hx, hb, hml, hown, hts, hK, hap, hAd, hA, hF, hR, hc1, hc2⟩ := C
  intro he H locs ls hP hS hl
  exact lv_ishl hx hb hd (k he H locs ls hP hS hl)
theorem sw_ishr {x y : Int32} (C : sw_C X ad cc own d) (hd : decode cc pc = .ok (.ishr, 1))  (k : sw_J X ad t (pc + 1) L (.int (x >>> (y &&& 31)) :: st) σ e) : sw_J X ad t pc L (.int y :: .int x :: st) σ e := by
  obtain ⟨⟨p, l, ev, R, s, m⟩, ⟨args, below, meth, c⟩, ⟨cells, slots, Q⟩, ⟨A, D, cA, nL⟩⟩ := X
  obtain ⟨hx, hb, hml, hown, hts, hK, hap, hAd, hA, hF, hR, hc1, hc2⟩ := C
  intro he H locs ls hP hS hl
  exact lv_ishr hx hb hd (k he H locs ls hP hS hl)
theorem sw_iushr {x y : Int32} (C : sw_C X ad cc own d) (hd : decode cc pc = .ok (.iushr, 1))  (k : sw_J X ad t (pc + 1) L (.int ((x.toUInt32 >>> (y.toUInt32 &&& Int32.toUInt32 31)).toInt32) :: st) σ e) : sw_J X ad t pc L (.int y :: .int x :: st) σ e := by
  obtain ⟨⟨p, l, ev, R, s, m⟩, ⟨args, below, meth, c⟩, ⟨cells, slots, Q⟩, ⟨A, D, cA, nL⟩⟩ := X
  obtain ⟨hx, hb, hml, hown, hts, hK, hap, hAd, hA, hF, hR, hc1, hc2⟩ := C
  intro he H locs ls hP hS hl
  exact lv_iushr hx hb hd rfl (k he H locs ls hP hS hl)
theorem sw_ineg {x : Int32} (C : sw_C X ad cc own d) (hd : decode cc pc = .ok (.ineg, 1))  (k : sw_J X ad t (pc + 1) L (.int (-x) :: st) σ e) : sw_J X ad t pc L (.int x :: st) σ e := by
  obtain ⟨⟨p, l, ev, R, s, m⟩, ⟨args, below, meth, c⟩, ⟨cells, slots, Q⟩, ⟨A, D, cA, nL⟩⟩ := X
  obtain ⟨hx, hb, hml, hown, hts, hK, hap, hAd, hA, hF, hR, hc1, hc2⟩ := C
  intro he H locs ls hP hS hl
  exact lv_ineg hx hb hd (k he H locs ls hP hS hl)
theorem sw_idivc {x y : Int32} (C : sw_C X ad cc own d) (hd : decode cc pc = .ok (.idiv, 1)) (hy : ¬ y = 0) (k : sw_J X ad t (pc + 1) L (.int (x / y) :: st) σ e) : sw_J X ad t pc L (.int y :: .int x :: st) σ e := by
  obtain ⟨⟨p, l, ev, R, s, m⟩, ⟨args, below, meth, c⟩, ⟨cells, slots, Q⟩, ⟨A, D, cA, nL⟩⟩ := X
  obtain ⟨hx, hb, hml, hown, hts, hK, hap, hAd, hA, hF, hR, hc1, hc2⟩ := C
  intro he H locs ls hP hS hl
  exact lv_idiv hx hb hd hy (k he H locs ls hP hS hl)
theorem sw_idiv {x y : Int32} {i : Decidable (y = 0)} (C : sw_C X ad cc own d) (hd : decode cc pc = .ok (.idiv, 1)) (k : sw_J X ad t (pc + 1) L (.int (x / y) :: st) σ e) : sw_J X ad t pc L (.int y :: .int x :: st) σ (@ite _ (y = 0) i none e) := by
  refine sw_ite (fun _ => sw_none) (fun hy => sw_idivc C hd hy k)
theorem sw_iremc {x y : Int32} (C : sw_C X ad cc own d) (hd : decode cc pc = .ok (.irem, 1)) (hy : ¬ y = 0) (k : sw_J X ad t (pc + 1) L (.int (x - x / y * y) :: st) σ e) : sw_J X ad t pc L (.int y :: .int x :: st) σ e := by
  obtain ⟨⟨p, l, ev, R, s, m⟩, ⟨args, below, meth, c⟩, ⟨cells, slots, Q⟩, ⟨A, D, cA, nL⟩⟩ := X
  obtain ⟨hx, hb, hml, hown, hts, hK, hap, hAd, hA, hF, hR, hc1, hc2⟩ := C
  intro he H locs ls hP hS hl
  exact lv_irem hx hb hd hy (k he H locs ls hP hS hl)
theorem sw_irem {x y : Int32} {i : Decidable (y = 0)} (C : sw_C X ad cc own d) (hd : decode cc pc = .ok (.irem, 1)) (k : sw_J X ad t (pc + 1) L (.int (x - x / y * y) :: st) σ e) : sw_J X ad t pc L (.int y :: .int x :: st) σ (@ite _ (y = 0) i none e) := by
  refine sw_ite (fun _ => sw_none) (fun hy => sw_iremc C hd hy k)
theorem sw_ladd {x y : Int64} (C : sw_C X ad cc own d) (hd : decode cc pc = .ok (.ladd, 1))  (k : sw_J X ad t (pc + 1) L (.long (x + y) :: st) σ e) : sw_J X ad t pc L (.long y :: .long x :: st) σ e := by
  obtain ⟨⟨p, l, ev, R, s, m⟩, ⟨args, below, meth, c⟩, ⟨cells, slots, Q⟩, ⟨A, D, cA, nL⟩⟩ := X
  obtain ⟨hx, hb, hml, hown, hts, hK, hap, hAd, hA, hF, hR, hc1, hc2⟩ := C
  intro he H locs ls hP hS hl
  exact lv_ladd hx hb hd (k he H locs ls hP hS hl)
theorem sw_lsub {x y : Int64} (C : sw_C X ad cc own d) (hd : decode cc pc = .ok (.lsub, 1))  (k : sw_J X ad t (pc + 1) L (.long (x - y) :: st) σ e) : sw_J X ad t pc L (.long y :: .long x :: st) σ e := by
  obtain ⟨⟨p, l, ev, R, s, m⟩, ⟨args, below, meth, c⟩, ⟨cells, slots, Q⟩, ⟨A, D, cA, nL⟩⟩ := X
  obtain ⟨hx, hb, hml, hown, hts, hK, hap, hAd, hA, hF, hR, hc1, hc2⟩ := C
  intro he H locs ls hP hS hl
  exact lv_lsub hx hb hd (k he H locs ls hP hS hl)
theorem sw_lcmp {x y : Int64} (C : sw_C X ad cc own d) (hd : decode cc pc = .ok (.lcmp, 1))  (k : sw_J X ad t (pc + 1) L (.int (lg_cmp x y) :: st) σ e) : sw_J X ad t pc L (.long y :: .long x :: st) σ e := by
  obtain ⟨⟨p, l, ev, R, s, m⟩, ⟨args, below, meth, c⟩, ⟨cells, slots, Q⟩, ⟨A, D, cA, nL⟩⟩ := X
  obtain ⟨hx, hb, hml, hown, hts, hK, hap, hAd, hA, hF, hR, hc1, hc2⟩ := C
  intro he H locs ls hP hS hl
  exact W.lcmp hx hb hd (k he H locs ls hP hS hl)
theorem sw_i2l {x : Int32} (C : sw_C X ad cc own d) (hd : decode cc pc = .ok (.i2l, 1))  (k : sw_J X ad t (pc + 1) L (.long x.toInt64 :: st) σ e) : sw_J X ad t pc L (.int x :: st) σ e := by
  obtain ⟨⟨p, l, ev, R, s, m⟩, ⟨args, below, meth, c⟩, ⟨cells, slots, Q⟩, ⟨A, D, cA, nL⟩⟩ := X
  obtain ⟨hx, hb, hml, hown, hts, hK, hap, hAd, hA, hF, hR, hc1, hc2⟩ := C
  intro he H locs ls hP hS hl
  exact lv_i2l hx hb hd rfl (k he H locs ls hP hS hl)
theorem sw_i2b {x : Int32} (C : sw_C X ad cc own d) (hd : decode cc pc = .ok (.i2b, 1))  (k : sw_J X ad t (pc + 1) L (.int x.toInt8.toInt32 :: st) σ e) : sw_J X ad t pc L (.int x :: st) σ e := by
  obtain ⟨⟨p, l, ev, R, s, m⟩, ⟨args, below, meth, c⟩, ⟨cells, slots, Q⟩, ⟨A, D, cA, nL⟩⟩ := X
  obtain ⟨hx, hb, hml, hown, hts, hK, hap, hAd, hA, hF, hR, hc1, hc2⟩ := C
  intro he H locs ls hP hS hl
  exact lv_i2b hx hb hd rfl (k he H locs ls hP hS hl)
theorem sw_i2s {x : Int32} (C : sw_C X ad cc own d) (hd : decode cc pc = .ok (.i2s, 1))  (k : sw_J X ad t (pc + 1) L (.int x.toInt16.toInt32 :: st) σ e) : sw_J X ad t pc L (.int x :: st) σ e := by
  obtain ⟨⟨p, l, ev, R, s, m⟩, ⟨args, below, meth, c⟩, ⟨cells, slots, Q⟩, ⟨A, D, cA, nL⟩⟩ := X
  obtain ⟨hx, hb, hml, hown, hts, hK, hap, hAd, hA, hF, hR, hc1, hc2⟩ := C
  intro he H locs ls hP hS hl
  exact lv_i2s hx hb hd rfl (k he H locs ls hP hS hl)
theorem sw_dup {v : Value} (C : sw_C X ad cc own d) (hd : decode cc pc = .ok (.dup, 1)) (hv : v.category = 1) (k : sw_J X ad t (pc + 1) L (v :: v :: st) σ e) : sw_J X ad t pc L (v :: st) σ e := by
  obtain ⟨⟨p, l, ev, R, s, m⟩, ⟨args, below, meth, c⟩, ⟨cells, slots, Q⟩, ⟨A, D, cA, nL⟩⟩ := X
  obtain ⟨hx, hb, hml, hown, hts, hK, hap, hAd, hA, hF, hR, hc1, hc2⟩ := C
  intro he H locs ls hP hS hl
  exact lv_dup hx hb hd hv (k he H locs ls hP hS hl)
theorem sw_dup2 {v u : Value} (C : sw_C X ad cc own d) (hd : decode cc pc = .ok (.dup2, 1)) (hv : v.category = 1) (hu : u.category = 1) (k : sw_J X ad t (pc + 1) L (v :: u :: v :: u :: st) σ e) : sw_J X ad t pc L (v :: u :: st) σ e := by
  obtain ⟨⟨p, l, ev, R, s, m⟩, ⟨args, below, meth, c⟩, ⟨cells, slots, Q⟩, ⟨A, D, cA, nL⟩⟩ := X
  obtain ⟨hx, hb, hml, hown, hts, hK, hap, hAd, hA, hF, hR, hc1, hc2⟩ := C
  intro he H locs ls hP hS hl
  exact lv_dup2_11 hx hb hd hv hu (k he H locs ls hP hS hl)
theorem sw_pop {v : Value} (C : sw_C X ad cc own d) (hd : decode cc pc = .ok (.pop, 1)) (hv : v.category = 1) (k : sw_J X ad t (pc + 1) L (st) σ e) : sw_J X ad t pc L (v :: st) σ e := by
  obtain ⟨⟨p, l, ev, R, s, m⟩, ⟨args, below, meth, c⟩, ⟨cells, slots, Q⟩, ⟨A, D, cA, nL⟩⟩ := X
  obtain ⟨hx, hb, hml, hown, hts, hK, hap, hAd, hA, hF, hR, hc1, hc2⟩ := C
  intro he H locs ls hP hS hl
  exact lv_pop hx hb hd hv (k he H locs ls hP hS hl)
theorem sw_goto {off : Int} (tgt : Nat) (C : sw_C X ad cc own d) (hd : decode cc pc = .ok (.goto off, 3)) (ht : (pc : Int) + off = (tgt : Int)) (k : sw_J X ad t tgt L st σ e) : sw_J X ad t pc L st σ e := by
  obtain ⟨⟨p, l, ev, R, s, m⟩, ⟨args, below, meth, c⟩, ⟨cells, slots, Q⟩, ⟨A, D, cA, nL⟩⟩ := X
  obtain ⟨hx, hb, hml, hown, hts, hK, hap, hAd, hA, hF, hR, hc1, hc2⟩ := C
  intro he H locs ls hP hS hl
  exact lv_goto hx hb hd ht (k he H locs ls hP hS hl)
theorem sw_if_eq {x : Int32} {off : Int} {i : Decidable (x = 0)} (tgt : Nat) (C : sw_C X ad cc own d) (hd : decode cc pc = .ok (.ifCond .eq off, 3)) (ht : (pc : Int) + off = (tgt : Int)) (k1 : sw_J X ad t tgt L st σ e1) (k2 : sw_J X ad t (pc + 3) L st σ e2) : sw_J X ad t pc L (.int x :: st) σ (@ite _ (x = 0) i e1 e2) := by
  obtain ⟨⟨p, l, ev, R, s, m⟩, ⟨args, below, meth, c⟩, ⟨cells, slots, Q⟩, ⟨A, D, cA, nL⟩⟩ := X
  obtain ⟨hx, hb, hml, hown, hts, hK, hap, hAd, hA, hF, hR, hc1, hc2⟩ := C
  intro he H locs ls hP hS hl
  refine lv_if_eq hx hb hd ht (fun h => ?_) (fun h => ?_)
  · rw [if_pos h] at he
    exact k1 he H locs ls hP hS hl
  · rw [if_neg h] at he
    exact k2 he H locs ls hP hS hl
theorem sw_if_lt {x : Int32} {off : Int} {i : Decidable (x < 0)} (tgt : Nat) (C : sw_C X ad cc own d) (hd : decode cc pc = .ok (.ifCond .lt off, 3)) (ht : (pc : Int) + off = (tgt : Int)) (k1 : sw_J X ad t tgt L st σ e1) (k2 : sw_J X ad t (pc + 3) L st σ e2) : sw_J X ad t pc L (.int x :: st) σ (@ite _ (x < 0) i e1 e2) := by
  obtain ⟨⟨p, l, ev, R, s, m⟩, ⟨args, below, meth, c⟩, ⟨cells, slots, Q⟩, ⟨A, D, cA, nL⟩⟩ := X
  obtain ⟨hx, hb, hml, hown, hts, hK, hap, hAd, hA, hF, hR, hc1, hc2⟩ := C
  intro he H locs ls hP hS hl
  refine lv_if_lt hx hb hd ht (fun h => ?_) (fun h => ?_)
  · rw [if_pos h] at he
    exact k1 he H locs ls hP hS hl
  · rw [if_neg h] at he
    exact k2 he H locs ls hP hS hl
theorem sw_if_ge {x : Int32} {off : Int} {i : Decidable (0 ≤ x)} (tgt : Nat) (C : sw_C X ad cc own d) (hd : decode cc pc = .ok (.ifCond .ge off, 3)) (ht : (pc : Int) + off = (tgt : Int)) (k1 : sw_J X ad t tgt L st σ e1) (k2 : sw_J X ad t (pc + 3) L st σ e2) : sw_J X ad t pc L (.int x :: st) σ (@ite _ (0 ≤ x) i e1 e2) := by
  obtain ⟨⟨p, l, ev, R, s, m⟩, ⟨args, below, meth, c⟩, ⟨cells, slots, Q⟩, ⟨A, D, cA, nL⟩⟩ := X
  obtain ⟨hx, hb, hml, hown, hts, hK, hap, hAd, hA, hF, hR, hc1, hc2⟩ := C
  intro he H locs ls hP hS hl
  refine lv_if_ge hx hb hd ht (fun h => ?_) (fun h => ?_)
  · rw [if_pos h] at he
    exact k1 he H locs ls hP hS hl
  · rw [if_neg h] at he
    exact k2 he H locs ls hP hS hl
theorem sw_if_gt {x : Int32} {off : Int} {i : Decidable (0 < x)} (tgt : Nat) (C : sw_C X ad cc own d) (hd : decode cc pc = .ok (.ifCond .gt off, 3)) (ht : (pc : Int) + off = (tgt : Int)) (k1 : sw_J X ad t tgt L st σ e1) (k2 : sw_J X ad t (pc + 3) L st σ e2) : sw_J X ad t pc L (.int x :: st) σ (@ite _ (0 < x) i e1 e2) := by
  obtain ⟨⟨p, l, ev, R, s, m⟩, ⟨args, below, meth, c⟩, ⟨cells, slots, Q⟩, ⟨A, D, cA, nL⟩⟩ := X
  obtain ⟨hx, hb, hml, hown, hts, hK, hap, hAd, hA, hF, hR, hc1, hc2⟩ := C
  intro he H locs ls hP hS hl
  refine lv_if_gt hx hb hd ht (fun h => ?_) (fun h => ?_)
  · rw [if_pos h] at he
    exact k1 he H locs ls hP hS hl
  · rw [if_neg h] at he
    exact k2 he H locs ls hP hS hl
theorem sw_if_le {x : Int32} {off : Int} {i : Decidable (x ≤ 0)} (tgt : Nat) (C : sw_C X ad cc own d) (hd : decode cc pc = .ok (.ifCond .le off, 3)) (ht : (pc : Int) + off = (tgt : Int)) (k1 : sw_J X ad t tgt L st σ e1) (k2 : sw_J X ad t (pc + 3) L st σ e2) : sw_J X ad t pc L (.int x :: st) σ (@ite _ (x ≤ 0) i e1 e2) := by
  obtain ⟨⟨p, l, ev, R, s, m⟩, ⟨args, below, meth, c⟩, ⟨cells, slots, Q⟩, ⟨A, D, cA, nL⟩⟩ := X
  obtain ⟨hx, hb, hml, hown, hts, hK, hap, hAd, hA, hF, hR, hc1, hc2⟩ := C
  intro he H locs ls hP hS hl
  refine lv_if_le hx hb hd ht (fun h => ?_) (fun h => ?_)
  · rw [if_pos h] at he
    exact k1 he H locs ls hP hS hl
  · rw [if_neg h] at he
    exact k2 he H locs ls hP hS hl
theorem sw_if_ne {x : Int32} {off : Int} {i : Decidable (x = 0)} (tgt : Nat) (C : sw_C X ad cc own d) (hd : decode cc pc = .ok (.ifCond .ne off, 3)) (ht : (pc : Int) + off = (tgt : Int)) (k1 : sw_J X ad t tgt L st σ e2) (k2 : sw_J X ad t (pc + 3) L st σ e1) : sw_J X ad t pc L (.int x :: st) σ (@ite _ (x = 0) i e1 e2) := by
  obtain ⟨⟨p, l, ev, R, s, m⟩, ⟨args, below, meth, c⟩, ⟨cells, slots, Q⟩, ⟨A, D, cA, nL⟩⟩ := X
  obtain ⟨hx, hb, hml, hown, hts, hK, hap, hAd, hA, hF, hR, hc1, hc2⟩ := C
  intro he H locs ls hP hS hl
  refine lv_if_ne hx hb hd ht (fun h => ?_) (fun h => ?_)
  · rw [if_neg h] at he
    exact k1 he H locs ls hP hS hl
  · rw [if_pos h] at he
    exact k2 he H locs ls hP hS hl
theorem sw_icmp_eq {x y : Int32} {off : Int} {i : Decidable (x = y)} (tgt : Nat) (C : sw_C X ad cc own d) (hd : decode cc pc = .ok (.if_icmp .eq off, 3)) (ht : (pc : Int) + off = (tgt : Int)) (k1 : sw_J X ad t tgt L st σ e1) (k2 : sw_J X ad t (pc + 3) L st σ e2) : sw_J X ad t pc L (.int y :: .int x :: st) σ (@ite _ (x = y) i e1 e2) := by
  obtain ⟨⟨p, l, ev, R, s, m⟩, ⟨args, below, meth, c⟩, ⟨cells, slots, Q⟩, ⟨A, D, cA, nL⟩⟩ := X
  obtain ⟨hx, hb, hml, hown, hts, hK, hap, hAd, hA, hF, hR, hc1, hc2⟩ := C
  intro he H locs ls hP hS hl
  refine lv_icmp_eq hx hb hd ht (fun h => ?_) (fun h => ?_)
  · rw [if_pos h] at he
    exact k1 he H locs ls hP hS hl
  · rw [if_neg h] at he
    exact k2 he H locs ls hP hS hl
theorem sw_icmp_lt {x y : Int32} {off : Int} {i : Decidable (x < y)} (tgt : Nat) (C : sw_C X ad cc own d) (hd : decode cc pc = .ok (.if_icmp .lt off, 3)) (ht : (pc : Int) + off = (tgt : Int)) (k1 : sw_J X ad t tgt L st σ e1) (k2 : sw_J X ad t (pc + 3) L st σ e2) : sw_J X ad t pc L (.int y :: .int x :: st) σ (@ite _ (x < y) i e1 e2) := by
  obtain ⟨⟨p, l, ev, R, s, m⟩, ⟨args, below, meth, c⟩, ⟨cells, slots, Q⟩, ⟨A, D, cA, nL⟩⟩ := X
  obtain ⟨hx, hb, hml, hown, hts, hK, hap, hAd, hA, hF, hR, hc1, hc2⟩ := C
  intro he H locs ls hP hS hl
  refine lv_icmp_lt hx hb hd ht (fun h => ?_) (fun h => ?_)
  · rw [if_pos h] at he
    exact k1 he H locs ls hP hS hl
  · rw [if_neg h] at he
    exact k2 he H locs ls hP hS hl
theorem sw_icmp_ge {x y : Int32} {off : Int} {i : Decidable (y ≤ x)} (tgt : Nat) (C : sw_C X ad cc own d) (hd : decode cc pc = .ok (.if_icmp .ge off, 3)) (ht : (pc : Int) + off = (tgt : Int)) (k1 : sw_J X ad t tgt L st σ e1) (k2 : sw_J X ad t (pc + 3) L st σ e2) : sw_J X ad t pc L (.int y :: .int x :: st) σ (@ite _ (y ≤ x) i e1 e2) := by
  obtain ⟨⟨p, l, ev, R, s, m⟩, ⟨args, below, meth, c⟩, ⟨cells, slots, Q⟩, ⟨A, D, cA, nL⟩⟩ := X
  obtain ⟨hx, hb, hml, hown, hts, hK, hap, hAd, hA, hF, hR, hc1, hc2⟩ := C
  intro he H locs ls hP hS hl
  refine lv_icmp_ge hx hb hd ht (fun h => ?_) (fun h => ?_)
  · rw [if_pos h] at he
    exact k1 he H locs ls hP hS hl
  · rw [if_neg h] at he
    exact k2 he H locs ls hP hS hl
theorem sw_icmp_gt {x y : Int32} {off : Int} {i : Decidable (y < x)} (tgt : Nat) (C : sw_C X ad cc own d) (hd : decode cc pc = .ok (.if_icmp .gt off, 3)) (ht : (pc : Int) + off = (tgt : Int)) (k1 : sw_J X ad t tgt L st σ e1) (k2 : sw_J X ad t (pc + 3) L st σ e2) : sw_J X ad t pc L (.int y :: .int x :: st) σ (@ite _ (y < x) i e1 e2) := by
  obtain ⟨⟨p, l, ev, R, s, m⟩, ⟨args, below, meth, c⟩, ⟨cells, slots, Q⟩, ⟨A, D, cA, nL⟩⟩ := X
  obtain ⟨hx, hb, hml, hown, hts, hK, hap, hAd, hA, hF, hR, hc1, hc2⟩ := C
  intro he H locs ls hP hS hl
  refine lv_icmp_gt hx hb hd ht (fun h => ?_) (fun h => ?_)
  · rw [if_pos h] at he
    exact k1 he H locs ls hP hS hl
  · rw [if_neg h] at he
    exact k2 he H locs ls hP hS hl
theorem sw_icmp_le {x y : Int32} {off : Int} {i : Decidable (x ≤ y)} (tgt : Nat) (C : sw_C X ad cc own d) (hd : decode cc pc = .ok (.if_icmp .le off, 3)) (ht : (pc : Int) + off = (tgt : Int)) (k1 : sw_J X ad t tgt L st σ e1) (k2 : sw_J X ad t (pc + 3) L st σ e2) : sw_J X ad t pc L (.int y :: .int x :: st) σ (@ite _ (x ≤ y) i e1 e2) := by
  obtain ⟨⟨p, l, ev, R, s, m⟩, ⟨args, below, meth, c⟩, ⟨cells, slots, Q⟩, ⟨A, D, cA, nL⟩⟩ := X
  obtain ⟨hx, hb, hml, hown, hts, hK, hap, hAd, hA, hF, hR, hc1, hc2⟩ := C
  intro he H locs ls hP hS hl
  refine lv_icmp_le hx hb hd ht (fun h => ?_) (fun h => ?_)
  · rw [if_pos h] at he
    exact k1 he H locs ls hP hS hl
  · rw [if_neg h] at he
    exact k2 he H locs ls hP hS hl
theorem sw_icmp_ne {x y : Int32} {off : Int} {i : Decidable (x = y)} (tgt : Nat) (C : sw_C X ad cc own d) (hd : decode cc pc = .ok (.if_icmp .ne off, 3)) (ht : (pc : Int) + off = (tgt : Int)) (k1 : sw_J X ad t tgt L st σ e2) (k2 : sw_J X ad t (pc + 3) L st σ e1) : sw_J X ad t pc L (.int y :: .int x :: st) σ (@ite _ (x = y) i e1 e2) := by
  obtain ⟨⟨p, l, ev, R, s, m⟩, ⟨args, below, meth, c⟩, ⟨cells, slots, Q⟩, ⟨A, D, cA, nL⟩⟩ := X
  obtain ⟨hx, hb, hml, hown, hts, hK, hap, hAd, hA, hF, hR, hc1, hc2⟩ := C
  intro he H locs ls hP hS hl
  refine lv_icmp_ne hx hb hd ht (fun h => ?_) (fun h => ?_)
  · rw [if_neg h] at he
    exact k1 he H locs ls hP hS hl
  · rw [if_pos h] at he
    exact k2 he H locs ls hP hS hl
theorem sw_tabIn {dflt lo hi : Int} {offs : Array Int} {len : Nat} {x : Int32} {off : Int} (tgt : Nat) (C : sw_C X ad cc own d) (hd : decode cc pc = .ok (.tableswitch dflt lo hi offs, len)) (h1 : ¬ x.toInt < lo) (h2 : ¬ hi < x.toInt) (ho : offs[(x.toInt - lo).toNat]? = some off) (ht : (pc : Int) + off = (tgt : Int)) (k : sw_J X ad t tgt L st σ e) : sw_J X ad t pc L (.int x :: st) σ e := by
  obtain ⟨⟨p, l, ev, R, s, m⟩, ⟨args, below, meth, c⟩, ⟨cells, slots, Q⟩, ⟨A, D, cA, nL⟩⟩ := X
  obtain ⟨hx, hb, hml, hown, hts, hK, hap, hAd, hA, hF, hR, hc1, hc2⟩ := C
  intro he H locs ls hP hS hl
  exact lv_tableIn hx hb hd h1 h2 ho ht (k he H locs ls hP hS hl)
theorem sw_tabOut {dflt lo hi : Int} {offs : Array Int} {len : Nat} {x : Int32} (tgt : Nat) (C : sw_C X ad cc own d) (hd : decode cc pc = .ok (.tableswitch dflt lo hi offs, len)) (h : x.toInt < lo ∨ hi < x.toInt) (ht : (pc : Int) + dflt = (tgt : Int)) (k : sw_J X ad t tgt L st σ e) : sw_J X ad t pc L (.int x :: st) σ e := by
  obtain ⟨⟨p, l, ev, R, s, m⟩, ⟨args, below, meth, c⟩, ⟨cells, slots, Q⟩, ⟨A, D, cA, nL⟩⟩ := X
  obtain ⟨hx, hb, hml, hown, hts, hK, hap, hAd, hA, hF, hR, hc1, hc2⟩ := C
  intro he H locs ls hP hS hl
  exact lv_tableOut hx hb hd h ht (k he H locs ls hP hS hl)
theorem sw_look {dflt : Int} {ps : Array (Int × Int)} {len : Nat} {x : Int32} {off : Int} (tgt : Nat) (C : sw_C X ad cc own d) (hd : decode cc pc = .ok (.lookupswitch dflt ps, len)) (hp : (ps.toList.zip (ps.toList.drop 1)).all (fun (a, next) => a.1 < next.1) = true) (ho : Op.lookupswitch.offset ps.toList dflt x.toInt = off) (ht : (pc : Int) + off = (tgt : Int)) (k : sw_J X ad t tgt L st σ e) : sw_J X ad t pc L (.int x :: st) σ e := by
  obtain ⟨⟨p, l, ev, R, s, m⟩, ⟨args, below, meth, c⟩, ⟨cells, slots, Q⟩, ⟨A, D, cA, nL⟩⟩ := X
  obtain ⟨hx, hb, hml, hown, hts, hK, hap, hAd, hA, hF, hR, hc1, hc2⟩ := C
  intro he H locs ls hP hS hl
  exact lv_lookup hx hb hd hp ho ht (k he H locs ls hP hS hl)
/-- a field: its link in the class 'own', its place in its class -/
def sw_F (own : String) (idx ci fk : Nat) : Prop := ∃ (C : String) (T : u_T) (N : Nat), vwCl[ci]? = some (C, T, N) ∧ fk < N ∧ (∀ w ∈ u_ws C T N, w ∈ sw_tbl) ∧ Cond.fieldLink own idx (T fk).1 (T fk).2.1 (T fk).2.2.1 ∈ sw_tbl
def sw_FP (own : String) (idx ci fk : Nat) : Prop := ∃ (C : String) (T : u_T) (N : Nat) (ty : Nat → FieldType), vwCl[ci]? = some (C, T, N) ∧ fk < N ∧ (∀ w ∈ u_ws C T N, w ∈ sw_tbl) ∧ Cond.fieldLink own idx (T fk).1 (T fk).2.1 (T fk).2.2.1 ∈ sw_tbl ∧ (∀ k, k < N → parseFieldDescriptor (T k).2.2.1 = some (ty k)) ∧ (∀ a, a < N → ∀ b, b < N → a ≠ b → (T a).2.1 ≠ (T b).2.1) ∧ (T fk).2.2.2 = false ∧ parseFieldDescriptor (T fk).2.2.1 = some .int
theorem sw_getI {idx ci fk cl : Nat} {fl : List (Option Nat)} (C : sw_C X ad cc own d) (F : sw_F own idx ci fk) (hs : sw_sh[cl]? = some (.inr (ci, fl))) (hf : fl[fk]? = some none) (hd : decode cc pc = .ok (.getfield idx, 3)) (k : sw_J X ad t (pc + 3) L (.int (σ cl fk) :: st) σ e) : sw_J X ad t pc L (.ref (ad cl) :: st) σ e := by
  obtain ⟨⟨p, l, ev, R, s, m⟩, ⟨args, below, meth, c⟩, ⟨cells, slots, Q⟩, ⟨A, D, cA, nL⟩⟩ := X
  obtain ⟨hx, hb, hml, hown, hts, hK, hap, hAd, hA, hF, hR, hc1, hc2⟩ := C
  obtain ⟨Cn, T, N, hcl, hk, hin, hlk⟩ := F
  intro he H locs ls hP hS hl
  exact va_get hx hb hts hin hown hK hP cl (sw_at_obj hs) hcl fk hk (hts _ hlk) (fun _ h => h) (sw_fs_int hf) hd (k he H locs ls hP hS hl)
theorem sw_getR {idx ci fk cl r : Nat} {fl : List (Option Nat)} (C : sw_C X ad cc own d) (F : sw_F own idx ci fk) (hs : sw_sh[cl]? = some (.inr (ci, fl))) (hf : fl[fk]? = some (some r)) (hd : decode cc pc = .ok (.getfield idx, 3)) (k : sw_J X ad t (pc + 3) L (.ref (ad r) :: st) σ e) : sw_J X ad t pc L (.ref (ad cl) :: st) σ e := by
  obtain ⟨⟨p, l, ev, R, s, m⟩, ⟨args, below, meth, c⟩, ⟨cells, slots, Q⟩, ⟨A, D, cA, nL⟩⟩ := X
  obtain ⟨hx, hb, hml, hown, hts, hK, hap, hAd, hA, hF, hR, hc1, hc2⟩ := C
  obtain ⟨Cn, T, N, hcl, hk, hin, hlk⟩ := F
  intro he H locs ls hP hS hl
  exact va_get hx hb hts hin hown hK hP cl (sw_at_obj hs) hcl fk hk (hts _ hlk) (fun _ h => h) (sw_fs_ref hf) hd (k he H locs ls hP hS hl)
theorem sw_put {idx ci fk cl : Nat} {fl : List (Option Nat)} {v : Int32} (C : sw_C X ad cc own d) (F : sw_FP own idx ci fk) (hs : sw_sh[cl]? = some (.inr (ci, fl))) (hf : fl[fk]? = some none) (hd : decode cc pc = .ok (.putfield idx, 3)) (k : sw_J X ad t (pc + 3) L st (sw_up σ cl fk v) e) : sw_J X ad t pc L (.int v :: .ref (ad cl) :: st) σ e := by
  obtain ⟨⟨p, l, ev, R, s, m⟩, ⟨args, below, meth, c⟩, ⟨cells, slots, Q⟩, ⟨A, D, cA, nL⟩⟩ := X
  obtain ⟨hx, hb, hml, hown, hts, hK, hap, hAd, hA, hF, hR, hc1, hc2⟩ := C
  obtain ⟨Cn, T, N, ty, hcl, hk, hin, hlk, hty, hnm, hfin, hint⟩ := F
  intro he H locs ls hP hS hl
  refine va_put hx hb hts hin ty hty hnm hown hK hP (sw_D hap hAd) hS cl (sw_at_obj hs) hcl fk hk (hts _ hlk) (fun _ h => h) hfin hint rfl rfl (by have := (List.getElem?_eq_some_iff.mp hf).1; simpa [sw_fs] using this) hd (fun H1 locs1 hP1 hD1 hS1 => ?_)
  rw [sw_ws_put hs hf] at hP1
  exact k he H1 locs1 ls hP1 hS1 hl
theorem sw_iald {cl n : Nat} {i : Int32} (C : sw_C X ad cc own d) (hs : sw_sh[cl]? = some (.inl n)) (hd : decode cc pc = .ok (.iaload, 1)) (k : sw_J X ad t (pc + 1) L (.int (σ cl i.toNatClampNeg) :: st) σ e) : sw_J X ad t pc L (.int i :: .ref (ad cl) :: st) σ (if sw_ok i n = true then e else none) := by
  refine sw_ite (fun hi => ?_) (fun _ => sw_none)
  obtain ⟨⟨p, l, ev, R, s, m⟩, ⟨args, below, meth, c⟩, ⟨cells, slots, Q⟩, ⟨A, D, cA, nL⟩⟩ := X
  obtain ⟨hx, hb, hml, hown, hts, hK, hap, hAd, hA, hF, hR, hc1, hc2⟩ := C
  intro he H locs ls hP hS hl
  exact va_iald hx hb hK hP cl 0 (sw_at_arr hs) rfl (sw_ok_in hi) hd (k he H locs ls hP hS hl)
theorem sw_iast {cl n : Nat} {i v : Int32} (C : sw_C X ad cc own d) (hs : sw_sh[cl]? = some (.inl n)) (hd : decode cc pc = .ok (.iastore, 1)) (k : sw_J X ad t (pc + 1) L st (sw_up σ cl i.toNatClampNeg v) e) : sw_J X ad t pc L (.int v :: .int i :: .ref (ad cl) :: st) σ (if sw_ok i n = true then e else none) := by
  refine sw_ite (fun hi => ?_) (fun _ => sw_none)
  obtain ⟨⟨p, l, ev, R, s, m⟩, ⟨args, below, meth, c⟩, ⟨cells, slots, Q⟩, ⟨A, D, cA, nL⟩⟩ := X
  obtain ⟨hx, hb, hml, hown, hts, hK, hap, hAd, hA, hF, hR, hc1, hc2⟩ := C
  intro he H locs ls hP hS hl
  refine va_iast hx hb hK hP (sw_D hap hAd) hS cl 0 (sw_at_arr hs) rfl (sw_ok_in hi) hd (fun H1 locs1 hP1 hD1 hS1 => ?_)
  rw [sw_ws_ast hs] at hP1
  exact k he H1 locs1 ls hP1 hS1 hl
/-- a copy that lies within both rows -/
def sw_cok (sp dp n : Int32) (n0 n1 : Nat) : Bool := decide (0 ≤ sp.toInt) && decide (0 ≤ dp.toInt) && decide (0 ≤ n.toInt) && decide (sp.toNatClampNeg + n.toNatClampNeg ≤ n0) && decide (dp.toNatClampNeg + n.toNatClampNeg ≤ n1)
theorem sw_nn {z : Int32} (h : 0 ≤ z.toInt) : ¬ z < 0 := by
  rw [Int32.lt_iff_toInt_lt, Int32.toInt_zero]; omega
theorem sw_copy {idx c0 c1 n0 n1 : Nat} {sp dp n : Int32} (C : sw_C X ad cc own d) (h1f : 1 ≤ d) (hst : (st.map fun v => v.category).sum ≤ 8) (hlk : Cond.methodLink own idx arraycopyName ∈ sw_tbl) (hnat : Cond.native arraycopyName ∈ sw_tbl) (hstat : Cond.static arraycopyName ∈ sw_tbl) (hini : Cond.initialized "java/lang/System" ∈ sw_tbl) (hs0 : sw_sh[c0]? = some (.inl n0)) (hs1 : sw_sh[c1]? = some (.inl n1)) (hd : decode cc pc = .ok (.invokestatic idx, 3)) (k : sw_J X ad t (pc + 3) L st (sw_ar σ c1 (va_cpy (σ c0) (σ c1) sp.toNatClampNeg dp.toNatClampNeg n.toNatClampNeg)) e) : sw_J X ad t pc L (.int n :: .int dp :: .ref (ad c1) :: .int sp :: .ref (ad c0) :: st) σ (if sw_cok sp dp n n0 n1 = true then e else none) := by
  refine sw_ite (fun hi => ?_) (fun _ => sw_none)
  obtain ⟨⟨p, l, ev, R, s, m⟩, ⟨args, below, meth, c⟩, ⟨cells, slots, Q⟩, ⟨A, D, cA, nL⟩⟩ := X
  obtain ⟨hx, hb, hml, hown, hts, hK, hap, hAd, hA, hF, hR, hc1, hc2⟩ := C
  intro he H locs ls hP hS hl
  simp only [sw_cok, Bool.and_eq_true, decide_eq_true_eq] at hi
  obtain ⟨⟨⟨⟨i1, i2⟩, i3⟩, i4⟩, i5⟩ := hi
  refine va_copyi hx hb (by rw [hml]; exact hl.1.symm) hown (hts _ hlk) (hts _ hnat) (hts _ hstat) (hts _ hini) hK hP (sw_D hap hAd) hS c0 c1 0 0 (sw_at_arr hs0) (sw_at_arr hs1) rfl rfl rfl (sw_nn i1) (sw_nn i2) (sw_nn i3) i4 i5 (fun _ _ => rfl) (by omega) ?_ hd (fun H1 locs1 hP1 hD1 hS1 => ?_)
  · have : nativeFrameWords "java/lang/System" "arraycopy" 5 + 11 ≤ 30 := by decide
    omega
  · rw [sw_ws_ar hs1] at hP1
    exact k he H1 locs1 ls hP1 hS1 hl
end

/-- the cells that a method may write: the system's, and new ones -/
def sw_A (ad : Nat → Nat) (sz : Nat) : Nat → Prop := fun q => (∃ i : Nat, i < 63 ∧ q = ad i) ∨ sz ≤ q
def sw_rm (d : Nat) : Room := { frames := d, cells := 0, slots := 0, locals := 40 * d }
def sw_Pc (D : va_G) (cA : ClassId) (ad : Nat → Nat) (σ : sw_St) (sz : Nat) (av : List Value) : Array Value → State → Prop := va_Pc av (fun U => U.heap.size = sz ∧ va_P D vwCl (sw_ws ad cA σ) U.heap ∧ va_K D vwCl [(cA, .int)] U)
def sw_Qi (D : va_G) (cA : ClassId) (ad : Nat → Nat) (sz : Nat) (t : Int32 × sw_St) : Array Value → State → Outcome → State → Prop := va_Qi (S := Unit) (fun r _ => r = t.1) (fun _ u => va_P D vwCl (sw_ws ad cA t.2) u.heap) (sw_A ad sz)
def sw_Ql (D : va_G) (cA : ClassId) (ad : Nat → Nat) (sz : Nat) (t : Int64 × sw_St) : Array Value → State → Outcome → State → Prop := va_Ql (S := Unit) (fun r _ => r = t.1) (fun _ u => va_P D vwCl (sw_ws ad cA t.2) u.heap) (sw_A ad sz)
def sw_Qv (D : va_G) (cA : ClassId) (ad : Nat → Nat) (sz : Nat) (t : Unit × sw_St) : Array Value → State → Outcome → State → Prop := va_Qv (S := Unit) (fun _ => True) (fun _ u => va_P D vwCl (sw_ws ad cA t.2) u.heap) (sw_A ad sz)
/-- the contract of a method that answers an int (a long, nothing): it does what f says -/
def sw_Ki (y : MethodName) (cc : ByteArray) (nL : Nat) (ret : Option FieldType) (d : Nat) (av : (Nat → Nat) → List Value) (f : sw_St → Option (Int32 × sw_St)) : Prop := ∀ (l : Launch) (D : va_G) (cA : ClassId) (ad : Nat → Nat) (σ : sw_St) (sz : Nat) (t : Int32 × sw_St), sw_ap ad → f σ = some t → Met l y (sw_wsU y cc nL ret) (sw_rm d) (sw_Pc D cA ad σ sz (av ad)) (sw_Qi D cA ad sz t) 0 0 (sw_A ad sz)
def sw_Kl (y : MethodName) (cc : ByteArray) (nL : Nat) (ret : Option FieldType) (d : Nat) (av : (Nat → Nat) → List Value) (f : sw_St → Option (Int64 × sw_St)) : Prop := ∀ (l : Launch) (D : va_G) (cA : ClassId) (ad : Nat → Nat) (σ : sw_St) (sz : Nat) (t : Int64 × sw_St), sw_ap ad → f σ = some t → Met l y (sw_wsU y cc nL ret) (sw_rm d) (sw_Pc D cA ad σ sz (av ad)) (sw_Ql D cA ad sz t) 0 0 (sw_A ad sz)
def sw_Kv (y : MethodName) (cc : ByteArray) (nL : Nat) (ret : Option FieldType) (d : Nat) (av : (Nat → Nat) → List Value) (f : sw_St → Option (Unit × sw_St)) : Prop := ∀ (l : Launch) (D : va_G) (cA : ClassId) (ad : Nat → Nat) (σ : sw_St) (sz : Nat) (t : Unit × sw_St), sw_ap ad → f σ = some t → Met l y (sw_wsU y cc nL ret) (sw_rm d) (sw_Pc D cA ad σ sz (av ad)) (sw_Qv D cA ad sz t) 0 0 (sw_A ad sz)
/-- what a method's own context is -/
def sw_Mi (X : sw_X) (ad : Nat → Nat) (ret : Option FieldType) (t : Int32 × sw_St) : Prop := match X with
  | ((p, l, e, R, s, m), (args, below, meth, c), (cells, slots, Q), (A, D, cA, nL)) => cells = 0 ∧ slots = 0 ∧ A = sw_A ad s.heap.size ∧ meth.sig.returnType = ret ∧ meth.locks = false ∧ Q = MQ below (sw_Qi D cA ad s.heap.size t) args s 0 0 (sw_A ad s.heap.size)
def sw_Ml (X : sw_X) (ad : Nat → Nat) (ret : Option FieldType) (t : Int64 × sw_St) : Prop := match X with
  | ((p, l, e, R, s, m), (args, below, meth, c), (cells, slots, Q), (A, D, cA, nL)) => cells = 0 ∧ slots = 0 ∧ A = sw_A ad s.heap.size ∧ meth.sig.returnType = ret ∧ meth.locks = false ∧ Q = MQ below (sw_Ql D cA ad s.heap.size t) args s 0 0 (sw_A ad s.heap.size)
def sw_Mv (X : sw_X) (ad : Nat → Nat) (ret : Option FieldType) (t : Unit × sw_St) : Prop := match X with
  | ((p, l, e, R, s, m), (args, below, meth, c), (cells, slots, Q), (A, D, cA, nL)) => cells = 0 ∧ slots = 0 ∧ A = sw_A ad s.heap.size ∧ meth.sig.returnType = ret ∧ meth.locks = false ∧ Q = MQ below (sw_Qv D cA ad s.heap.size t) args s 0 0 (sw_A ad s.heap.size)

theorem sw_enteri {y : MethodName} {cc : ByteArray} {nL : Nat} {ret : Option FieldType} {d : Nat} {av : (Nat → Nat) → List Value} {f : sw_St → Option (Int32 × sw_St)} (hy : plainName y.cls = true) (hav : ∀ ad, (lg_sl (av ad)).length ≤ nL)
    (body : ∀ (X : sw_X) (ad : Nat → Nat) (t : Int32 × sw_St) (σ : sw_St), sw_C X ad cc y.cls d → sw_nL X = nL → sw_Mi X ad ret t → sw_J X ad t 0 (lv_args 0 (av ad)) [] σ (f σ)) : sw_Ki y cc nL ret d av f := by
  intro l D cA ad σ sz t hap hf
  refine Met.ofW (cc := cc) (maxL := nL) (ret := ret) hy rfl ?_
  intro p e s m args below meth c s₁ B hml hv
  obtain ⟨rfl, hsz, hP, hK⟩ := hv
  have hts := atoms_spec (ws := sw_wsU y cc nL ret) B.pre
  have hown : s.vm.findClass y.cls = some m.cls := findClass_of_methodNamed B.named
  have hl := lv_entry (av ad) (n := nL) (hav ad)
  subst hsz
  rw [lg_entry_eq]
  have key := body ((p, l, e, sw_rm d, s, m), ((av ad).toArray, below, meth, c), (0, 0, MQ below (sw_Qi D cA ad s.heap.size t) (av ad).toArray s 0 0 (sw_A ad s.heap.size)), (sw_A ad s.heap.size, D, cA, nL)) ad t σ
    ⟨B.exec, B.bytes, hml, hown, fun w hw => hts w (List.mem_cons_of_mem _ hw), hK, hap, fun i hi => Or.inl ⟨i, hi, rfl⟩, fun q hq => Or.inr hq, Nat.le_refl _, Nat.le_refl _, Nat.le_refl _, Nat.le_refl _⟩ rfl
    ⟨rfl, rfl, rfl, B.returns, B.notSynchronized, rfl⟩ hf
  exact key s.heap [] _ hP va_S.rf hl
theorem sw_enterl {y : MethodName} {cc : ByteArray} {nL : Nat} {ret : Option FieldType} {d : Nat} {av : (Nat → Nat) → List Value} {f : sw_St → Option (Int64 × sw_St)} (hy : plainName y.cls = true) (hav : ∀ ad, (lg_sl (av ad)).length ≤ nL)
    (body : ∀ (X : sw_X) (ad : Nat → Nat) (t : Int64 × sw_St) (σ : sw_St), sw_C X ad cc y.cls d → sw_nL X = nL → sw_Ml X ad ret t → sw_J X ad t 0 (lv_args 0 (av ad)) [] σ (f σ)) : sw_Kl y cc nL ret d av f := by
  intro l D cA ad σ sz t hap hf
  refine Met.ofW (cc := cc) (maxL := nL) (ret := ret) hy rfl ?_
  intro p e s m args below meth c s₁ B hml hv
  obtain ⟨rfl, hsz, hP, hK⟩ := hv
  have hts := atoms_spec (ws := sw_wsU y cc nL ret) B.pre
  have hown : s.vm.findClass y.cls = some m.cls := findClass_of_methodNamed B.named
  have hl := lv_entry (av ad) (n := nL) (hav ad)
  subst hsz
  rw [lg_entry_eq]
  have key := body ((p, l, e, sw_rm d, s, m), ((av ad).toArray, below, meth, c), (0, 0, MQ below (sw_Ql D cA ad s.heap.size t) (av ad).toArray s 0 0 (sw_A ad s.heap.size)), (sw_A ad s.heap.size, D, cA, nL)) ad t σ
    ⟨B.exec, B.bytes, hml, hown, fun w hw => hts w (List.mem_cons_of_mem _ hw), hK, hap, fun i hi => Or.inl ⟨i, hi, rfl⟩, fun q hq => Or.inr hq, Nat.le_refl _, Nat.le_refl _, Nat.le_refl _, Nat.le_refl _⟩ rfl
    ⟨rfl, rfl, rfl, B.returns, B.notSynchronized, rfl⟩ hf
  exact key s.heap [] _ hP va_S.rf hl
theorem sw_enterv {y : MethodName} {cc : ByteArray} {nL : Nat} {ret : Option FieldType} {d : Nat} {av : (Nat → Nat) → List Value} {f : sw_St → Option (Unit × sw_St)} (hy : plainName y.cls = true) (hav : ∀ ad, (lg_sl (av ad)).length ≤ nL)
    (body : ∀ (X : sw_X) (ad : Nat → Nat) (t : Unit × sw_St) (σ : sw_St), sw_C X ad cc y.cls d → sw_nL X = nL → sw_Mv X ad ret t → sw_J X ad t 0 (lv_args 0 (av ad)) [] σ (f σ)) : sw_Kv y cc nL ret d av f := by
  intro l D cA ad σ sz t hap hf
  refine Met.ofW (cc := cc) (maxL := nL) (ret := ret) hy rfl ?_
  intro p e s m args below meth c s₁ B hml hv
  obtain ⟨rfl, hsz, hP, hK⟩ := hv
  have hts := atoms_spec (ws := sw_wsU y cc nL ret) B.pre
  have hown : s.vm.findClass y.cls = some m.cls := findClass_of_methodNamed B.named
  have hl := lv_entry (av ad) (n := nL) (hav ad)
  subst hsz
  rw [lg_entry_eq]
  have key := body ((p, l, e, sw_rm d, s, m), ((av ad).toArray, below, meth, c), (0, 0, MQ below (sw_Qv D cA ad s.heap.size t) (av ad).toArray s 0 0 (sw_A ad s.heap.size)), (sw_A ad s.heap.size, D, cA, nL)) ad t σ
    ⟨B.exec, B.bytes, hml, hown, fun w hw => hts w (List.mem_cons_of_mem _ hw), hK, hap, fun i hi => Or.inl ⟨i, hi, rfl⟩, fun q hq => Or.inr hq, Nat.le_refl _, Nat.le_refl _, Nat.le_refl _, Nat.le_refl _⟩ rfl
    ⟨rfl, rfl, rfl, B.returns, B.notSynchronized, rfl⟩ hf
  exact key s.heap [] _ hP va_S.rf hl
section
variable {X : sw_X} {ad : Nat → Nat} {cc : ByteArray} {own : String} {d : Nat} {pc : Nat} {L : List (Nat × Value)} {st : List Value} {σ : sw_St}

theorem sw_reti {t : Int32 × sw_St} {x : Int32} (C : sw_C X ad cc own d) (M : sw_Mi X ad (some .int) t) (hd : decode cc pc = .ok (.ireturn, 1)) : sw_J X ad t pc L ([.int x]) σ (some (x, σ)) := by
  obtain ⟨⟨p, l, ev, R, s, m⟩, ⟨args, below, meth, c⟩, ⟨cells, slots, Q⟩, ⟨A, D, cA, nL⟩⟩ := X
  obtain ⟨hx, hb, hml, hown, hts, hK, hap, hAd, hA, hF, hR, hc1, hc2⟩ := C
  obtain ⟨rfl, rfl, rfl, hr, hlocks, rfl⟩ := M
  intro he H locs ls hP hS hl
  have hh := Option.some.inj he
  subst hh
  exact W.iret hx hb hr (fun u hu hW => ⟨⟨x, (), rfl, rfl, by subst hu; exact hP⟩, hS.F hu⟩) hS.2.2 hd
theorem sw_retiz {t : Int32 × sw_St} {x : Int32} (hz : narrow .boolean (.int x) = .int x) (C : sw_C X ad cc own d) (M : sw_Mi X ad (some .boolean) t) (hd : decode cc pc = .ok (.ireturn, 1)) : sw_J X ad t pc L ([.int x]) σ (some (x, σ)) := by
  obtain ⟨⟨p, l, ev, R, s, m⟩, ⟨args, below, meth, c⟩, ⟨cells, slots, Q⟩, ⟨A, D, cA, nL⟩⟩ := X
  obtain ⟨hx, hb, hml, hown, hts, hK, hap, hAd, hA, hF, hR, hc1, hc2⟩ := C
  obtain ⟨rfl, rfl, rfl, hr, hlocks, rfl⟩ := M
  intro he H locs ls hP hS hl
  have hh := Option.some.inj he
  subst hh
  exact W.zret hx hb hr hz (fun u hu hW => ⟨⟨x, (), rfl, rfl, by subst hu; exact hP⟩, hS.F hu⟩) hS.2.2 hd
theorem sw_retl {t : Int64 × sw_St} {x : Int64} (C : sw_C X ad cc own d) (M : sw_Ml X ad (some .long) t) (hd : decode cc pc = .ok (.lreturn, 1)) : sw_J X ad t pc L ([.long x]) σ (some (x, σ)) := by
  obtain ⟨⟨p, l, ev, R, s, m⟩, ⟨args, below, meth, c⟩, ⟨cells, slots, Q⟩, ⟨A, D, cA, nL⟩⟩ := X
  obtain ⟨hx, hb, hml, hown, hts, hK, hap, hAd, hA, hF, hR, hc1, hc2⟩ := C
  obtain ⟨rfl, rfl, rfl, hr, hlocks, rfl⟩ := M
  intro he H locs ls hP hS hl
  have hh := Option.some.inj he
  subst hh
  exact W.lret hx hb hr (fun u hu hW => ⟨⟨x, (), rfl, rfl, by subst hu; exact hP⟩, hS.F hu⟩) hS.2.2 hd
theorem sw_retv {t : Unit × sw_St}  (C : sw_C X ad cc own d) (M : sw_Mv X ad none t) (hd : decode cc pc = .ok (.return_, 1)) : sw_J X ad t pc L ([]) σ (some ((), σ)) := by
  obtain ⟨⟨p, l, ev, R, s, m⟩, ⟨args, below, meth, c⟩, ⟨cells, slots, Q⟩, ⟨A, D, cA, nL⟩⟩ := X
  obtain ⟨hx, hb, hml, hown, hts, hK, hap, hAd, hA, hF, hR, hc1, hc2⟩ := C
  obtain ⟨rfl, rfl, rfl, hr, hlocks, rfl⟩ := M
  intro he H locs ls hP hS hl
  have hh := Option.some.inj he
  subst hh
  exact W.vret hx hb hr (fun u hu hW => ⟨⟨(), rfl, trivial, by subst hu; exact hP⟩, hS.F hu⟩) hS.2.2 hd
end
/-- what the tables say of a method: a static one, one of an object -/
def sw_S0 (y : MethodName) (cc : ByteArray) (nL : Nat) (ret : Option FieldType) (n : Nat) : Prop := Cond.code y cc nL ret ∈ sw_tbl ∧ Cond.initialized y.cls ∈ sw_tbl ∧ (y.cls ≠ "java/lang/invoke/MethodHandle" ∧ y.cls ≠ "java/lang/invoke/VarHandle" ∧ (parseMethodDescriptor y.desc).map (fun d => d.parameters.length) = some n) ∧ nL ≤ 21
def sw_SS (y : MethodName) (cc : ByteArray) (nL : Nat) (ret : Option FieldType) (n : Nat) : Prop := sw_S0 y cc nL ret n ∧ Cond.static y ∈ sw_tbl
def sw_SV (y : MethodName) (cc : ByteArray) (nL : Nat) (ret : Option FieldType) (n : Nat) : Prop := sw_S0 y cc nL ret n ∧ Cond.instanceMethod y ∈ sw_tbl ∧ Cond.selects y.cls y y ∈ sw_tbl
theorem sw_blind {D : va_G} {cA : ClassId} {ad : Nat → Nat} {σ : sw_St} {sz : Nat} {av : List Value} : FrameBlind (sw_Pc D cA ad σ sz av) := by
  intro a U g mk q
  obtain ⟨q0, q1, qP, qK⟩ := q
  exact ⟨q0, q1, qP, va_K.moved (u := U) (U := U.calling g mk a) (Vm.Alike.refl U.vm) qK⟩
section
variable {α : Type} {X : sw_X} {ad : Nat → Nat} {cc : ByteArray} {own : String} {d : Nat} {t : α × sw_St} {pc : Nat} {L : List (Nat × Value)} {st : List Value} {σ : sw_St}
variable {y : MethodName} {cc' : ByteArray} {nL' n d' idx : Nat} {ret' : Option FieldType} {av : (Nat → Nat) → List Value}

theorem sw_callSi {f : sw_St → Option (Int32 × sw_St)} {K : Int32 × sw_St → Option (α × sw_St)} (C : sw_C X ad cc own d) (hM : sw_Ki y cc' nL' ret' d' av f) (S : sw_SS y cc' nL' ret' n) (hlk : Cond.methodLink own idx y ∈ sw_tbl) (hd : decode cc pc = .ok (.invokestatic idx, 3)) (hdd : d' + 1 ≤ d) (As rest : List Value) (hav : av ad = As) (hst : st = As.reverse ++ rest) (hn : As.length = n) (hrest : (rest.map fun v => v.category).sum ≤ 8) (k : ∀ (r : Int32) (τ : sw_St), sw_J X ad t (pc + 3) L (.int r :: rest) τ (K (r, τ))) : sw_J X ad t pc L st σ ((f σ).bind K) := by
  obtain ⟨⟨p, l, ev, R, s, m⟩, ⟨args, below, meth, c⟩, ⟨cells, slots, Q⟩, ⟨A, D, cA, nL⟩⟩ := X
  obtain ⟨hx, hb, hml, hown, hts, hK, hap, hAd, hA, hF, hR, hc1, hc2⟩ := C
  obtain ⟨⟨hcode, hini, hnm, hnl⟩, hSS⟩ := S
  intro he H locs ls hP hS hl
  cases he1 : f σ with
  | none => rw [he1] at he; cases he
  | some t1 =>
    rw [he1] at he
    have hroom : (sw_rm d').frames + 1 ≤ R.frames ∧ 8 + (nL' + 11) + (sw_rm d').locals ≤ R.locals := by
      constructor
      · show d' + 1 ≤ R.frames
        omega
      · show 8 + (nL' + 11) + 40 * d' ≤ R.locals
        omega
    have hcs : cells + 0 ≤ R.cells ∧ slots + 0 ≤ R.slots := ⟨hc1, hc2⟩
    have hfr : ∀ q : Nat, sw_A ad H.size q → A q := by
      intro q hq
      rcases hq with ⟨i, hi, rfl⟩ | hq
      · exact hAd i hi
      · exact hA q (Nat.le_trans hS.1 hq)
    refine va_calli (va_runS (As := As) (rest := rest) ⟨hx, hb, hml, hown, hts⟩ (hM l D cA ad σ H.size t1 hap he1) ⟨callB_of n hts (sw_goodU hcode) rfl rfl rfl (hts _ hini) (hts _ hlk) hnm hroom, hts _ hSS⟩ ⟨sw_blind, fun U hU hW => ⟨by rw [hav], by rw [hU], by rw [hU]; exact hP, va_K.moved hW.alike hK⟩⟩ rfl hn hl.1 hst (lv_room hrest) hd hcs) hS (fun q _ h => hfr q h) hfr (fun r0 _ u H1 locs1 hu hvm hp hB hz1 hk1 hS1 => ?_)
    obtain ⟨r1, τ1⟩ := t1
    have hp : r0 = r1 := hp
    subst hp
    exact k r0 τ1 he H1 locs1 ls (by rw [← hu]; exact hB) hS1 hl
theorem sw_callVi {f : sw_St → Option (Int32 × sw_St)} {K : Int32 × sw_St → Option (α × sw_St)} (C : sw_C X ad cc own d) (hM : sw_Ki y cc' nL' ret' d' av f) (S : sw_SV y cc' nL' ret' n) (hlk : Cond.methodLink own idx y ∈ sw_tbl) (hd : decode cc pc = .ok (.invokevirtual idx, 3)) (hdd : d' + 1 ≤ d) (As rest : List Value) {cl ci : Nat} {fl : List (Option Nat)} {T : u_T} {N : Nat} (hs : sw_sh[cl]? = some (.inr (ci, fl))) (hci : vwCl[ci]? = some (y.cls, T, N)) (hav : av ad = .ref (ad cl) :: As) (hst : st = As.reverse ++ .ref (ad cl) :: rest) (hn : As.length = n) (hrest : (rest.map fun v => v.category).sum ≤ 8) (k : ∀ (r : Int32) (τ : sw_St), sw_J X ad t (pc + 3) L (.int r :: rest) τ (K (r, τ))) : sw_J X ad t pc L st σ ((f σ).bind K) := by
  obtain ⟨⟨p, l, ev, R, s, m⟩, ⟨args, below, meth, c⟩, ⟨cells, slots, Q⟩, ⟨A, D, cA, nL⟩⟩ := X
  obtain ⟨hx, hb, hml, hown, hts, hK, hap, hAd, hA, hF, hR, hc1, hc2⟩ := C
  obtain ⟨⟨hcode, hini, hnm, hnl⟩, hin, hsel⟩ := S
  intro he H locs ls hP hS hl
  cases he1 : f σ with
  | none => rw [he1] at he; cases he
  | some t1 =>
    rw [he1] at he
    have hroom : (sw_rm d').frames + 1 ≤ R.frames ∧ 8 + (nL' + 11) + (sw_rm d').locals ≤ R.locals := by
      constructor
      · show d' + 1 ≤ R.frames
        omega
      · show 8 + (nL' + 11) + 40 * d' ≤ R.locals
        omega
    have hcs : cells + 0 ≤ R.cells ∧ slots + 0 ≤ R.slots := ⟨hc1, hc2⟩
    have hfr : ∀ q : Nat, sw_A ad H.size q → A q := by
      intro q hq
      rcases hq with ⟨i, hi, rfl⟩ | hq
      · exact hAd i hi
      · exact hA q (Nat.le_trans hS.1 hq)
    refine va_calli (va_runV (As := As) (rest := rest) (C := y.cls) ⟨hx, hb, hml, hown, hts⟩ (hM l D cA ad σ H.size t1 hap he1) ⟨callB_of n hts (sw_goodU hcode) rfl rfl rfl (hts _ hini) (hts _ hlk) hnm hroom, hts _ hin, hts _ hsel⟩ ⟨sw_blind, va_recv hK hP hci (sw_at_obj hs), fun U hU hW => ⟨by rw [hav], by rw [hU], by rw [hU]; exact hP, va_K.moved hW.alike hK⟩⟩ rfl hn hl.1 hst (lv_room hrest) hd hcs) hS (fun q _ h => hfr q h) hfr (fun r0 _ u H1 locs1 hu hvm hp hB hz1 hk1 hS1 => ?_)
    obtain ⟨r1, τ1⟩ := t1
    have hp : r0 = r1 := hp
    subst hp
    exact k r0 τ1 he H1 locs1 ls (by rw [← hu]; exact hB) hS1 hl
theorem sw_callSl {f : sw_St → Option (Int64 × sw_St)} {K : Int64 × sw_St → Option (α × sw_St)} (C : sw_C X ad cc own d) (hM : sw_Kl y cc' nL' ret' d' av f) (S : sw_SS y cc' nL' ret' n) (hlk : Cond.methodLink own idx y ∈ sw_tbl) (hd : decode cc pc = .ok (.invokestatic idx, 3)) (hdd : d' + 1 ≤ d) (As rest : List Value) (hav : av ad = As) (hst : st = As.reverse ++ rest) (hn : As.length = n) (hrest : (rest.map fun v => v.category).sum ≤ 8) (k : ∀ (r : Int64) (τ : sw_St), sw_J X ad t (pc + 3) L (.long r :: rest) τ (K (r, τ))) : sw_J X ad t pc L st σ ((f σ).bind K) := by
  obtain ⟨⟨p, l, ev, R, s, m⟩, ⟨args, below, meth, c⟩, ⟨cells, slots, Q⟩, ⟨A, D, cA, nL⟩⟩ := X
  obtain ⟨hx, hb, hml, hown, hts, hK, hap, hAd, hA, hF, hR, hc1, hc2⟩ := C
  obtain ⟨⟨hcode, hini, hnm, hnl⟩, hSS⟩ := S
  intro he H locs ls hP hS hl
  cases he1 : f σ with
  | none => rw [he1] at he; cases he
  | some t1 =>
    rw [he1] at he
    have hroom : (sw_rm d').frames + 1 ≤ R.frames ∧ 8 + (nL' + 11) + (sw_rm d').locals ≤ R.locals := by
      constructor
      · show d' + 1 ≤ R.frames
        omega
      · show 8 + (nL' + 11) + 40 * d' ≤ R.locals
        omega
    have hcs : cells + 0 ≤ R.cells ∧ slots + 0 ≤ R.slots := ⟨hc1, hc2⟩
    have hfr : ∀ q : Nat, sw_A ad H.size q → A q := by
      intro q hq
      rcases hq with ⟨i, hi, rfl⟩ | hq
      · exact hAd i hi
      · exact hA q (Nat.le_trans hS.1 hq)
    refine va_calll (va_runS (As := As) (rest := rest) ⟨hx, hb, hml, hown, hts⟩ (hM l D cA ad σ H.size t1 hap he1) ⟨callB_of n hts (sw_goodU hcode) rfl rfl rfl (hts _ hini) (hts _ hlk) hnm hroom, hts _ hSS⟩ ⟨sw_blind, fun U hU hW => ⟨by rw [hav], by rw [hU], by rw [hU]; exact hP, va_K.moved hW.alike hK⟩⟩ rfl hn hl.1 hst (lv_room hrest) hd hcs) hS (fun q _ h => hfr q h) hfr (fun r0 _ u H1 locs1 hu hvm hp hB hz1 hk1 hS1 => ?_)
    obtain ⟨r1, τ1⟩ := t1
    have hp : r0 = r1 := hp
    subst hp
    exact k r0 τ1 he H1 locs1 ls (by rw [← hu]; exact hB) hS1 hl
theorem sw_callVl {f : sw_St → Option (Int64 × sw_St)} {K : Int64 × sw_St → Option (α × sw_St)} (C : sw_C X ad cc own d) (hM : sw_Kl y cc' nL' ret' d' av f) (S : sw_SV y cc' nL' ret' n) (hlk : Cond.methodLink own idx y ∈ sw_tbl) (hd : decode cc pc = .ok (.invokevirtual idx, 3)) (hdd : d' + 1 ≤ d) (As rest : List Value) {cl ci : Nat} {fl : List (Option Nat)} {T : u_T} {N : Nat} (hs : sw_sh[cl]? = some (.inr (ci, fl))) (hci : vwCl[ci]? = some (y.cls, T, N)) (hav : av ad = .ref (ad cl) :: As) (hst : st = As.reverse ++ .ref (ad cl) :: rest) (hn : As.length = n) (hrest : (rest.map fun v => v.category).sum ≤ 8) (k : ∀ (r : Int64) (τ : sw_St), sw_J X ad t (pc + 3) L (.long r :: rest) τ (K (r, τ))) : sw_J X ad t pc L st σ ((f σ).bind K) := by
  obtain ⟨⟨p, l, ev, R, s, m⟩, ⟨args, below, meth, c⟩, ⟨cells, slots, Q⟩, ⟨A, D, cA, nL⟩⟩ := X
  obtain ⟨hx, hb, hml, hown, hts, hK, hap, hAd, hA, hF, hR, hc1, hc2⟩ := C
  obtain ⟨⟨hcode, hini, hnm, hnl⟩, hin, hsel⟩ := S
  intro he H locs ls hP hS hl
  cases he1 : f σ with
  | none => rw [he1] at he; cases he
  | some t1 =>
    rw [he1] at he
    have hroom : (sw_rm d').frames + 1 ≤ R.frames ∧ 8 + (nL' + 11) + (sw_rm d').locals ≤ R.locals := by
      constructor
      · show d' + 1 ≤ R.frames
        omega
      · show 8 + (nL' + 11) + 40 * d' ≤ R.locals
        omega
    have hcs : cells + 0 ≤ R.cells ∧ slots + 0 ≤ R.slots := ⟨hc1, hc2⟩
    have hfr : ∀ q : Nat, sw_A ad H.size q → A q := by
      intro q hq
      rcases hq with ⟨i, hi, rfl⟩ | hq
      · exact hAd i hi
      · exact hA q (Nat.le_trans hS.1 hq)
    refine va_calll (va_runV (As := As) (rest := rest) (C := y.cls) ⟨hx, hb, hml, hown, hts⟩ (hM l D cA ad σ H.size t1 hap he1) ⟨callB_of n hts (sw_goodU hcode) rfl rfl rfl (hts _ hini) (hts _ hlk) hnm hroom, hts _ hin, hts _ hsel⟩ ⟨sw_blind, va_recv hK hP hci (sw_at_obj hs), fun U hU hW => ⟨by rw [hav], by rw [hU], by rw [hU]; exact hP, va_K.moved hW.alike hK⟩⟩ rfl hn hl.1 hst (lv_room hrest) hd hcs) hS (fun q _ h => hfr q h) hfr (fun r0 _ u H1 locs1 hu hvm hp hB hz1 hk1 hS1 => ?_)
    obtain ⟨r1, τ1⟩ := t1
    have hp : r0 = r1 := hp
    subst hp
    exact k r0 τ1 he H1 locs1 ls (by rw [← hu]; exact hB) hS1 hl
theorem sw_callSv {f : sw_St → Option (Unit × sw_St)} {K : Unit × sw_St → Option (α × sw_St)} (C : sw_C X ad cc own d) (hM : sw_Kv y cc' nL' ret' d' av f) (S : sw_SS y cc' nL' ret' n) (hlk : Cond.methodLink own idx y ∈ sw_tbl) (hd : decode cc pc = .ok (.invokestatic idx, 3)) (hdd : d' + 1 ≤ d) (As rest : List Value) (hav : av ad = As) (hst : st = As.reverse ++ rest) (hn : As.length = n) (hrest : (rest.map fun v => v.category).sum ≤ 8) (k : ∀ (r : Unit) (τ : sw_St), sw_J X ad t (pc + 3) L (rest) τ (K (r, τ))) : sw_J X ad t pc L st σ ((f σ).bind K) := by
  obtain ⟨⟨p, l, ev, R, s, m⟩, ⟨args, below, meth, c⟩, ⟨cells, slots, Q⟩, ⟨A, D, cA, nL⟩⟩ := X
  obtain ⟨hx, hb, hml, hown, hts, hK, hap, hAd, hA, hF, hR, hc1, hc2⟩ := C
  obtain ⟨⟨hcode, hini, hnm, hnl⟩, hSS⟩ := S
  intro he H locs ls hP hS hl
  cases he1 : f σ with
  | none => rw [he1] at he; cases he
  | some t1 =>
    rw [he1] at he
    have hroom : (sw_rm d').frames + 1 ≤ R.frames ∧ 8 + (nL' + 11) + (sw_rm d').locals ≤ R.locals := by
      constructor
      · show d' + 1 ≤ R.frames
        omega
      · show 8 + (nL' + 11) + 40 * d' ≤ R.locals
        omega
    have hcs : cells + 0 ≤ R.cells ∧ slots + 0 ≤ R.slots := ⟨hc1, hc2⟩
    have hfr : ∀ q : Nat, sw_A ad H.size q → A q := by
      intro q hq
      rcases hq with ⟨i, hi, rfl⟩ | hq
      · exact hAd i hi
      · exact hA q (Nat.le_trans hS.1 hq)
    refine va_callv (va_runS (As := As) (rest := rest) ⟨hx, hb, hml, hown, hts⟩ (hM l D cA ad σ H.size t1 hap he1) ⟨callB_of n hts (sw_goodU hcode) rfl rfl rfl (hts _ hini) (hts _ hlk) hnm hroom, hts _ hSS⟩ ⟨sw_blind, fun U hU hW => ⟨by rw [hav], by rw [hU], by rw [hU]; exact hP, va_K.moved hW.alike hK⟩⟩ rfl hn hl.1 hst (lv_room hrest) hd hcs) hS (fun q _ h => hfr q h) hfr (fun _ u H1 locs1 hu hvm hp hB hz1 hk1 hS1 => ?_)
    obtain ⟨r1, τ1⟩ := t1
    skip
    skip
    exact k r1 τ1 he H1 locs1 ls (by rw [← hu]; exact hB) hS1 hl
theorem sw_callVv {f : sw_St → Option (Unit × sw_St)} {K : Unit × sw_St → Option (α × sw_St)} (C : sw_C X ad cc own d) (hM : sw_Kv y cc' nL' ret' d' av f) (S : sw_SV y cc' nL' ret' n) (hlk : Cond.methodLink own idx y ∈ sw_tbl) (hd : decode cc pc = .ok (.invokevirtual idx, 3)) (hdd : d' + 1 ≤ d) (As rest : List Value) {cl ci : Nat} {fl : List (Option Nat)} {T : u_T} {N : Nat} (hs : sw_sh[cl]? = some (.inr (ci, fl))) (hci : vwCl[ci]? = some (y.cls, T, N)) (hav : av ad = .ref (ad cl) :: As) (hst : st = As.reverse ++ .ref (ad cl) :: rest) (hn : As.length = n) (hrest : (rest.map fun v => v.category).sum ≤ 8) (k : ∀ (r : Unit) (τ : sw_St), sw_J X ad t (pc + 3) L (rest) τ (K (r, τ))) : sw_J X ad t pc L st σ ((f σ).bind K) := by
  obtain ⟨⟨p, l, ev, R, s, m⟩, ⟨args, below, meth, c⟩, ⟨cells, slots, Q⟩, ⟨A, D, cA, nL⟩⟩ := X
  obtain ⟨hx, hb, hml, hown, hts, hK, hap, hAd, hA, hF, hR, hc1, hc2⟩ := C
  obtain ⟨⟨hcode, hini, hnm, hnl⟩, hin, hsel⟩ := S
  intro he H locs ls hP hS hl
  cases he1 : f σ with
  | none => rw [he1] at he; cases he
  | some t1 =>
    rw [he1] at he
    have hroom : (sw_rm d').frames + 1 ≤ R.frames ∧ 8 + (nL' + 11) + (sw_rm d').locals ≤ R.locals := by
      constructor
      · show d' + 1 ≤ R.frames
        omega
      · show 8 + (nL' + 11) + 40 * d' ≤ R.locals
        omega
    have hcs : cells + 0 ≤ R.cells ∧ slots + 0 ≤ R.slots := ⟨hc1, hc2⟩
    have hfr : ∀ q : Nat, sw_A ad H.size q → A q := by
      intro q hq
      rcases hq with ⟨i, hi, rfl⟩ | hq
      · exact hAd i hi
      · exact hA q (Nat.le_trans hS.1 hq)
    refine va_callv (va_runV (As := As) (rest := rest) (C := y.cls) ⟨hx, hb, hml, hown, hts⟩ (hM l D cA ad σ H.size t1 hap he1) ⟨callB_of n hts (sw_goodU hcode) rfl rfl rfl (hts _ hini) (hts _ hlk) hnm hroom, hts _ hin, hts _ hsel⟩ ⟨sw_blind, va_recv hK hP hci (sw_at_obj hs), fun U hU hW => ⟨by rw [hav], by rw [hU], by rw [hU]; exact hP, va_K.moved hW.alike hK⟩⟩ rfl hn hl.1 hst (lv_room hrest) hd hcs) hS (fun q _ h => hfr q h) hfr (fun _ u H1 locs1 hu hvm hp hB hz1 hk1 hS1 => ?_)
    obtain ⟨r1, τ1⟩ := t1
    skip
    skip
    exact k r1 τ1 he H1 locs1 ls (by rw [← hu]; exact hB) hS1 hl
end
end
