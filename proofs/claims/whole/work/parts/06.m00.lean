set_option maxRecDepth 100000 in
set_option maxHeartbeats 4000000 in
theorem mX0_has   (a0 : Int32) : sw_Ki yX0_has cX0_has 2 (some .boolean) 1 (fun ad => [.ref (ad 17), .int a0]) (fX0_has a0) := by
  refine sw_enteri (by decide) (fun ad => Nat.le_of_ble_eq_true rfl) (fun X ad t σ C hn M => ?_)
  change sw_J X ad t 0 [(0, .ref (ad 17)), (1, .int a0)] [] σ _
  replace C : sw_C X ad cX0_has RX0 1 := C
  unfold fX0_has
  refine sw_iloadn (pc := 0) 1 1 C dX0_has_0 rfl ?_
  refine sw_if_lt (pc := 1) 22 C dX0_has_1 (by decide) ?_ ?_
  · refine sw_iconst (pc := 22) (v := 0) C dX0_has_22 (by decide) ?_
    exact sw_retiz (pc := 23) rfl C M dX0_has_23
  · refine sw_iloadn (pc := 4) 1 1 C dX0_has_4 rfl ?_
    refine sw_aloadn (pc := 5) 0 0 C dX0_has_5 rfl ?_
    refine sw_getI (pc := 6) C kfX0_9 sh17 rfl dX0_has_6 ?_
    refine sw_icmp_ge (pc := 9) 22 C dX0_has_9 (by decide) ?_ ?_
    · refine sw_iconst (pc := 22) (v := 0) C dX0_has_22 (by decide) ?_
      exact sw_retiz (pc := 23) rfl C M dX0_has_23
    · refine sw_iloadn (pc := 12) 1 1 C dX0_has_12 rfl ?_
      refine sw_bipush (pc := 13) (v := 24) C dX0_has_13 (by decide) ?_
      refine sw_icmp_ge (pc := 15) 22 C dX0_has_15 (by decide) ?_ ?_
      · refine sw_iconst (pc := 22) (v := 0) C dX0_has_22 (by decide) ?_
        exact sw_retiz (pc := 23) rfl C M dX0_has_23
      · refine sw_iconst (pc := 18) (v := 1) C dX0_has_18 (by decide) ?_
        refine sw_goto (pc := 19) 23 C dX0_has_19 (by decide) ?_
        exact sw_retiz (pc := 23) rfl C M dX0_has_23
set_option maxRecDepth 100000 in
set_option maxHeartbeats 4000000 in
theorem mX0_hardOf   (a0 : Int32) : sw_Ki yX0_hardOf cX0_hardOf 2 (some .int) 2 (fun ad => [.ref (ad 17), .int a0]) (fX0_hardOf a0) := by
  refine sw_enteri (by decide) (fun ad => Nat.le_of_ble_eq_true rfl) (fun X ad t σ C hn M => ?_)
  change sw_J X ad t 0 [(0, .ref (ad 17)), (1, .int a0)] [] σ _
  replace C : sw_C X ad cX0_hardOf RX0 2 := C
  unfold fX0_hardOf
  refine sw_aloadn (pc := 0) 0 0 C dX0_hardOf_0 rfl ?_
  refine sw_iloadn (pc := 1) 1 1 C dX0_hardOf_1 rfl ?_
  refine sw_callVi (pc := 2) C (mX0_has a0) sgX0_has mlX0_25 dX0_hardOf_2 (by decide) [.int a0] [] sh17 rfl rfl rfl rfl (Nat.le_of_ble_eq_true rfl) (fun r1 σ2 => ?_)
  refine sw_if_eq (pc := 5) 17 C dX0_hardOf_5 (by decide) ?_ ?_
  · refine sw_iconst (pc := 17) (v := 0) C dX0_hardOf_17 (by decide) ?_
    exact sw_reti (pc := 18) C M dX0_hardOf_18
  · refine sw_aloadn (pc := 8) 0 0 C dX0_hardOf_8 rfl ?_
    refine sw_getR (pc := 9) C kfX0_15 sh17 rfl dX0_hardOf_9 ?_
    refine sw_iloadn (pc := 12) 1 1 C dX0_hardOf_12 rfl ?_
    refine sw_iald (pc := 13) C sh18 dX0_hardOf_13 ?_
    refine sw_goto (pc := 14) 18 C dX0_hardOf_14 (by decide) ?_
    exact sw_reti (pc := 18) C M dX0_hardOf_18
set_option maxRecDepth 100000 in
set_option maxHeartbeats 4000000 in
theorem mX0_grainOf   (a0 : Int32) : sw_Ki yX0_grainOf cX0_grainOf 2 (some .int) 2 (fun ad => [.ref (ad 17), .int a0]) (fX0_grainOf a0) := by
  refine sw_enteri (by decide) (fun ad => Nat.le_of_ble_eq_true rfl) (fun X ad t σ C hn M => ?_)
  change sw_J X ad t 0 [(0, .ref (ad 17)), (1, .int a0)] [] σ _
  replace C : sw_C X ad cX0_grainOf RX0 2 := C
  unfold fX0_grainOf
  refine sw_aloadn (pc := 0) 0 0 C dX0_grainOf_0 rfl ?_
  refine sw_iloadn (pc := 1) 1 1 C dX0_grainOf_1 rfl ?_
  refine sw_callVi (pc := 2) C (mX0_has a0) sgX0_has mlX0_25 dX0_grainOf_2 (by decide) [.int a0] [] sh17 rfl rfl rfl rfl (Nat.le_of_ble_eq_true rfl) (fun r1 σ2 => ?_)
  refine sw_if_eq (pc := 5) 17 C dX0_grainOf_5 (by decide) ?_ ?_
  · refine sw_iconst (pc := 17) (v := 0) C dX0_grainOf_17 (by decide) ?_
    exact sw_reti (pc := 18) C M dX0_grainOf_18
  · refine sw_aloadn (pc := 8) 0 0 C dX0_grainOf_8 rfl ?_
    refine sw_getR (pc := 9) C kfX0_19 sh17 rfl dX0_grainOf_9 ?_
    refine sw_iloadn (pc := 12) 1 1 C dX0_grainOf_12 rfl ?_
    refine sw_iald (pc := 13) C sh19 dX0_grainOf_13 ?_
    refine sw_goto (pc := 14) 18 C dX0_grainOf_14 (by decide) ?_
    exact sw_reti (pc := 18) C M dX0_grainOf_18
set_option maxRecDepth 100000 in
set_option maxHeartbeats 4000000 in
theorem mX0_closesOf   (a0 : Int32) : sw_Ki yX0_closesOf cX0_closesOf 2 (some .int) 2 (fun ad => [.ref (ad 17), .int a0]) (fX0_closesOf a0) := by
  refine sw_enteri (by decide) (fun ad => Nat.le_of_ble_eq_true rfl) (fun X ad t σ C hn M => ?_)
  change sw_J X ad t 0 [(0, .ref (ad 17)), (1, .int a0)] [] σ _
  replace C : sw_C X ad cX0_closesOf RX0 2 := C
  unfold fX0_closesOf
  refine sw_aloadn (pc := 0) 0 0 C dX0_closesOf_0 rfl ?_
  refine sw_iloadn (pc := 1) 1 1 C dX0_closesOf_1 rfl ?_
  refine sw_callVi (pc := 2) C (mX0_has a0) sgX0_has mlX0_25 dX0_closesOf_2 (by decide) [.int a0] [] sh17 rfl rfl rfl rfl (Nat.le_of_ble_eq_true rfl) (fun r1 σ2 => ?_)
  refine sw_if_eq (pc := 5) 17 C dX0_closesOf_5 (by decide) ?_ ?_
  · refine sw_iconst (pc := 17) (v := 0) C dX0_closesOf_17 (by decide) ?_
    exact sw_reti (pc := 18) C M dX0_closesOf_18
  · refine sw_aloadn (pc := 8) 0 0 C dX0_closesOf_8 rfl ?_
    refine sw_getR (pc := 9) C kfX0_22 sh17 rfl dX0_closesOf_9 ?_
    refine sw_iloadn (pc := 12) 1 1 C dX0_closesOf_12 rfl ?_
    refine sw_iald (pc := 13) C sh20 dX0_closesOf_13 ?_
    refine sw_goto (pc := 14) 18 C dX0_closesOf_14 (by decide) ?_
    exact sw_reti (pc := 18) C M dX0_closesOf_18
set_option maxRecDepth 100000 in
set_option maxHeartbeats 4000000 in
theorem mX7_isSheet   (a0 : Int32) : sw_Ki yX7_isSheet cX7_isSheet 1 (some .boolean) 1 (fun ad => [.int a0]) (fX7_isSheet a0) := by
  refine sw_enteri (by decide) (fun ad => Nat.le_of_ble_eq_true rfl) (fun X ad t σ C hn M => ?_)
  change sw_J X ad t 0 [(0, .int a0)] [] σ _
  replace C : sw_C X ad cX7_isSheet RX7 1 := C
  unfold fX7_isSheet
  refine sw_iloadn (pc := 0) 0 0 C dX7_isSheet_0 rfl ?_
  refine sw_if_lt (pc := 1) 13 C dX7_isSheet_1 (by decide) ?_ ?_
  · refine sw_iconst (pc := 13) (v := 0) C dX7_isSheet_13 (by decide) ?_
    exact sw_retiz (pc := 14) rfl C M dX7_isSheet_14
  · refine sw_iloadn (pc := 4) 0 0 C dX7_isSheet_4 rfl ?_
    refine sw_iconst (pc := 5) (v := 4) C dX7_isSheet_5 (by decide) ?_
    refine sw_icmp_ge (pc := 6) 13 C dX7_isSheet_6 (by decide) ?_ ?_
    · refine sw_iconst (pc := 13) (v := 0) C dX7_isSheet_13 (by decide) ?_
      exact sw_retiz (pc := 14) rfl C M dX7_isSheet_14
    · refine sw_iconst (pc := 9) (v := 1) C dX7_isSheet_9 (by decide) ?_
      refine sw_goto (pc := 10) 14 C dX7_isSheet_10 (by decide) ?_
      exact sw_retiz (pc := 14) rfl C M dX7_isSheet_14
set_option maxRecDepth 100000 in
set_option maxHeartbeats 4000000 in
theorem mX7_isNothing   (a0 : Int32) : sw_Ki yX7_isNothing cX7_isNothing 2 (some .boolean) 2 (fun ad => [.ref (ad 1), .int a0]) (fX7_isNothing a0) := by
  refine sw_enteri (by decide) (fun ad => Nat.le_of_ble_eq_true rfl) (fun X ad t σ C hn M => ?_)
  change sw_J X ad t 0 [(0, .ref (ad 1)), (1, .int a0)] [] σ _
  replace C : sw_C X ad cX7_isNothing RX7 2 := C
  unfold fX7_isNothing
  refine sw_iloadn (pc := 0) 1 1 C dX7_isNothing_0 rfl ?_
  refine sw_callSi (pc := 1) C (mX7_isSheet a0) sgX7_isSheet mlX7_21 dX7_isNothing_1 (by decide) [.int a0] [] rfl rfl rfl (Nat.le_of_ble_eq_true rfl) (fun r1 σ2 => ?_)
  refine sw_if_eq (pc := 4) 17 C dX7_isNothing_4 (by decide) ?_ ?_
  · refine sw_iconst (pc := 17) (v := 1) C dX7_isNothing_17 (by decide) ?_
    refine sw_goto (pc := 18) 22 C dX7_isNothing_18 (by decide) ?_
    exact sw_retiz (pc := 22) rfl C M dX7_isNothing_22
  · refine sw_aloadn (pc := 7) 0 0 C dX7_isNothing_7 rfl ?_
    refine sw_getR (pc := 8) C kfX7_11 sh1 rfl dX7_isNothing_8 ?_
    refine sw_iloadn (pc := 11) 1 1 C dX7_isNothing_11 rfl ?_
    refine sw_iald (pc := 12) C sh2 dX7_isNothing_12 ?_
    refine sw_iconst (pc := 13) (v := (-1)) C dX7_isNothing_13 (by decide) ?_
    refine sw_icmp_ne (pc := 14) 21 C dX7_isNothing_14 (by decide) ?_ ?_
    · refine sw_iconst (pc := 21) (v := 0) C dX7_isNothing_21 (by decide) ?_
      exact sw_retiz (pc := 22) rfl C M dX7_isNothing_22
    · refine sw_iconst (pc := 17) (v := 1) C dX7_isNothing_17 (by decide) ?_
      refine sw_goto (pc := 18) 22 C dX7_isNothing_18 (by decide) ?_
      exact sw_retiz (pc := 22) rfl C M dX7_isNothing_22
set_option maxRecDepth 100000 in
set_option maxHeartbeats 4000000 in
theorem mX7_hasCell   (a0 : Int32) (a1 : Int32) : sw_Ki yX7_hasCell cX7_hasCell 3 (some .boolean) 3 (fun ad => [.ref (ad 1), .int a0, .int a1]) (fX7_hasCell a0 a1) := by
  refine sw_enteri (by decide) (fun ad => Nat.le_of_ble_eq_true rfl) (fun X ad t σ C hn M => ?_)
  change sw_J X ad t 0 [(0, .ref (ad 1)), (1, .int a0), (2, .int a1)] [] σ _
  replace C : sw_C X ad cX7_hasCell RX7 3 := C
  unfold fX7_hasCell
  refine sw_aloadn (pc := 0) 0 0 C dX7_hasCell_0 rfl ?_
  refine sw_iloadn (pc := 1) 1 1 C dX7_hasCell_1 rfl ?_
  refine sw_callVi (pc := 2) C (mX7_isNothing a0) sgX7_isNothing mlX7_25 dX7_hasCell_2 (by decide) [.int a0] [] sh1 rfl rfl rfl rfl (Nat.le_of_ble_eq_true rfl) (fun r1 σ2 => ?_)
  refine sw_if_ne (pc := 5) 26 C dX7_hasCell_5 (by decide) ?_ ?_
  · refine sw_iconst (pc := 26) (v := 0) C dX7_hasCell_26 (by decide) ?_
    exact sw_retiz (pc := 27) rfl C M dX7_hasCell_27
  · refine sw_iloadn (pc := 8) 2 2 C dX7_hasCell_8 rfl ?_
    refine sw_if_lt (pc := 9) 26 C dX7_hasCell_9 (by decide) ?_ ?_
    · refine sw_iconst (pc := 26) (v := 0) C dX7_hasCell_26 (by decide) ?_
      exact sw_retiz (pc := 27) rfl C M dX7_hasCell_27
    · refine sw_iloadn (pc := 12) 2 2 C dX7_hasCell_12 rfl ?_
      refine sw_aloadn (pc := 13) 0 0 C dX7_hasCell_13 rfl ?_
      refine sw_getR (pc := 14) C kfX7_15 sh1 rfl dX7_hasCell_14 ?_
      refine sw_iloadn (pc := 17) 1 1 C dX7_hasCell_17 rfl ?_
      refine sw_iald (pc := 18) C sh3 dX7_hasCell_18 ?_
      refine sw_icmp_ge (pc := 19) 26 C dX7_hasCell_19 (by decide) ?_ ?_
      · refine sw_iconst (pc := 26) (v := 0) C dX7_hasCell_26 (by decide) ?_
        exact sw_retiz (pc := 27) rfl C M dX7_hasCell_27
      · refine sw_iconst (pc := 22) (v := 1) C dX7_hasCell_22 (by decide) ?_
        refine sw_goto (pc := 23) 27 C dX7_hasCell_23 (by decide) ?_
        exact sw_retiz (pc := 27) rfl C M dX7_hasCell_27
set_option maxRecDepth 100000 in
set_option maxHeartbeats 4000000 in
theorem mX7_at   (a0 : Int32) (a1 : Int32) : sw_Ki yX7_at cX7_at 3 (some .int) 4 (fun ad => [.ref (ad 1), .int a0, .int a1]) (fX7_at a0 a1) := by
  refine sw_enteri (by decide) (fun ad => Nat.le_of_ble_eq_true rfl) (fun X ad t σ C hn M => ?_)
  change sw_J X ad t 0 [(0, .ref (ad 1)), (1, .int a0), (2, .int a1)] [] σ _
  replace C : sw_C X ad cX7_at RX7 4 := C
  unfold fX7_at
  refine sw_aloadn (pc := 0) 0 0 C dX7_at_0 rfl ?_
  refine sw_iloadn (pc := 1) 1 1 C dX7_at_1 rfl ?_
  refine sw_iloadn (pc := 2) 2 2 C dX7_at_2 rfl ?_
  refine sw_callVi (pc := 3) C (mX7_hasCell a0 a1) sgX7_hasCell mlX7_28 dX7_at_3 (by decide) [.int a0, .int a1] [] sh1 rfl rfl rfl rfl (Nat.le_of_ble_eq_true rfl) (fun r1 σ2 => ?_)
  refine sw_if_eq (pc := 6) 23 C dX7_at_6 (by decide) ?_ ?_
  · refine sw_iconst (pc := 23) (v := 0) C dX7_at_23 (by decide) ?_
    exact sw_reti (pc := 24) C M dX7_at_24
  · refine sw_aloadn (pc := 9) 0 0 C dX7_at_9 rfl ?_
    refine sw_getR (pc := 10) C kfX7_18 sh1 rfl dX7_at_10 ?_
    refine sw_iloadn (pc := 13) 1 1 C dX7_at_13 rfl ?_
    refine sw_bipush (pc := 14) (v := 80) C dX7_at_14 (by decide) ?_
    refine sw_imul (pc := 16) C dX7_at_16 ?_
    refine sw_iloadn (pc := 17) 2 2 C dX7_at_17 rfl ?_
    refine sw_iadd (pc := 18) C dX7_at_18 ?_
    refine sw_iald (pc := 19) C sh4 dX7_at_19 ?_
    refine sw_goto (pc := 20) 24 C dX7_at_20 (by decide) ?_
    exact sw_reti (pc := 24) C M dX7_at_24
set_option maxRecDepth 100000 in
set_option maxHeartbeats 4000000 in
theorem mX0_goesOnWith   (a0 : Int32) (a1 : Int32) : sw_Ki yX0_goesOnWith cX0_goesOnWith 2 (some .boolean) 1 (fun ad => [.int a0, .int a1]) (fX0_goesOnWith a0 a1) := by
  refine sw_enteri (by decide) (fun ad => Nat.le_of_ble_eq_true rfl) (fun X ad t σ C hn M => ?_)
  change sw_J X ad t 0 [(0, .int a0), (1, .int a1)] [] σ _
  replace C : sw_C X ad cX0_goesOnWith RX0 1 := C
  unfold fX0_goesOnWith
  refine sw_iloadn (pc := 0) 0 0 C dX0_goesOnWith_0 rfl ?_
  refine sw_ite (fun h1 => ?_) (fun h1 => ?_)
  · refine sw_look (pc := 1) (off := 27) 28 C dX0_goesOnWith_1 (by decide) (by rw [h1]; rfl) (by decide) ?_
    refine sw_iloadn (pc := 28) 1 1 C dX0_goesOnWith_28 rfl ?_
    refine sw_bipush (pc := 29) (v := 49) C dX0_goesOnWith_29 (by decide) ?_
    refine sw_icmp_lt (pc := 31) 44 C dX0_goesOnWith_31 (by decide) ?_ ?_
    · refine sw_iconst (pc := 44) (v := 0) C dX0_goesOnWith_44 (by decide) ?_
      exact sw_retiz (pc := 45) rfl C M dX0_goesOnWith_45
    · refine sw_iloadn (pc := 34) 1 1 C dX0_goesOnWith_34 rfl ?_
      refine sw_bipush (pc := 35) (v := 57) C dX0_goesOnWith_35 (by decide) ?_
      refine sw_icmp_gt (pc := 37) 44 C dX0_goesOnWith_37 (by decide) ?_ ?_
      · refine sw_iconst (pc := 44) (v := 0) C dX0_goesOnWith_44 (by decide) ?_
        exact sw_retiz (pc := 45) rfl C M dX0_goesOnWith_45
      · refine sw_iconst (pc := 40) (v := 1) C dX0_goesOnWith_40 (by decide) ?_
        refine sw_goto (pc := 41) 45 C dX0_goesOnWith_41 (by decide) ?_
        exact sw_retiz (pc := 45) rfl C M dX0_goesOnWith_45
  · skip
    refine sw_ite (fun h2 => ?_) (fun h2 => ?_)
    · refine sw_look (pc := 1) (off := 45) 46 C dX0_goesOnWith_1 (by decide) (by rw [h2]; rfl) (by decide) ?_
      refine sw_iloadn (pc := 46) 1 1 C dX0_goesOnWith_46 rfl ?_
      refine sw_bipush (pc := 47) (v := 48) C dX0_goesOnWith_47 (by decide) ?_
      refine sw_icmp_lt (pc := 49) 62 C dX0_goesOnWith_49 (by decide) ?_ ?_
      · refine sw_iconst (pc := 62) (v := 0) C dX0_goesOnWith_62 (by decide) ?_
        exact sw_retiz (pc := 63) rfl C M dX0_goesOnWith_63
      · refine sw_iloadn (pc := 52) 1 1 C dX0_goesOnWith_52 rfl ?_
        refine sw_bipush (pc := 53) (v := 56) C dX0_goesOnWith_53 (by decide) ?_
        refine sw_icmp_gt (pc := 55) 62 C dX0_goesOnWith_55 (by decide) ?_ ?_
        · refine sw_iconst (pc := 62) (v := 0) C dX0_goesOnWith_62 (by decide) ?_
          exact sw_retiz (pc := 63) rfl C M dX0_goesOnWith_63
        · refine sw_iconst (pc := 58) (v := 1) C dX0_goesOnWith_58 (by decide) ?_
          refine sw_goto (pc := 59) 63 C dX0_goesOnWith_59 (by decide) ?_
          exact sw_retiz (pc := 63) rfl C M dX0_goesOnWith_63
    · skip
      refine sw_look (pc := 1) (off := 63) 64 C dX0_goesOnWith_1 (by decide) (by show Op.lookupswitch.offset [(0, 27), (1, 45)] _ _ = _; rw [lv_osw h1 (by decide)]; rw [lv_osw h2 (by decide)]; rfl) (by decide) ?_
      refine sw_iloadn (pc := 64) 1 1 C dX0_goesOnWith_64 rfl ?_
      refine sw_bipush (pc := 65) (v := 48) C dX0_goesOnWith_65 (by decide) ?_
      refine sw_icmp_lt (pc := 67) 80 C dX0_goesOnWith_67 (by decide) ?_ ?_
      · refine sw_iconst (pc := 80) (v := 0) C dX0_goesOnWith_80 (by decide) ?_
        exact sw_retiz (pc := 81) rfl C M dX0_goesOnWith_81
      · refine sw_iloadn (pc := 70) 1 1 C dX0_goesOnWith_70 rfl ?_
        refine sw_bipush (pc := 71) (v := 57) C dX0_goesOnWith_71 (by decide) ?_
        refine sw_icmp_gt (pc := 73) 80 C dX0_goesOnWith_73 (by decide) ?_ ?_
        · refine sw_iconst (pc := 80) (v := 0) C dX0_goesOnWith_80 (by decide) ?_
          exact sw_retiz (pc := 81) rfl C M dX0_goesOnWith_81
        · refine sw_iconst (pc := 76) (v := 1) C dX0_goesOnWith_76 (by decide) ?_
          refine sw_goto (pc := 77) 81 C dX0_goesOnWith_77 (by decide) ?_
          exact sw_retiz (pc := 81) rfl C M dX0_goesOnWith_81
set_option maxRecDepth 100000 in
set_option maxHeartbeats 4000000 in
theorem jX0_firstFault_L3 {X : sw_X} {ad : Nat → Nat} {t : Int32 × sw_St} (C : sw_C X ad cX0_firstFault RX0 5) (hn : sw_nL X = 5) (M : sw_Mi X ad (some .int) t)   : ∀ (n : Nat) (v1 : Int32) (v2 : Int32) (v3 : Int32) (v4 : Int32) (σ : sw_St), sw_J X ad t 3 [(0, .ref (ad 1)), (1, .int v1), (2, .int v2), (3, .int v3), (4, .int v4)] [] σ (fX0_firstFault_L3  n v1 v2 v3 v4 σ) := by
  intro n
  induction n with
  | zero => exact fun _ _ _ _ _ => sw_none
  | succ n ih =>
    intro v1 v2 v3 v4 σ
    unfold fX0_firstFault_L3
    refine sw_iload (pc := 3) 4 C dX0_firstFault_3 rfl ?_
    refine sw_iloadn (pc := 5) 3 3 C dX0_firstFault_5 rfl ?_
    refine sw_icmp_ge (pc := 6) 44 C dX0_firstFault_6 (by decide) ?_ ?_
    · refine sw_iloadn (pc := 44) 3 3 C dX0_firstFault_44 rfl ?_
      refine sw_if_le (pc := 45) 58 C dX0_firstFault_45 (by decide) ?_ ?_
      · refine sw_iloadn (pc := 58) 3 3 C dX0_firstFault_58 rfl ?_
        exact sw_reti (pc := 59) C M dX0_firstFault_59
      · refine sw_iloadn (pc := 48) 3 3 C dX0_firstFault_48 rfl ?_
        refine sw_iconst (pc := 49) (v := 3) C dX0_firstFault_49 (by decide) ?_
        refine sw_iremc (pc := 50) C dX0_firstFault_50 (by decide) ?_
        refine sw_if_ne (pc := 51) 58 C dX0_firstFault_51 (by decide) ?_ ?_
        · refine sw_iloadn (pc := 58) 3 3 C dX0_firstFault_58 rfl ?_
          exact sw_reti (pc := 59) C M dX0_firstFault_59
        · refine sw_iconst (pc := 54) (v := (-1)) C dX0_firstFault_54 (by decide) ?_
          refine sw_goto (pc := 55) 59 C dX0_firstFault_55 (by decide) ?_
          exact sw_reti (pc := 59) C M dX0_firstFault_59
    · refine sw_iload (pc := 9) 4 C dX0_firstFault_9 rfl ?_
      refine sw_bipush (pc := 11) (v := 72) C dX0_firstFault_11 (by decide) ?_
      refine sw_icmp_ge (pc := 13) 35 C dX0_firstFault_13 (by decide) ?_ ?_
      · refine sw_iload (pc := 35) 4 C dX0_firstFault_35 rfl ?_
        exact sw_reti (pc := 37) C M dX0_firstFault_37
      · refine sw_iload (pc := 16) 4 C dX0_firstFault_16 rfl ?_
        refine sw_iconst (pc := 18) (v := 3) C dX0_firstFault_18 (by decide) ?_
        refine sw_iremc (pc := 19) C dX0_firstFault_19 (by decide) ?_
        refine sw_aloadn (pc := 20) 0 0 C dX0_firstFault_20 rfl ?_
        refine sw_iloadn (pc := 21) 1 1 C dX0_firstFault_21 rfl ?_
        refine sw_iloadn (pc := 22) 2 2 C dX0_firstFault_22 rfl ?_
        refine sw_iload (pc := 23) 4 C dX0_firstFault_23 rfl ?_
        refine sw_iadd (pc := 25) C dX0_firstFault_25 ?_
        refine sw_callVi (pc := 26) C (mX7_at v1 (v2 + v4)) sgX7_at mlX0_29 dX0_firstFault_26 (by decide) [.int v1, .int (v2 + v4)] [.int (v4 - v4 / 3 * 3)] sh1 rfl rfl rfl rfl (Nat.le_of_ble_eq_true rfl) (fun r1 σ2 => ?_)
        refine sw_callSi (pc := 29) C (mX0_goesOnWith (v4 - v4 / 3 * 3) r1) sgX0_goesOnWith mlX0_35 dX0_firstFault_29 (by decide) [.int (v4 - v4 / 3 * 3), .int r1] [] rfl rfl rfl (Nat.le_of_ble_eq_true rfl) (fun r3 σ4 => ?_)
        refine sw_if_ne (pc := 32) 38 C dX0_firstFault_32 (by decide) ?_ ?_
        · refine sw_iinc (pc := 38) (v4 + 1) 4 [(4, .int (v4 + 1)), (0, .ref (ad 1)), (1, .int v1), (2, .int v2), (3, .int v3)] C dX0_firstFault_38 (by rw [hn]; decide) rfl rfl rfl ?_
          refine sw_goto (pc := 41) 3 C dX0_firstFault_41 (by decide) ?_
          refine sw_lpick (pc := 3) (L' := [(0, .ref (ad 1)), (1, .int v1), (2, .int v2), (3, .int v3), (4, .int (v4 + 1))]) [1, 2, 3, 4, 0] rfl ?_
          exact ih _ _ _ _ _
        · refine sw_iload (pc := 35) 4 C dX0_firstFault_35 rfl ?_
          exact sw_reti (pc := 37) C M dX0_firstFault_37
set_option maxRecDepth 100000 in
set_option maxHeartbeats 4000000 in
theorem mX0_firstFault   (a1 : Int32) (a2 : Int32) (a3 : Int32) : sw_Ki yX0_firstFault cX0_firstFault 5 (some .int) 5 (fun ad => [.ref (ad 1), .int a1, .int a2, .int a3]) (fX0_firstFault a1 a2 a3) := by
  refine sw_enteri (by decide) (fun ad => Nat.le_of_ble_eq_true rfl) (fun X ad t σ C hn M => ?_)
  change sw_J X ad t 0 [(0, .ref (ad 1)), (1, .int a1), (2, .int a2), (3, .int a3)] [] σ _
  replace C : sw_C X ad cX0_firstFault RX0 5 := C
  unfold fX0_firstFault
  refine sw_iconst (pc := 0) (v := 0) C dX0_firstFault_0 (by decide) ?_
  refine sw_istore (pc := 1) [(4, .int 0), (0, .ref (ad 1)), (1, .int a1), (2, .int a2), (3, .int a3)] C dX0_firstFault_1 (by rw [hn]; decide) rfl ?_
  refine sw_lpick (pc := 3) (L' := [(0, .ref (ad 1)), (1, .int a1), (2, .int a2), (3, .int a3), (4, .int 0)]) [1, 2, 3, 4, 0] rfl ?_
  exact jX0_firstFault_L3 C hn M  _ _ _ _ _ _
set_option maxRecDepth 100000 in
set_option maxHeartbeats 4000000 in
theorem mJ9_min_7cf53   (a0 : Int32) (a1 : Int32) : sw_Ki yJ9_min_7cf53 cJ9_min_7cf53 2 (some .int) 1 (fun ad => [.int a0, .int a1]) (fJ9_min_7cf53 a0 a1) := by
  refine sw_enterFi (by decide +kernel) (fun ad => Nat.le_of_ble_eq_true rfl) (fun X ad t σ C hn M => ?_)
  change sw_J X ad t 0 [(0, .int a0), (1, .int a1)] [] σ _
  replace C : sw_C X ad cJ9_min_7cf53 RJ9 1 := C
  unfold fJ9_min_7cf53
  refine sw_iloadn (pc := 0) 0 0 C dJ9_min_7cf53_0 rfl ?_
  refine sw_iloadn (pc := 1) 1 1 C dJ9_min_7cf53_1 rfl ?_
  refine sw_icmp_gt (pc := 2) 9 C dJ9_min_7cf53_2 (by decide) ?_ ?_
  · refine sw_iloadn (pc := 9) 1 1 C dJ9_min_7cf53_9 rfl ?_
    exact sw_reti (pc := 10) C M dJ9_min_7cf53_10
  · refine sw_iloadn (pc := 5) 0 0 C dJ9_min_7cf53_5 rfl ?_
    refine sw_goto (pc := 6) 10 C dJ9_min_7cf53_6 (by decide) ?_
    exact sw_reti (pc := 10) C M dJ9_min_7cf53_10
set_option maxRecDepth 100000 in
set_option maxHeartbeats 4000000 in
theorem jX0_read_L16 {X : sw_X} {ad : Nat → Nat} {t : Unit × sw_St} (C : sw_C X ad cX0_read RX0 5) (hn : sw_nL X = 7) (M : sw_Mv X ad none t)   : ∀ (n : Nat) (v2 : Int32) (v3 : Int32) (v5 : Int32) (σ : sw_St), sw_J X ad t 16 [(0, .ref (ad 17)), (1, .ref (ad 1)), (2, .int v2), (3, .int v3), (5, .int v5)] [] σ (fX0_read_L16  n v2 v3 v5 σ) := by
  intro n
  induction n with
  | zero => exact fun _ _ _ _ => sw_none
  | succ n ih =>
    intro v2 v3 v5 σ
    unfold fX0_read_L16
    refine sw_iload (pc := 16) 4 C dX0_read_16 rfl ?_
    refine sw_aloadn (pc := 18) 0 0 C dX0_read_18 rfl ?_
    refine sw_getI (pc := 19) C kfX0_9 sh17 rfl dX0_read_19 ?_
    refine sw_icmp_ge (pc := 22) 96 C dX0_read_22 (by decide) ?_ ?_
    · exact sw_retv (pc := 96) C M dX0_read_96
    · refine sw_iloadn (pc := 25) 3 3 C dX0_read_25 rfl ?_
      refine sw_iload (pc := 26) 4 C dX0_read_26 rfl ?_
      refine sw_iconst (pc := 28) (v := 3) C dX0_read_28 (by decide) ?_
      refine sw_imul (pc := 29) C dX0_read_29 ?_
      refine sw_iadd (pc := 30) C dX0_read_30 ?_
      refine sw_leti (fun x4 => ?_)
      refine sw_istore (pc := 31) [(6, .int x4), (0, .ref (ad 17)), (1, .ref (ad 1)), (2, .int v2), (3, .int v3), (5, .int v5)] C dX0_read_31 (by rw [hn]; decide) rfl ?_
      refine sw_aloadn (pc := 33) 0 1 C dX0_read_33 rfl ?_
      refine sw_getR (pc := 34) C kfX0_15 sh17 rfl dX0_read_34 ?_
      refine sw_iload (pc := 37) 5 C dX0_read_37 rfl ?_
      refine sw_aloadn (pc := 39) 1 2 C dX0_read_39 rfl ?_
      refine sw_iloadn (pc := 40) 2 3 C dX0_read_40 rfl ?_
      refine sw_iload (pc := 41) 0 C dX0_read_41 rfl ?_
      refine sw_callVi (pc := 43) C (mX7_at v2 x4) sgX7_at mlX0_29 dX0_read_43 (by decide) [.int v2, .int x4] [.int v5, .ref (ad 18)] sh1 rfl rfl rfl rfl (Nat.le_of_ble_eq_true rfl) (fun r5 σ6 => ?_)
      refine sw_bipush (pc := 46) (v := 48) C dX0_read_46 (by decide) ?_
      refine sw_isub (pc := 48) C dX0_read_48 ?_
      refine sw_iastL (pc := 49) C sh18 dX0_read_49 (fun σ7 => ?_)
      refine sw_aloadn (pc := 50) 0 1 C dX0_read_50 rfl ?_
      refine sw_getR (pc := 51) C kfX0_19 sh17 rfl dX0_read_51 ?_
      refine sw_iload (pc := 54) 5 C dX0_read_54 rfl ?_
      refine sw_aloadn (pc := 56) 1 2 C dX0_read_56 rfl ?_
      refine sw_iloadn (pc := 57) 2 3 C dX0_read_57 rfl ?_
      refine sw_iload (pc := 58) 0 C dX0_read_58 rfl ?_
      refine sw_iconst (pc := 60) (v := 1) C dX0_read_60 (by decide) ?_
      refine sw_iadd (pc := 61) C dX0_read_61 ?_
      refine sw_callVi (pc := 62) C (mX7_at v2 (x4 + 1)) sgX7_at mlX0_29 dX0_read_62 (by decide) [.int v2, .int (x4 + 1)] [.int v5, .ref (ad 19)] sh1 rfl rfl rfl rfl (Nat.le_of_ble_eq_true rfl) (fun r8 σ9 => ?_)
      refine sw_bipush (pc := 65) (v := 48) C dX0_read_65 (by decide) ?_
      refine sw_isub (pc := 67) C dX0_read_67 ?_
      refine sw_iconst (pc := 68) (v := 4) C dX0_read_68 (by decide) ?_
      refine sw_isub (pc := 69) C dX0_read_69 ?_
      refine sw_iastL (pc := 70) C sh19 dX0_read_70 (fun σ10 => ?_)
      refine sw_aloadn (pc := 71) 0 1 C dX0_read_71 rfl ?_
      refine sw_getR (pc := 72) C kfX0_22 sh17 rfl dX0_read_72 ?_
      refine sw_iload (pc := 75) 5 C dX0_read_75 rfl ?_
      refine sw_aloadn (pc := 77) 1 2 C dX0_read_77 rfl ?_
      refine sw_iloadn (pc := 78) 2 3 C dX0_read_78 rfl ?_
      refine sw_iload (pc := 79) 0 C dX0_read_79 rfl ?_
      refine sw_iconst (pc := 81) (v := 2) C dX0_read_81 (by decide) ?_
      refine sw_iadd (pc := 82) C dX0_read_82 ?_
      refine sw_callVi (pc := 83) C (mX7_at v2 (x4 + 2)) sgX7_at mlX0_29 dX0_read_83 (by decide) [.int v2, .int (x4 + 2)] [.int v5, .ref (ad 20)] sh1 rfl rfl rfl rfl (Nat.le_of_ble_eq_true rfl) (fun r11 σ12 => ?_)
      refine sw_bipush (pc := 86) (v := 48) C dX0_read_86 (by decide) ?_
      refine sw_isub (pc := 88) C dX0_read_88 ?_
      refine sw_iastL (pc := 89) C sh20 dX0_read_89 (fun σ13 => ?_)
      refine sw_iinc (pc := 90) (v5 + 1) 5 [(5, .int (v5 + 1)), (6, .int x4), (0, .ref (ad 17)), (1, .ref (ad 1)), (2, .int v2), (3, .int v3)] C dX0_read_90 (by rw [hn]; decide) rfl rfl rfl ?_
      refine sw_goto (pc := 93) 16 C dX0_read_93 (by decide) ?_
      refine sw_lpick (pc := 16) (L' := [(0, .ref (ad 17)), (1, .ref (ad 1)), (2, .int v2), (3, .int v3), (5, .int (v5 + 1))]) [2, 3, 4, 5, 0] rfl ?_
      exact ih _ _ _ _
set_option maxRecDepth 100000 in
set_option maxHeartbeats 4000000 in
theorem mX0_read   (a1 : Int32) (a2 : Int32) (a3 : Int32) : sw_Kv yX0_read cX0_read 7 none 5 (fun ad => [.ref (ad 17), .ref (ad 1), .int a1, .int a2, .int a3]) (fX0_read a1 a2 a3) := by
  refine sw_enterv (by decide) (fun ad => Nat.le_of_ble_eq_true rfl) (fun X ad t σ C hn M => ?_)
  change sw_J X ad t 0 [(0, .ref (ad 17)), (1, .ref (ad 1)), (2, .int a1), (3, .int a2), (4, .int a3)] [] σ _
  replace C : sw_C X ad cX0_read RX0 5 := C
  unfold fX0_read
  refine sw_aloadn (pc := 0) 0 0 C dX0_read_0 rfl ?_
  refine sw_iload (pc := 1) 4 C dX0_read_1 rfl ?_
  refine sw_iconst (pc := 3) (v := 3) C dX0_read_3 (by decide) ?_
  refine sw_idivc (pc := 4) C dX0_read_4 (by decide) ?_
  refine sw_bipush (pc := 5) (v := 24) C dX0_read_5 (by decide) ?_
  refine sw_callSi (pc := 7) C (mJ9_min_7cf53 (a3 / 3) 24) sgJ9_min_7cf53 mlX0_39 dX0_read_7 (by decide) [.int (a3 / 3), .int 24] [.ref (ad 17)] rfl rfl rfl (Nat.le_of_ble_eq_true rfl) (fun r1 σ2 => ?_)
  refine sw_putL (pc := 10) C kpX0_9 sh17 rfl dX0_read_10 (fun σ3 => ?_)
  refine sw_iconst (pc := 13) (v := 0) C dX0_read_13 (by decide) ?_
  refine sw_istore (pc := 14) [(5, .int 0), (0, .ref (ad 17)), (1, .ref (ad 1)), (2, .int a1), (3, .int a2), (4, .int a3)] C dX0_read_14 (by rw [hn]; decide) rfl ?_
  refine sw_lpick (pc := 16) (L' := [(0, .ref (ad 17)), (1, .ref (ad 1)), (2, .int a1), (3, .int a2), (5, .int 0)]) [1, 2, 3, 4, 0] rfl ?_
  exact jX0_read_L16 C hn M  _ _ _ _ _
set_option maxRecDepth 100000 in
set_option maxHeartbeats 4000000 in
theorem mX1_placeBehind   (a0 : Int32) : sw_Ki yX1_placeBehind cX1_placeBehind 2 (some .int) 1 (fun ad => [.ref (ad 23), .int a0]) (fX1_placeBehind a0) := by
  refine sw_enteri (by decide) (fun ad => Nat.le_of_ble_eq_true rfl) (fun X ad t σ C hn M => ?_)
  change sw_J X ad t 0 [(0, .ref (ad 23)), (1, .int a0)] [] σ _
  replace C : sw_C X ad cX1_placeBehind RX1 1 := C
  unfold fX1_placeBehind
  refine sw_iloadn (pc := 0) 1 1 C dX1_placeBehind_0 rfl ?_
  refine sw_if_lt (pc := 1) 27 C dX1_placeBehind_1 (by decide) ?_ ?_
  · refine sw_iconst (pc := 27) (v := 0) C dX1_placeBehind_27 (by decide) ?_
    exact sw_reti (pc := 28) C M dX1_placeBehind_28
  · refine sw_iloadn (pc := 4) 1 1 C dX1_placeBehind_4 rfl ?_
    refine sw_aloadn (pc := 5) 0 0 C dX1_placeBehind_5 rfl ?_
    refine sw_getI (pc := 6) C kfX1_9 sh23 rfl dX1_placeBehind_6 ?_
    refine sw_icmp_ge (pc := 9) 27 C dX1_placeBehind_9 (by decide) ?_ ?_
    · refine sw_iconst (pc := 27) (v := 0) C dX1_placeBehind_27 (by decide) ?_
      exact sw_reti (pc := 28) C M dX1_placeBehind_28
    · refine sw_iloadn (pc := 12) 1 1 C dX1_placeBehind_12 rfl ?_
      refine sw_bipush (pc := 13) (v := 24) C dX1_placeBehind_13 (by decide) ?_
      refine sw_icmp_ge (pc := 15) 27 C dX1_placeBehind_15 (by decide) ?_ ?_
      · refine sw_iconst (pc := 27) (v := 0) C dX1_placeBehind_27 (by decide) ?_
        exact sw_reti (pc := 28) C M dX1_placeBehind_28
      · refine sw_aloadn (pc := 18) 0 0 C dX1_placeBehind_18 rfl ?_
        refine sw_getR (pc := 19) C kfX1_23 sh23 rfl dX1_placeBehind_19 ?_
        refine sw_iloadn (pc := 22) 1 1 C dX1_placeBehind_22 rfl ?_
        refine sw_iald (pc := 23) C sh24 dX1_placeBehind_23 ?_
        refine sw_goto (pc := 24) 28 C dX1_placeBehind_24 (by decide) ?_
        exact sw_reti (pc := 28) C M dX1_placeBehind_28
set_option maxRecDepth 100000 in
set_option maxHeartbeats 4000000 in
theorem mX1_headingBehind   (a0 : Int32) : sw_Ki yX1_headingBehind cX1_headingBehind 2 (some .int) 1 (fun ad => [.ref (ad 23), .int a0]) (fX1_headingBehind a0) := by
  refine sw_enteri (by decide) (fun ad => Nat.le_of_ble_eq_true rfl) (fun X ad t σ C hn M => ?_)
  change sw_J X ad t 0 [(0, .ref (ad 23)), (1, .int a0)] [] σ _
  replace C : sw_C X ad cX1_headingBehind RX1 1 := C
  unfold fX1_headingBehind
  refine sw_iloadn (pc := 0) 1 1 C dX1_headingBehind_0 rfl ?_
  refine sw_if_lt (pc := 1) 27 C dX1_headingBehind_1 (by decide) ?_ ?_
  · refine sw_iconst (pc := 27) (v := 0) C dX1_headingBehind_27 (by decide) ?_
    exact sw_reti (pc := 28) C M dX1_headingBehind_28
  · refine sw_iloadn (pc := 4) 1 1 C dX1_headingBehind_4 rfl ?_
    refine sw_aloadn (pc := 5) 0 0 C dX1_headingBehind_5 rfl ?_
    refine sw_getI (pc := 6) C kfX1_9 sh23 rfl dX1_headingBehind_6 ?_
    refine sw_icmp_ge (pc := 9) 27 C dX1_headingBehind_9 (by decide) ?_ ?_
    · refine sw_iconst (pc := 27) (v := 0) C dX1_headingBehind_27 (by decide) ?_
      exact sw_reti (pc := 28) C M dX1_headingBehind_28
    · refine sw_iloadn (pc := 12) 1 1 C dX1_headingBehind_12 rfl ?_
      refine sw_bipush (pc := 13) (v := 24) C dX1_headingBehind_13 (by decide) ?_
      refine sw_icmp_ge (pc := 15) 27 C dX1_headingBehind_15 (by decide) ?_ ?_
      · refine sw_iconst (pc := 27) (v := 0) C dX1_headingBehind_27 (by decide) ?_
        exact sw_reti (pc := 28) C M dX1_headingBehind_28
      · refine sw_aloadn (pc := 18) 0 0 C dX1_headingBehind_18 rfl ?_
        refine sw_getR (pc := 19) C kfX1_27 sh23 rfl dX1_headingBehind_19 ?_
        refine sw_iloadn (pc := 22) 1 1 C dX1_headingBehind_22 rfl ?_
        refine sw_iald (pc := 23) C sh25 dX1_headingBehind_23 ?_
        refine sw_goto (pc := 24) 28 C dX1_headingBehind_24 (by decide) ?_
        exact sw_reti (pc := 28) C M dX1_headingBehind_28
set_option maxRecDepth 100000 in
set_option maxHeartbeats 4000000 in
theorem mX6_takes {c : Nat} (hc : sw_saw c) (a0 : Int32) : sw_Ki yX6_takes cX6_takes 3 (some .int) 1 (fun ad => [.ref (ad c), .int a0]) (fX6_takes c a0) := by
  refine sw_enteri (by decide) (fun ad => Nat.le_of_ble_eq_true rfl) (fun X ad t σ C hn M => ?_)
  change sw_J X ad t 0 [(0, .ref (ad c)), (1, .int a0)] [] σ _
  replace C : sw_C X ad cX6_takes RX6 1 := C
  unfold fX6_takes
  refine sw_iloadn (pc := 0) 1 1 C dX6_takes_0 rfl ?_
  refine sw_if_lt (pc := 1) 10 C dX6_takes_1 (by decide) ?_ ?_
  · refine sw_iconst (pc := 10) (v := 0) C dX6_takes_10 (by decide) ?_
    exact sw_reti (pc := 11) C M dX6_takes_11
  · refine sw_iloadn (pc := 4) 1 1 C dX6_takes_4 rfl ?_
    refine sw_bipush (pc := 5) (v := 8) C dX6_takes_5 (by decide) ?_
    refine sw_icmp_lt (pc := 7) 12 C dX6_takes_7 (by decide) ?_ ?_
    · refine sw_aloadn (pc := 12) 0 0 C dX6_takes_12 rfl ?_
      refine sw_getR (pc := 13) C kfX6_22 hc.1 rfl dX6_takes_13 ?_
      refine sw_iloadn (pc := 16) 1 1 C dX6_takes_16 rfl ?_
      refine sw_iconst (pc := 17) (v := 3) C dX6_takes_17 (by decide) ?_
      refine sw_imul (pc := 18) C dX6_takes_18 ?_
      refine sw_iconst (pc := 19) (v := 1) C dX6_takes_19 (by decide) ?_
      refine sw_iadd (pc := 20) C dX6_takes_20 ?_
      refine sw_iald (pc := 21) C hc.2.2.2 dX6_takes_21 ?_
      refine sw_aloadn (pc := 22) 0 0 C dX6_takes_22 rfl ?_
      refine sw_getR (pc := 23) C kfX6_22 hc.1 rfl dX6_takes_23 ?_
      refine sw_iloadn (pc := 26) 1 1 C dX6_takes_26 rfl ?_
      refine sw_iconst (pc := 27) (v := 3) C dX6_takes_27 (by decide) ?_
      refine sw_imul (pc := 28) C dX6_takes_28 ?_
      refine sw_iconst (pc := 29) (v := 2) C dX6_takes_29 (by decide) ?_
      refine sw_iadd (pc := 30) C dX6_takes_30 ?_
      refine sw_iald (pc := 31) C hc.2.2.2 dX6_takes_31 ?_
      refine sw_imul (pc := 32) C dX6_takes_32 ?_
      refine sw_leti (fun x1 => ?_)
      refine sw_istoren (pc := 33) 2 [(2, .int x1), (0, .ref (ad c)), (1, .int a0)] C dX6_takes_33 (by rw [hn]; decide) rfl ?_
      refine sw_iloadn (pc := 34) 2 0 C dX6_takes_34 rfl ?_
      refine sw_if_le (pc := 35) 54 C dX6_takes_35 (by decide) ?_ ?_
      · refine sw_iloadn (pc := 54) 2 0 C dX6_takes_54 rfl ?_
        exact sw_reti (pc := 55) C M dX6_takes_55
      · refine sw_aloadn (pc := 38) 0 1 C dX6_takes_38 rfl ?_
        refine sw_getR (pc := 39) C kfX6_15 hc.1 rfl dX6_takes_39 ?_
        refine sw_iloadn (pc := 42) 1 2 C dX6_takes_42 rfl ?_
        refine sw_iald (pc := 43) C hc.2.1 dX6_takes_43 ?_
        refine sw_iconst (pc := 44) (v := 2) C dX6_takes_44 (by decide) ?_
        refine sw_icmp_ne (pc := 45) 54 C dX6_takes_45 (by decide) ?_ ?_
        · refine sw_iloadn (pc := 54) 2 0 C dX6_takes_54 rfl ?_
          exact sw_reti (pc := 55) C M dX6_takes_55
        · refine sw_iloadn (pc := 48) 2 0 C dX6_takes_48 rfl ?_
          refine sw_iconst (pc := 49) (v := 2) C dX6_takes_49 (by decide) ?_
          refine sw_iadd (pc := 50) C dX6_takes_50 ?_
          refine sw_goto (pc := 51) 55 C dX6_takes_51 (by decide) ?_
          exact sw_reti (pc := 55) C M dX6_takes_55
    · refine sw_iconst (pc := 10) (v := 0) C dX6_takes_10 (by decide) ?_
      exact sw_reti (pc := 11) C M dX6_takes_11
set_option maxRecDepth 100000 in
set_option maxHeartbeats 4000000 in
theorem mX6_leaning {c : Nat} (hc : sw_saw c) (a0 : Int32) : sw_Ki yX6_leaning cX6_leaning 2 (some .int) 1 (fun ad => [.ref (ad c), .int a0]) (fX6_leaning c a0) := by
  refine sw_enteri (by decide) (fun ad => Nat.le_of_ble_eq_true rfl) (fun X ad t σ C hn M => ?_)
  change sw_J X ad t 0 [(0, .ref (ad c)), (1, .int a0)] [] σ _
  replace C : sw_C X ad cX6_leaning RX6 1 := C
  unfold fX6_leaning
  refine sw_iloadn (pc := 0) 1 1 C dX6_leaning_0 rfl ?_
  refine sw_if_lt (pc := 1) 10 C dX6_leaning_1 (by decide) ?_ ?_
  · refine sw_iconst (pc := 10) (v := 0) C dX6_leaning_10 (by decide) ?_
    exact sw_reti (pc := 11) C M dX6_leaning_11
  · refine sw_iloadn (pc := 4) 1 1 C dX6_leaning_4 rfl ?_
    refine sw_bipush (pc := 5) (v := 8) C dX6_leaning_5 (by decide) ?_
    refine sw_icmp_lt (pc := 7) 12 C dX6_leaning_7 (by decide) ?_ ?_
    · refine sw_aloadn (pc := 12) 0 0 C dX6_leaning_12 rfl ?_
      refine sw_getR (pc := 13) C kfX6_19 hc.1 rfl dX6_leaning_13 ?_
      refine sw_iloadn (pc := 16) 1 1 C dX6_leaning_16 rfl ?_
      refine sw_iald (pc := 17) C hc.2.2.1 dX6_leaning_17 ?_
      refine sw_aloadn (pc := 18) 0 0 C dX6_leaning_18 rfl ?_
      refine sw_getR (pc := 19) C kfX6_22 hc.1 rfl dX6_leaning_19 ?_
      refine sw_iloadn (pc := 22) 1 1 C dX6_leaning_22 rfl ?_
      refine sw_iconst (pc := 23) (v := 3) C dX6_leaning_23 (by decide) ?_
      refine sw_imul (pc := 24) C dX6_leaning_24 ?_
      refine sw_iconst (pc := 25) (v := 0) C dX6_leaning_25 (by decide) ?_
      refine sw_iadd (pc := 26) C dX6_leaning_26 ?_
      refine sw_iald (pc := 27) C hc.2.2.2 dX6_leaning_27 ?_
      refine sw_imul (pc := 28) C dX6_leaning_28 ?_
      exact sw_reti (pc := 29) C M dX6_leaning_29
    · refine sw_iconst (pc := 10) (v := 0) C dX6_leaning_10 (by decide) ?_
      exact sw_reti (pc := 11) C M dX6_leaning_11
set_option maxRecDepth 100000 in
set_option maxHeartbeats 4000000 in
theorem jX6_push_L4 {X : sw_X} {ad : Nat → Nat} {t : Int32 × sw_St} (C : sw_C X ad cX6_push RX6 2) (hn : sw_nL X = 3) (M : sw_Mi X ad (some .int) t) {c : Nat} (hc : sw_saw c) : ∀ (n : Nat) (v1 : Int32) (v2 : Int32) (σ : sw_St), sw_J X ad t 4 [(0, .ref (ad c)), (1, .int v1), (2, .int v2)] [] σ (fX6_push_L4 c n v1 v2 σ) := by
  intro n
  induction n with
  | zero => exact fun _ _ _ => sw_none
  | succ n ih =>
    intro v1 v2 σ
    unfold fX6_push_L4
    refine sw_iloadn (pc := 4) 2 2 C dX6_push_4 rfl ?_
    refine sw_aloadn (pc := 5) 0 0 C dX6_push_5 rfl ?_
    refine sw_getI (pc := 6) C kfX6_9 hc.1 rfl dX6_push_6 ?_
    refine sw_icmp_ge (pc := 9) 32 C dX6_push_9 (by decide) ?_ ?_
    · refine sw_iloadn (pc := 32) 1 1 C dX6_push_32 rfl ?_
      exact sw_reti (pc := 33) C M dX6_push_33
    · refine sw_iloadn (pc := 12) 1 1 C dX6_push_12 rfl ?_
      refine sw_aloadn (pc := 13) 0 0 C dX6_push_13 rfl ?_
      refine sw_iloadn (pc := 14) 2 2 C dX6_push_14 rfl ?_
      refine sw_callVi (pc := 15) C (mX6_takes hc v2) sgX6_takes mlX6_58 dX6_push_15 (by decide) [.int v2] [.int v1] hc.1 rfl rfl rfl rfl (Nat.le_of_ble_eq_true rfl) (fun r1 σ2 => ?_)
      refine sw_aloadn (pc := 18) 0 0 C dX6_push_18 rfl ?_
      refine sw_iloadn (pc := 19) 2 2 C dX6_push_19 rfl ?_
      refine sw_callVi (pc := 20) C (mX6_leaning hc v2) sgX6_leaning mlX6_61 dX6_push_20 (by decide) [.int v2] [.int r1, .int v1] hc.1 rfl rfl rfl rfl (Nat.le_of_ble_eq_true rfl) (fun r3 σ4 => ?_)
      refine sw_imul (pc := 23) C dX6_push_23 ?_
      refine sw_iadd (pc := 24) C dX6_push_24 ?_
      refine sw_leti (fun x5 => ?_)
      refine sw_istoren (pc := 25) 1 [(1, .int x5), (0, .ref (ad c)), (2, .int v2)] C dX6_push_25 (by rw [hn]; decide) rfl ?_
      refine sw_iinc (pc := 26) (v2 + 1) 2 [(2, .int (v2 + 1)), (1, .int x5), (0, .ref (ad c))] C dX6_push_26 (by rw [hn]; decide) rfl rfl rfl ?_
      refine sw_goto (pc := 29) 4 C dX6_push_29 (by decide) ?_
      refine sw_lpick (pc := 4) (L' := [(0, .ref (ad c)), (1, .int x5), (2, .int (v2 + 1))]) [2, 1, 0] rfl ?_
      exact ih _ _ _
set_option maxRecDepth 100000 in
set_option maxHeartbeats 4000000 in
theorem mX6_push {c : Nat} (hc : sw_saw c)  : sw_Ki yX6_push cX6_push 3 (some .int) 2 (fun ad => [.ref (ad c)]) (fX6_push c) := by
  refine sw_enteri (by decide) (fun ad => Nat.le_of_ble_eq_true rfl) (fun X ad t σ C hn M => ?_)
  change sw_J X ad t 0 [(0, .ref (ad c))] [] σ _
  replace C : sw_C X ad cX6_push RX6 2 := C
  unfold fX6_push
  refine sw_iconst (pc := 0) (v := 0) C dX6_push_0 (by decide) ?_
  refine sw_istoren (pc := 1) 1 [(1, .int 0), (0, .ref (ad c))] C dX6_push_1 (by rw [hn]; decide) rfl ?_
  refine sw_iconst (pc := 2) (v := 0) C dX6_push_2 (by decide) ?_
  refine sw_istoren (pc := 3) 2 [(2, .int 0), (1, .int 0), (0, .ref (ad c))] C dX6_push_3 (by rw [hn]; decide) rfl ?_
  refine sw_lpick (pc := 4) (L' := [(0, .ref (ad c)), (1, .int 0), (2, .int 0)]) [2, 1, 0] rfl ?_
  exact jX6_push_L4 C hn M hc _ _ _ _
set_option maxRecDepth 100000 in
set_option maxHeartbeats 4000000 in
theorem mJ9_max_7cf53   (a0 : Int32) (a1 : Int32) : sw_Ki yJ9_max_7cf53 cJ9_max_7cf53 2 (some .int) 1 (fun ad => [.int a0, .int a1]) (fJ9_max_7cf53 a0 a1) := by
  refine sw_enterFi (by decide +kernel) (fun ad => Nat.le_of_ble_eq_true rfl) (fun X ad t σ C hn M => ?_)
  change sw_J X ad t 0 [(0, .int a0), (1, .int a1)] [] σ _
  replace C : sw_C X ad cJ9_max_7cf53 RJ9 1 := C
  unfold fJ9_max_7cf53
  refine sw_iloadn (pc := 0) 0 0 C dJ9_max_7cf53_0 rfl ?_
  refine sw_iloadn (pc := 1) 1 1 C dJ9_max_7cf53_1 rfl ?_
  refine sw_icmp_lt (pc := 2) 9 C dJ9_max_7cf53_2 (by decide) ?_ ?_
  · refine sw_iloadn (pc := 9) 1 1 C dJ9_max_7cf53_9 rfl ?_
    exact sw_reti (pc := 10) C M dJ9_max_7cf53_10
  · refine sw_iloadn (pc := 5) 0 0 C dJ9_max_7cf53_5 rfl ?_
    refine sw_goto (pc := 6) 10 C dJ9_max_7cf53_6 (by decide) ?_
    exact sw_reti (pc := 10) C M dJ9_max_7cf53_10
set_option maxRecDepth 100000 in
set_option maxHeartbeats 4000000 in
theorem jX6_kerf_B43 {X : sw_X} {ad : Nat → Nat} {t : Int32 × sw_St} (C : sw_C X ad cX6_kerf RX6 2) (hn : sw_nL X = 4) (M : sw_Mi X ad (some .int) t) {c : Nat} (hc : sw_saw c) {K6 : Int32 → Int32 → Int32 → sw_St → Option (Int32 × sw_St)} (hK6 : ∀ (z1 : Int32) (z2 : Int32) (z3 : Int32) (τ : sw_St), sw_J X ad t 6 [(0, .ref (ad c)), (1, .int z1), (2, .int z2), (3, .int z3)] [] τ (K6 z1 z2 z3 τ)) (v1 : Int32) (v2 : Int32) (v3 : Int32) (σ : sw_St) : sw_J X ad t 43 [(0, .ref (ad c)), (1, .int v1), (2, .int v2), (3, .int v3)] [] σ (fX6_kerf_B43 K6 c v1 v2 v3 σ) := by
  unfold fX6_kerf_B43
  refine sw_iinc (pc := 43) (v3 + 1) 3 [(3, .int (v3 + 1)), (0, .ref (ad c)), (1, .int v1), (2, .int v2)] C dX6_kerf_43 (by rw [hn]; decide) rfl rfl rfl ?_
  refine sw_goto (pc := 46) 6 C dX6_kerf_46 (by decide) ?_
  refine sw_lpick (pc := 6) (L' := [(0, .ref (ad c)), (1, .int v1), (2, .int v2), (3, .int (v3 + 1))]) [1, 2, 3, 0] rfl ?_
  exact hK6 _ _ _ _
set_option maxRecDepth 100000 in
set_option maxHeartbeats 4000000 in
theorem jX6_kerf_L6 {X : sw_X} {ad : Nat → Nat} {t : Int32 × sw_St} (C : sw_C X ad cX6_kerf RX6 2) (hn : sw_nL X = 4) (M : sw_Mi X ad (some .int) t) {c : Nat} (hc : sw_saw c) : ∀ (n : Nat) (v1 : Int32) (v2 : Int32) (v3 : Int32) (σ : sw_St), sw_J X ad t 6 [(0, .ref (ad c)), (1, .int v1), (2, .int v2), (3, .int v3)] [] σ (fX6_kerf_L6 c n v1 v2 v3 σ) := by
  intro n
  induction n with
  | zero => exact fun _ _ _ _ => sw_none
  | succ n ih =>
    intro v1 v2 v3 σ
    unfold fX6_kerf_L6
    refine sw_iloadn (pc := 6) 3 3 C dX6_kerf_6 rfl ?_
    refine sw_aloadn (pc := 7) 0 0 C dX6_kerf_7 rfl ?_
    refine sw_getI (pc := 8) C kfX6_9 hc.1 rfl dX6_kerf_8 ?_
    refine sw_icmp_ge (pc := 11) 49 C dX6_kerf_11 (by decide) ?_ ?_
    · refine sw_iconst (pc := 49) (v := 1) C dX6_kerf_49 (by decide) ?_
      refine sw_iloadn (pc := 50) 1 1 C dX6_kerf_50 rfl ?_
      refine sw_iadd (pc := 51) C dX6_kerf_51 ?_
      refine sw_iloadn (pc := 52) 2 2 C dX6_kerf_52 rfl ?_
      refine sw_iadd (pc := 53) C dX6_kerf_53 ?_
      exact sw_reti (pc := 54) C M dX6_kerf_54
    · refine sw_aloadn (pc := 14) 0 0 C dX6_kerf_14 rfl ?_
      refine sw_iloadn (pc := 15) 3 3 C dX6_kerf_15 rfl ?_
      refine sw_callVi (pc := 16) C (mX6_takes hc v3) sgX6_takes mlX6_58 dX6_kerf_16 (by decide) [.int v3] [] hc.1 rfl rfl rfl rfl (Nat.le_of_ble_eq_true rfl) (fun r1 σ2 => ?_)
      refine sw_if_le (pc := 19) 43 C dX6_kerf_19 (by decide) ?_ ?_
      · exact jX6_kerf_B43 C hn M hc ih _ _ _ _
      · refine sw_iloadn (pc := 22) 1 1 C dX6_kerf_22 rfl ?_
        refine sw_aloadn (pc := 23) 0 0 C dX6_kerf_23 rfl ?_
        refine sw_iloadn (pc := 24) 3 3 C dX6_kerf_24 rfl ?_
        refine sw_callVi (pc := 25) C (mX6_leaning hc v3) sgX6_leaning mlX6_61 dX6_kerf_25 (by decide) [.int v3] [.int v1] hc.1 rfl rfl rfl rfl (Nat.le_of_ble_eq_true rfl) (fun r3 σ4 => ?_)
        refine sw_ineg (pc := 28) C dX6_kerf_28 ?_
        refine sw_callSi (pc := 29) C (mJ9_max_7cf53 v1 (-r3)) sgJ9_max_7cf53 mlX6_64 dX6_kerf_29 (by decide) [.int v1, .int (-r3)] [] rfl rfl rfl (Nat.le_of_ble_eq_true rfl) (fun r5 σ6 => ?_)
        refine sw_istoren (pc := 32) 1 [(1, .int r5), (0, .ref (ad c)), (2, .int v2), (3, .int v3)] C dX6_kerf_32 (by rw [hn]; decide) rfl ?_
        refine sw_iloadn (pc := 33) 2 2 C dX6_kerf_33 rfl ?_
        refine sw_aloadn (pc := 34) 0 1 C dX6_kerf_34 rfl ?_
        refine sw_iloadn (pc := 35) 3 3 C dX6_kerf_35 rfl ?_
        refine sw_callVi (pc := 36) C (mX6_leaning hc v3) sgX6_leaning mlX6_61 dX6_kerf_36 (by decide) [.int v3] [.int v2] hc.1 rfl rfl rfl rfl (Nat.le_of_ble_eq_true rfl) (fun r7 σ8 => ?_)
        refine sw_callSi (pc := 39) C (mJ9_max_7cf53 v2 r7) sgJ9_max_7cf53 mlX6_64 dX6_kerf_39 (by decide) [.int v2, .int r7] [] rfl rfl rfl (Nat.le_of_ble_eq_true rfl) (fun r9 σ10 => ?_)
        refine sw_istoren (pc := 42) 2 [(2, .int r9), (1, .int r5), (0, .ref (ad c)), (3, .int v3)] C dX6_kerf_42 (by rw [hn]; decide) rfl ?_
        refine sw_lpick (pc := 43) (L' := [(0, .ref (ad c)), (1, .int r5), (2, .int r9), (3, .int v3)]) [2, 1, 0, 3] rfl ?_
        exact jX6_kerf_B43 C hn M hc ih _ _ _ _
set_option maxRecDepth 100000 in
set_option maxHeartbeats 4000000 in
theorem mX6_kerf {c : Nat} (hc : sw_saw c)  : sw_Ki yX6_kerf cX6_kerf 4 (some .int) 2 (fun ad => [.ref (ad c)]) (fX6_kerf c) := by
  refine sw_enteri (by decide) (fun ad => Nat.le_of_ble_eq_true rfl) (fun X ad t σ C hn M => ?_)
  change sw_J X ad t 0 [(0, .ref (ad c))] [] σ _
  replace C : sw_C X ad cX6_kerf RX6 2 := C
  unfold fX6_kerf
  refine sw_iconst (pc := 0) (v := 0) C dX6_kerf_0 (by decide) ?_
  refine sw_istoren (pc := 1) 1 [(1, .int 0), (0, .ref (ad c))] C dX6_kerf_1 (by rw [hn]; decide) rfl ?_
  refine sw_iconst (pc := 2) (v := 0) C dX6_kerf_2 (by decide) ?_
  refine sw_istoren (pc := 3) 2 [(2, .int 0), (1, .int 0), (0, .ref (ad c))] C dX6_kerf_3 (by rw [hn]; decide) rfl ?_
  refine sw_iconst (pc := 4) (v := 0) C dX6_kerf_4 (by decide) ?_
  refine sw_istoren (pc := 5) 3 [(3, .int 0), (2, .int 0), (1, .int 0), (0, .ref (ad c))] C dX6_kerf_5 (by rw [hn]; decide) rfl ?_
  refine sw_lpick (pc := 6) (L' := [(0, .ref (ad c)), (1, .int 0), (2, .int 0), (3, .int 0)]) [3, 2, 1, 0] rfl ?_
  exact jX6_kerf_L6 C hn M hc _ _ _ _ _
set_option maxRecDepth 100000 in
set_option maxHeartbeats 4000000 in
theorem mJ9_abs_0f7a4   (a0 : Int32) : sw_Ki yJ9_abs_0f7a4 cJ9_abs_0f7a4 1 (some .int) 1 (fun ad => [.int a0]) (fJ9_abs_0f7a4 a0) := by
  refine sw_enterFi (by decide +kernel) (fun ad => Nat.le_of_ble_eq_true rfl) (fun X ad t σ C hn M => ?_)
  change sw_J X ad t 0 [(0, .int a0)] [] σ _
  replace C : sw_C X ad cJ9_abs_0f7a4 RJ9 1 := C
  unfold fJ9_abs_0f7a4
  refine sw_iloadn (pc := 0) 0 0 C dJ9_abs_0f7a4_0 rfl ?_
  refine sw_if_ge (pc := 1) 9 C dJ9_abs_0f7a4_1 (by decide) ?_ ?_
  · refine sw_iloadn (pc := 9) 0 0 C dJ9_abs_0f7a4_9 rfl ?_
    exact sw_reti (pc := 10) C M dJ9_abs_0f7a4_10
  · refine sw_iloadn (pc := 4) 0 0 C dJ9_abs_0f7a4_4 rfl ?_
    refine sw_ineg (pc := 5) C dJ9_abs_0f7a4_5 ?_
    refine sw_goto (pc := 6) 10 C dJ9_abs_0f7a4_6 (by decide) ?_
    exact sw_reti (pc := 10) C M dJ9_abs_0f7a4_10
set_option maxRecDepth 100000 in
set_option maxHeartbeats 4000000 in
theorem jX1_stroke_B82 {X : sw_X} {ad : Nat → Nat} {t : Unit × sw_St} (C : sw_C X ad cX1_stroke RX1 2) (hn : sw_nL X = 6) (M : sw_Mv X ad none t)   (v3 : Int32) (v4 : Int32) (v5 : Int32) (σ : sw_St) : sw_J X ad t 82 [(0, .ref (ad 23)), (3, .int v3), (4, .int v4), (5, .int v5)] [] σ (fX1_stroke_B82  v3 v4 v5 σ) := by
  unfold fX1_stroke_B82
  refine sw_aloadn (pc := 82) 0 0 C dX1_stroke_82 rfl ?_
  refine sw_getR (pc := 83) C kfX1_23 sh23 rfl dX1_stroke_83 ?_
  refine sw_iloadn (pc := 86) 3 1 C dX1_stroke_86 rfl ?_
  refine sw_iload (pc := 87) 3 C dX1_stroke_87 rfl ?_
  refine sw_iastL (pc := 89) C sh24 dX1_stroke_89 (fun σ14 => ?_)
  refine sw_aloadn (pc := 90) 0 0 C dX1_stroke_90 rfl ?_
  refine sw_getR (pc := 91) C kfX1_27 sh23 rfl dX1_stroke_91 ?_
  refine sw_iloadn (pc := 94) 3 1 C dX1_stroke_94 rfl ?_
  refine sw_iload (pc := 95) 2 C dX1_stroke_95 rfl ?_
  refine sw_iastL (pc := 97) C sh25 dX1_stroke_97 (fun σ15 => ?_)
  refine sw_aloadn (pc := 98) 0 0 C dX1_stroke_98 rfl ?_
  refine sw_iloadn (pc := 99) 3 1 C dX1_stroke_99 rfl ?_
  refine sw_iconst (pc := 100) (v := 1) C dX1_stroke_100 (by decide) ?_
  refine sw_iadd (pc := 101) C dX1_stroke_101 ?_
  refine sw_putL (pc := 102) C kpX1_9 sh23 rfl dX1_stroke_102 (fun σ16 => ?_)
  refine sw_aloadn (pc := 105) 0 0 C dX1_stroke_105 rfl ?_
  refine sw_aloadn (pc := 106) 0 0 C dX1_stroke_106 rfl ?_
  refine sw_getI (pc := 107) C kfX1_18 sh23 rfl dX1_stroke_107 ?_
  refine sw_iload (pc := 110) 3 C dX1_stroke_110 rfl ?_
  refine sw_callSi (pc := 112) C (mJ9_abs_0f7a4 v5) sgJ9_abs_0f7a4 mlX1_85 dX1_stroke_112 (by decide) [.int v5] [.int (σ16 23 2), .ref (ad 23)] rfl rfl rfl (Nat.le_of_ble_eq_true rfl) (fun r17 σ18 => ?_)
  refine sw_callSi (pc := 115) C (mJ9_max_7cf53 (σ16 23 2) r17) sgJ9_max_7cf53 mlX1_82 dX1_stroke_115 (by decide) [.int (σ16 23 2), .int r17] [.ref (ad 23)] rfl rfl rfl (Nat.le_of_ble_eq_true rfl) (fun r19 σ20 => ?_)
  refine sw_putL (pc := 118) C kpX1_18 sh23 rfl dX1_stroke_118 (fun σ21 => ?_)
  exact sw_retv (pc := 121) C M dX1_stroke_121
set_option maxRecDepth 100000 in
set_option maxHeartbeats 4000000 in
theorem jX1_stroke_B77 {X : sw_X} {ad : Nat → Nat} {t : Unit × sw_St} (C : sw_C X ad cX1_stroke RX1 2) (hn : sw_nL X = 6) (M : sw_Mv X ad none t)   (v3 : Int32) (s0 : Int32) (σ : sw_St) : sw_J X ad t 77 [(0, .ref (ad 23)), (3, .int v3)] [.int s0] σ (fX1_stroke_B77  v3 s0 σ) := by
  unfold fX1_stroke_B77
  refine sw_istore (pc := 77) [(5, .int s0), (0, .ref (ad 23)), (3, .int v3)] C dX1_stroke_77 (by rw [hn]; decide) rfl ?_
  refine sw_iconst (pc := 79) (v := 0) C dX1_stroke_79 (by decide) ?_
  refine sw_istore (pc := 80) [(4, .int 0), (5, .int s0), (0, .ref (ad 23)), (3, .int v3)] C dX1_stroke_80 (by rw [hn]; decide) rfl ?_
  refine sw_lpick (pc := 82) (L' := [(0, .ref (ad 23)), (3, .int v3), (4, .int 0), (5, .int s0)]) [2, 3, 0, 1] rfl ?_
  exact jX1_stroke_B82 C hn M  _ _ _ _
set_option maxRecDepth 100000 in
set_option maxHeartbeats 4000000 in
theorem mX1_stroke   (a0 : Int32) (a1 : Int32) : sw_Kv yX1_stroke cX1_stroke 6 none 2 (fun ad => [.ref (ad 23), .int a0, .int a1]) (fX1_stroke a0 a1) := by
  refine sw_enterv (by decide) (fun ad => Nat.le_of_ble_eq_true rfl) (fun X ad t σ C hn M => ?_)
  change sw_J X ad t 0 [(0, .ref (ad 23)), (1, .int a0), (2, .int a1)] [] σ _
  replace C : sw_C X ad cX1_stroke RX1 2 := C
  unfold fX1_stroke
  refine sw_aloadn (pc := 0) 0 0 C dX1_stroke_0 rfl ?_
  refine sw_getI (pc := 1) C kfX1_9 sh23 rfl dX1_stroke_1 ?_
  refine sw_leti (fun x1 => ?_)
  refine sw_istoren (pc := 4) 3 [(3, .int x1), (0, .ref (ad 23)), (1, .int a0), (2, .int a1)] C dX1_stroke_4 (by rw [hn]; decide) rfl ?_
  refine sw_iloadn (pc := 5) 3 0 C dX1_stroke_5 rfl ?_
  refine sw_if_lt (pc := 6) 15 C dX1_stroke_6 (by decide) ?_ ?_
  · exact sw_retv (pc := 15) C M dX1_stroke_15
  · refine sw_iloadn (pc := 9) 3 0 C dX1_stroke_9 rfl ?_
    refine sw_bipush (pc := 10) (v := 24) C dX1_stroke_10 (by decide) ?_
    refine sw_icmp_lt (pc := 12) 16 C dX1_stroke_12 (by decide) ?_ ?_
    · refine sw_aloadn (pc := 16) 0 1 C dX1_stroke_16 rfl ?_
      refine sw_iloadn (pc := 17) 3 0 C dX1_stroke_17 rfl ?_
      refine sw_iconst (pc := 18) (v := 1) C dX1_stroke_18 (by decide) ?_
      refine sw_isub (pc := 19) C dX1_stroke_19 ?_
      refine sw_callVi (pc := 20) C (mX1_headingBehind (x1 - 1)) sgX1_headingBehind mlX1_73 dX1_stroke_20 (by decide) [.int (x1 - 1)] [] sh23 rfl rfl rfl rfl (Nat.le_of_ble_eq_true rfl) (fun r2 σ3 => ?_)
      refine sw_iloadn (pc := 23) 1 2 C dX1_stroke_23 rfl ?_
      refine sw_iadd (pc := 24) C dX1_stroke_24 ?_
      refine sw_leti (fun x4 => ?_)
      refine sw_istore (pc := 25) [(4, .int x4), (3, .int x1), (0, .ref (ad 23)), (1, .int a0), (2, .int a1)] C dX1_stroke_25 (by rw [hn]; decide) rfl ?_
      refine sw_bipush (pc := 27) (v := (-99)) C dX1_stroke_27 (by decide) ?_
      refine sw_bipush (pc := 29) (v := 99) C dX1_stroke_29 (by decide) ?_
      refine sw_iload (pc := 31) 0 C dX1_stroke_31 rfl ?_
      refine sw_callSi (pc := 33) C (mJ9_min_7cf53 99 x4) sgJ9_min_7cf53 mlX1_76 dX1_stroke_33 (by decide) [.int 99, .int x4] [.int (-99)] rfl rfl rfl (Nat.le_of_ble_eq_true rfl) (fun r5 σ6 => ?_)
      refine sw_callSi (pc := 36) C (mJ9_max_7cf53 (-99) r5) sgJ9_max_7cf53 mlX1_82 dX1_stroke_36 (by decide) [.int (-99), .int r5] [] rfl rfl rfl (Nat.le_of_ble_eq_true rfl) (fun r7 σ8 => ?_)
      refine sw_istore (pc := 39) [(4, .int r7), (3, .int x1), (0, .ref (ad 23)), (1, .int a0), (2, .int a1)] C dX1_stroke_39 (by rw [hn]; decide) rfl ?_
      refine sw_aloadn (pc := 41) 0 2 C dX1_stroke_41 rfl ?_
      refine sw_iloadn (pc := 42) 3 1 C dX1_stroke_42 rfl ?_
      refine sw_iconst (pc := 43) (v := 1) C dX1_stroke_43 (by decide) ?_
      refine sw_isub (pc := 44) C dX1_stroke_44 ?_
      refine sw_callVi (pc := 45) C (mX1_placeBehind (x1 - 1)) sgX1_placeBehind mlX1_57 dX1_stroke_45 (by decide) [.int (x1 - 1)] [] sh23 rfl rfl rfl rfl (Nat.le_of_ble_eq_true rfl) (fun r9 σ10 => ?_)
      refine sw_iload (pc := 48) 0 C dX1_stroke_48 rfl ?_
      refine sw_iadd (pc := 50) C dX1_stroke_50 ?_
      refine sw_leti (fun x11 => ?_)
      refine sw_istore (pc := 51) [(5, .int x11), (4, .int r7), (3, .int x1), (0, .ref (ad 23)), (1, .int a0), (2, .int a1)] C dX1_stroke_51 (by rw [hn]; decide) rfl ?_
      refine sw_iloadn (pc := 53) 2 5 C dX1_stroke_53 rfl ?_
      refine sw_if_le (pc := 54) 82 C dX1_stroke_54 (by decide) ?_ ?_
      · refine sw_lpick (pc := 82) (L' := [(0, .ref (ad 23)), (3, .int x1), (4, .int r7), (5, .int x11)]) [3, 2, 1, 0] rfl ?_
        exact jX1_stroke_B82 C hn M  _ _ _ _
      · refine sw_iload (pc := 57) 0 C dX1_stroke_57 rfl ?_
        refine sw_callSi (pc := 59) C (mJ9_abs_0f7a4 x11) sgJ9_abs_0f7a4 mlX1_85 dX1_stroke_59 (by decide) [.int x11] [] rfl rfl rfl (Nat.le_of_ble_eq_true rfl) (fun r12 σ13 => ?_)
        refine sw_iloadn (pc := 62) 2 5 C dX1_stroke_62 rfl ?_
        refine sw_icmp_le (pc := 63) 82 C dX1_stroke_63 (by decide) ?_ ?_
        · refine sw_lpick (pc := 82) (L' := [(0, .ref (ad 23)), (3, .int x1), (4, .int r7), (5, .int x11)]) [3, 2, 1, 0] rfl ?_
          exact jX1_stroke_B82 C hn M  _ _ _ _
        · refine sw_iload (pc := 66) 0 C dX1_stroke_66 rfl ?_
          refine sw_if_le (pc := 68) 75 C dX1_stroke_68 (by decide) ?_ ?_
          · refine sw_iloadn (pc := 75) 2 5 C dX1_stroke_75 rfl ?_
            refine sw_ineg (pc := 76) C dX1_stroke_76 ?_
            refine sw_lpick (pc := 77) (L' := [(0, .ref (ad 23)), (3, .int x1)]) [3, 2] rfl ?_
            exact jX1_stroke_B77 C hn M  _ _ _
          · refine sw_iloadn (pc := 71) 2 5 C dX1_stroke_71 rfl ?_
            refine sw_goto (pc := 72) 77 C dX1_stroke_72 (by decide) ?_
            refine sw_lpick (pc := 77) (L' := [(0, .ref (ad 23)), (3, .int x1)]) [3, 2] rfl ?_
            exact jX1_stroke_B77 C hn M  _ _ _
    · exact sw_retv (pc := 15) C M dX1_stroke_15
set_option maxRecDepth 100000 in
set_option maxHeartbeats 4000000 in
theorem jX1_go_B90 {X : sw_X} {ad : Nat → Nat} {t : Unit × sw_St} (C : sw_C X ad cX1_go RX1 3) (hn : sw_nL X = 11) (M : sw_Mv X ad none t) {c c1 : Nat} (hc : sw_saw c) (hc1 : sw_hand c1) {K31 : Int32 → Int32 → Int32 → sw_St → Option (Unit × sw_St)} (hK31 : ∀ (z4 : Int32) (z5 : Int32) (z6 : Int32) (τ : sw_St), sw_J X ad t 31 [(0, .ref (ad 23)), (2, .ref (ad 17)), (3, .ref (ad c1)), (4, .int z4), (5, .int z5), (6, .int z6)] [] τ (K31 z4 z5 z6 τ)) (v4 : Int32) (v5 : Int32) (v6 : Int32) (s0 : Int32) (σ : sw_St) : sw_J X ad t 90 [(0, .ref (ad 23)), (2, .ref (ad 17)), (3, .ref (ad c1)), (4, .int v4), (5, .int v5), (6, .int v6)] [.int s0] σ (fX1_go_B90 K31 c c1 v4 v5 v6 s0 σ) := by
  unfold fX1_go_B90
  refine sw_istore (pc := 90) [(8, .int s0), (0, .ref (ad 23)), (2, .ref (ad 17)), (3, .ref (ad c1)), (4, .int v4), (5, .int v5), (6, .int v6)] C dX1_go_90 (by rw [hn]; decide) rfl ?_
  refine sw_aloadn (pc := 92) 3 3 C dX1_go_92 rfl ?_
  refine sw_getI (pc := 93) C kfX1_49 hc1 rfl dX1_go_93 ?_
  refine sw_aloadn (pc := 96) 0 1 C dX1_go_96 rfl ?_
  refine sw_iload (pc := 97) 6 C dX1_go_97 rfl ?_
  refine sw_iconst (pc := 99) (v := 1) C dX1_go_99 (by decide) ?_
  refine sw_isub (pc := 100) C dX1_go_100 ?_
  refine sw_aloadn (pc := 101) 3 3 C dX1_go_101 rfl ?_
  refine sw_getI (pc := 102) C kfX1_54 hc1 rfl dX1_go_102 ?_
  refine sw_isub (pc := 105) C dX1_go_105 ?_
  refine sw_callVi (pc := 106) C (mX1_placeBehind ((v6 - 1) - (σ c1 2))) sgX1_placeBehind mlX1_57 dX1_go_106 (by decide) [.int ((v6 - 1) - (σ c1 2))] [.int (σ c1 1)] sh23 rfl rfl rfl rfl (Nat.le_of_ble_eq_true rfl) (fun r14 σ15 => ?_)
  refine sw_imul (pc := 109) C dX1_go_109 ?_
  refine sw_bipush (pc := 110) (v := 8) C dX1_go_110 (by decide) ?_
  refine sw_idivc (pc := 112) C dX1_go_112 (by decide) ?_
  refine sw_leti (fun x16 => ?_)
  refine sw_istore (pc := 113) [(9, .int x16), (8, .int s0), (0, .ref (ad 23)), (2, .ref (ad 17)), (3, .ref (ad c1)), (4, .int v4), (5, .int v5), (6, .int v6)] C dX1_go_113 (by rw [hn]; decide) rfl ?_
  refine sw_iload (pc := 115) 1 C dX1_go_115 rfl ?_
  refine sw_aloadn (pc := 117) 2 3 C dX1_go_117 rfl ?_
  refine sw_iload (pc := 118) 7 C dX1_go_118 rfl ?_
  refine sw_callVi (pc := 120) C (mX0_grainOf v6) sgX0_grainOf mlX1_60 dX1_go_120 (by decide) [.int v6] [.int s0] sh17 rfl rfl rfl rfl (Nat.le_of_ble_eq_true rfl) (fun r17 σ18 => ?_)
  refine sw_iadd (pc := 123) C dX1_go_123 ?_
  refine sw_aloadn (pc := 124) 3 4 C dX1_go_124 rfl ?_
  refine sw_getI (pc := 125) C kfX1_63 hc1 rfl dX1_go_125 ?_
  refine sw_iadd (pc := 128) C dX1_go_128 ?_
  refine sw_iload (pc := 129) 0 C dX1_go_129 rfl ?_
  refine sw_isub (pc := 131) C dX1_go_131 ?_
  refine sw_leti (fun x19 => ?_)
  refine sw_istore (pc := 132) [(10, .int x19), (9, .int x16), (8, .int s0), (0, .ref (ad 23)), (2, .ref (ad 17)), (3, .ref (ad c1)), (4, .int v4), (5, .int v5), (6, .int v6)] C dX1_go_132 (by rw [hn]; decide) rfl ?_
  refine sw_aloadn (pc := 134) 0 3 C dX1_go_134 rfl ?_
  refine sw_iload (pc := 135) 0 C dX1_go_135 rfl ?_
  refine sw_aloadn (pc := 137) 3 5 C dX1_go_137 rfl ?_
  refine sw_getI (pc := 138) C kfX1_66 hc1 rfl dX1_go_138 ?_
  refine sw_callVv (pc := 141) C (mX1_stroke x19 (σ18 c1 3)) sgX1_stroke mlX1_69 dX1_go_141 (by decide) [.int x19, .int (σ18 c1 3)] [] sh23 rfl rfl rfl rfl (Nat.le_of_ble_eq_true rfl) (fun r20 σ21 => ?_)
  refine sw_iinc (pc := 144) (v6 + 1) 8 [(6, .int (v6 + 1)), (10, .int x19), (9, .int x16), (8, .int s0), (0, .ref (ad 23)), (2, .ref (ad 17)), (3, .ref (ad c1)), (4, .int v4), (5, .int v5)] C dX1_go_144 (by rw [hn]; decide) rfl rfl rfl ?_
  refine sw_goto (pc := 147) 31 C dX1_go_147 (by decide) ?_
  refine sw_lpick (pc := 31) (L' := [(0, .ref (ad 23)), (2, .ref (ad 17)), (3, .ref (ad c1)), (4, .int v4), (5, .int v5), (6, .int (v6 + 1))]) [4, 5, 6, 7, 8, 0] rfl ?_
  exact hK31 _ _ _ _
set_option maxRecDepth 100000 in
set_option maxHeartbeats 4000000 in
theorem jX1_go_L31 {X : sw_X} {ad : Nat → Nat} {t : Unit × sw_St} (C : sw_C X ad cX1_go RX1 3) (hn : sw_nL X = 11) (M : sw_Mv X ad none t) {c c1 : Nat} (hc : sw_saw c) (hc1 : sw_hand c1) : ∀ (n : Nat) (v4 : Int32) (v5 : Int32) (v6 : Int32) (σ : sw_St), sw_J X ad t 31 [(0, .ref (ad 23)), (2, .ref (ad 17)), (3, .ref (ad c1)), (4, .int v4), (5, .int v5), (6, .int v6)] [] σ (fX1_go_L31 c c1 n v4 v5 v6 σ) := by
  intro n
  induction n with
  | zero => exact fun _ _ _ _ => sw_none
  | succ n ih =>
    intro v4 v5 v6 σ
    unfold fX1_go_L31
    refine sw_iload (pc := 31) 5 C dX1_go_31 rfl ?_
    refine sw_aloadn (pc := 33) 2 1 C dX1_go_33 rfl ?_
    refine sw_getI (pc := 34) C kfX1_39 sh17 rfl dX1_go_34 ?_
    refine sw_icmp_ge (pc := 37) 150 C dX1_go_37 (by decide) ?_ ?_
    · exact sw_retv (pc := 150) C M dX1_go_150
    · refine sw_iload (pc := 40) 5 C dX1_go_40 rfl ?_
      refine sw_bipush (pc := 42) (v := 24) C dX1_go_42 (by decide) ?_
      refine sw_icmp_ge (pc := 44) 150 C dX1_go_44 (by decide) ?_ ?_
      · exact sw_retv (pc := 150) C M dX1_go_150
      · refine sw_aloadn (pc := 47) 2 1 C dX1_go_47 rfl ?_
        refine sw_iload (pc := 48) 5 C dX1_go_48 rfl ?_
        refine sw_callVi (pc := 50) C (mX0_closesOf v6) sgX0_closesOf mlX1_42 dX1_go_50 (by decide) [.int v6] [] sh17 rfl rfl rfl rfl (Nat.le_of_ble_eq_true rfl) (fun r8 σ9 => ?_)
        refine sw_iload (pc := 53) 4 C dX1_go_53 rfl ?_
        refine sw_icmp_le (pc := 55) 65 C dX1_go_55 (by decide) ?_ ?_
        · refine sw_bipush (pc := 65) (v := 10) C dX1_go_65 (by decide) ?_
          refine sw_aloadn (pc := 67) 2 1 C dX1_go_67 rfl ?_
          refine sw_iload (pc := 68) 5 C dX1_go_68 rfl ?_
          refine sw_callVi (pc := 70) C (mX0_hardOf v6) sgX0_hardOf mlX1_46 dX1_go_70 (by decide) [.int v6] [.int 10] sh17 rfl rfl rfl rfl (Nat.le_of_ble_eq_true rfl) (fun r10 σ11 => ?_)
          refine sw_imul (pc := 73) C dX1_go_73 ?_
          refine sw_leti (fun x12 => ?_)
          refine sw_istore (pc := 74) [(7, .int x12), (0, .ref (ad 23)), (2, .ref (ad 17)), (3, .ref (ad c1)), (4, .int v4), (5, .int v5), (6, .int v6)] C dX1_go_74 (by rw [hn]; decide) rfl ?_
          refine sw_iload (pc := 76) 0 C dX1_go_76 rfl ?_
          refine sw_if_le (pc := 78) 89 C dX1_go_78 (by decide) ?_ ?_
          · refine sw_iconst (pc := 89) (v := 0) C dX1_go_89 (by decide) ?_
            refine sw_lpick (pc := 90) (L' := [(0, .ref (ad 23)), (2, .ref (ad 17)), (3, .ref (ad c1)), (4, .int v4), (5, .int v5), (6, .int v6)]) [1, 2, 3, 4, 5, 6] rfl ?_
            exact jX1_go_B90 C hn M hc hc1 ih _ _ _ _ _
          · refine sw_iload (pc := 81) 4 C dX1_go_81 rfl ?_
            refine sw_iload (pc := 83) 0 C dX1_go_83 rfl ?_
            refine sw_idiv (pc := 85) C dX1_go_85 ?_
            refine sw_goto (pc := 86) 90 C dX1_go_86 (by decide) ?_
            refine sw_lpick (pc := 90) (L' := [(0, .ref (ad 23)), (2, .ref (ad 17)), (3, .ref (ad c1)), (4, .int v4), (5, .int v5), (6, .int v6)]) [1, 2, 3, 4, 5, 6] rfl ?_
            exact jX1_go_B90 C hn M hc hc1 ih _ _ _ _ _
        · refine sw_aloadn (pc := 58) 0 0 C dX1_go_58 rfl ?_
          refine sw_iload (pc := 59) 5 C dX1_go_59 rfl ?_
          refine sw_putL (pc := 61) C kpX1_15 sh23 rfl dX1_go_61 (fun σ13 => ?_)
          exact sw_retv (pc := 64) C M dX1_go_64
set_option maxRecDepth 100000 in
set_option maxHeartbeats 4000000 in
theorem mX1_go {c c1 : Nat} (hc : sw_saw c) (hc1 : sw_hand c1)  : sw_Kv yX1_go cX1_go 11 none 3 (fun ad => [.ref (ad 23), .ref (ad c), .ref (ad 17), .ref (ad c1)]) (fX1_go c c1) := by
  refine sw_enterv (by decide) (fun ad => Nat.le_of_ble_eq_true rfl) (fun X ad t σ C hn M => ?_)
  change sw_J X ad t 0 [(0, .ref (ad 23)), (1, .ref (ad c)), (2, .ref (ad 17)), (3, .ref (ad c1))] [] σ _
  replace C : sw_C X ad cX1_go RX1 3 := C
  unfold fX1_go
  refine sw_aloadn (pc := 0) 0 0 C dX1_go_0 rfl ?_
  refine sw_iconst (pc := 1) (v := 0) C dX1_go_1 (by decide) ?_
  refine sw_putL (pc := 2) C kpX1_9 sh23 rfl dX1_go_2 (fun σ1 => ?_)
  refine sw_aloadn (pc := 5) 0 0 C dX1_go_5 rfl ?_
  refine sw_bipush (pc := 6) (v := (-9)) C dX1_go_6 (by decide) ?_
  refine sw_putL (pc := 8) C kpX1_15 sh23 rfl dX1_go_8 (fun σ2 => ?_)
  refine sw_aloadn (pc := 11) 0 0 C dX1_go_11 rfl ?_
  refine sw_iconst (pc := 12) (v := 0) C dX1_go_12 (by decide) ?_
  refine sw_putL (pc := 13) C kpX1_18 sh23 rfl dX1_go_13 (fun σ3 => ?_)
  refine sw_aloadn (pc := 16) 1 1 C dX1_go_16 rfl ?_
  refine sw_callVi (pc := 17) C (mX6_push hc) sgX6_push mlX1_30 dX1_go_17 (by decide) [] [] hc.1 rfl rfl rfl rfl (Nat.le_of_ble_eq_true rfl) (fun r4 σ5 => ?_)
  refine sw_istore (pc := 20) [(4, .int r4), (0, .ref (ad 23)), (1, .ref (ad c)), (2, .ref (ad 17)), (3, .ref (ad c1))] C dX1_go_20 (by rw [hn]; decide) rfl ?_
  refine sw_aloadn (pc := 22) 1 2 C dX1_go_22 rfl ?_
  refine sw_callVi (pc := 23) C (mX6_kerf hc) sgX6_kerf mlX1_36 dX1_go_23 (by decide) [] [] hc.1 rfl rfl rfl rfl (Nat.le_of_ble_eq_true rfl) (fun r6 σ7 => ?_)
  refine sw_istore (pc := 26) [(5, .int r6), (4, .int r4), (0, .ref (ad 23)), (1, .ref (ad c)), (2, .ref (ad 17)), (3, .ref (ad c1))] C dX1_go_26 (by rw [hn]; decide) rfl ?_
  refine sw_iconst (pc := 28) (v := 0) C dX1_go_28 (by decide) ?_
  refine sw_istore (pc := 29) [(6, .int 0), (5, .int r6), (4, .int r4), (0, .ref (ad 23)), (1, .ref (ad c)), (2, .ref (ad 17)), (3, .ref (ad c1))] C dX1_go_29 (by rw [hn]; decide) rfl ?_
  refine sw_lpick (pc := 31) (L' := [(0, .ref (ad 23)), (2, .ref (ad 17)), (3, .ref (ad c1)), (4, .int r4), (5, .int r6), (6, .int 0)]) [3, 5, 6, 2, 1, 0] rfl ?_
  exact jX1_go_L31 C hn M hc hc1 _ _ _ _ _
set_option maxRecDepth 100000 in
set_option maxHeartbeats 4000000 in
theorem mX2_has   (a0 : Int32) : sw_Ki yX2_has cX2_has 2 (some .boolean) 1 (fun ad => [.ref (ad 26), .int a0]) (fX2_has a0) := by
  refine sw_enteri (by decide) (fun ad => Nat.le_of_ble_eq_true rfl) (fun X ad t σ C hn M => ?_)
  change sw_J X ad t 0 [(0, .ref (ad 26)), (1, .int a0)] [] σ _
  replace C : sw_C X ad cX2_has RX2 1 := C
  unfold fX2_has
  refine sw_iloadn (pc := 0) 1 1 C dX2_has_0 rfl ?_
  refine sw_if_lt (pc := 1) 22 C dX2_has_1 (by decide) ?_ ?_
  · refine sw_iconst (pc := 22) (v := 0) C dX2_has_22 (by decide) ?_
    exact sw_retiz (pc := 23) rfl C M dX2_has_23
  · refine sw_iloadn (pc := 4) 1 1 C dX2_has_4 rfl ?_
    refine sw_aloadn (pc := 5) 0 0 C dX2_has_5 rfl ?_
    refine sw_getI (pc := 6) C kfX2_9 sh26 rfl dX2_has_6 ?_
    refine sw_icmp_ge (pc := 9) 22 C dX2_has_9 (by decide) ?_ ?_
    · refine sw_iconst (pc := 22) (v := 0) C dX2_has_22 (by decide) ?_
      exact sw_retiz (pc := 23) rfl C M dX2_has_23
    · refine sw_iloadn (pc := 12) 1 1 C dX2_has_12 rfl ?_
      refine sw_bipush (pc := 13) (v := 6) C dX2_has_13 (by decide) ?_
      refine sw_icmp_ge (pc := 15) 22 C dX2_has_15 (by decide) ?_ ?_
      · refine sw_iconst (pc := 22) (v := 0) C dX2_has_22 (by decide) ?_
        exact sw_retiz (pc := 23) rfl C M dX2_has_23
      · refine sw_iconst (pc := 18) (v := 1) C dX2_has_18 (by decide) ?_
        refine sw_goto (pc := 19) 23 C dX2_has_19 (by decide) ?_
        exact sw_retiz (pc := 23) rfl C M dX2_has_23
set_option maxRecDepth 100000 in
set_option maxHeartbeats 4000000 in
theorem mX2_toothOf   (a0 : Int32) : sw_Ki yX2_toothOf cX2_toothOf 2 (some .int) 2 (fun ad => [.ref (ad 26), .int a0]) (fX2_toothOf a0) := by
  refine sw_enteri (by decide) (fun ad => Nat.le_of_ble_eq_true rfl) (fun X ad t σ C hn M => ?_)
  change sw_J X ad t 0 [(0, .ref (ad 26)), (1, .int a0)] [] σ _
  replace C : sw_C X ad cX2_toothOf RX2 2 := C
  unfold fX2_toothOf
  refine sw_aloadn (pc := 0) 0 0 C dX2_toothOf_0 rfl ?_
  refine sw_iloadn (pc := 1) 1 1 C dX2_toothOf_1 rfl ?_
  refine sw_callVi (pc := 2) C (mX2_has a0) sgX2_has mlX2_25 dX2_toothOf_2 (by decide) [.int a0] [] sh26 rfl rfl rfl rfl (Nat.le_of_ble_eq_true rfl) (fun r1 σ2 => ?_)
  refine sw_if_eq (pc := 5) 17 C dX2_toothOf_5 (by decide) ?_ ?_
  · refine sw_iconst (pc := 17) (v := 0) C dX2_toothOf_17 (by decide) ?_
    exact sw_reti (pc := 18) C M dX2_toothOf_18
  · refine sw_aloadn (pc := 8) 0 0 C dX2_toothOf_8 rfl ?_
    refine sw_getR (pc := 9) C kfX2_15 sh26 rfl dX2_toothOf_9 ?_
    refine sw_iloadn (pc := 12) 1 1 C dX2_toothOf_12 rfl ?_
    refine sw_iald (pc := 13) C sh27 dX2_toothOf_13 ?_
    refine sw_goto (pc := 14) 18 C dX2_toothOf_14 (by decide) ?_
    exact sw_reti (pc := 18) C M dX2_toothOf_18
set_option maxRecDepth 100000 in
set_option maxHeartbeats 4000000 in
theorem mX2_whatOf   (a0 : Int32) : sw_Ki yX2_whatOf cX2_whatOf 2 (some .int) 2 (fun ad => [.ref (ad 26), .int a0]) (fX2_whatOf a0) := by
  refine sw_enteri (by decide) (fun ad => Nat.le_of_ble_eq_true rfl) (fun X ad t σ C hn M => ?_)
  change sw_J X ad t 0 [(0, .ref (ad 26)), (1, .int a0)] [] σ _
  replace C : sw_C X ad cX2_whatOf RX2 2 := C
  unfold fX2_whatOf
  refine sw_aloadn (pc := 0) 0 0 C dX2_whatOf_0 rfl ?_
  refine sw_iloadn (pc := 1) 1 1 C dX2_whatOf_1 rfl ?_
  refine sw_callVi (pc := 2) C (mX2_has a0) sgX2_has mlX2_25 dX2_whatOf_2 (by decide) [.int a0] [] sh26 rfl rfl rfl rfl (Nat.le_of_ble_eq_true rfl) (fun r1 σ2 => ?_)
  refine sw_if_eq (pc := 5) 17 C dX2_whatOf_5 (by decide) ?_ ?_
  · refine sw_iconst (pc := 17) (v := 0) C dX2_whatOf_17 (by decide) ?_
    exact sw_reti (pc := 18) C M dX2_whatOf_18
  · refine sw_aloadn (pc := 8) 0 0 C dX2_whatOf_8 rfl ?_
    refine sw_getR (pc := 9) C kfX2_19 sh26 rfl dX2_whatOf_9 ?_
    refine sw_iloadn (pc := 12) 1 1 C dX2_whatOf_12 rfl ?_
    refine sw_iald (pc := 13) C sh28 dX2_whatOf_13 ?_
    refine sw_goto (pc := 14) 18 C dX2_whatOf_14 (by decide) ?_
    exact sw_reti (pc := 18) C M dX2_whatOf_18
set_option maxRecDepth 100000 in
set_option maxHeartbeats 4000000 in
theorem mX2_valueOf   (a0 : Int32) : sw_Ki yX2_valueOf cX2_valueOf 2 (some .int) 2 (fun ad => [.ref (ad 26), .int a0]) (fX2_valueOf a0) := by
  refine sw_enteri (by decide) (fun ad => Nat.le_of_ble_eq_true rfl) (fun X ad t σ C hn M => ?_)
  change sw_J X ad t 0 [(0, .ref (ad 26)), (1, .int a0)] [] σ _
  replace C : sw_C X ad cX2_valueOf RX2 2 := C
  unfold fX2_valueOf
  refine sw_aloadn (pc := 0) 0 0 C dX2_valueOf_0 rfl ?_
  refine sw_iloadn (pc := 1) 1 1 C dX2_valueOf_1 rfl ?_
  refine sw_callVi (pc := 2) C (mX2_has a0) sgX2_has mlX2_25 dX2_valueOf_2 (by decide) [.int a0] [] sh26 rfl rfl rfl rfl (Nat.le_of_ble_eq_true rfl) (fun r1 σ2 => ?_)
  refine sw_if_eq (pc := 5) 17 C dX2_valueOf_5 (by decide) ?_ ?_
  · refine sw_iconst (pc := 17) (v := 0) C dX2_valueOf_17 (by decide) ?_
    exact sw_reti (pc := 18) C M dX2_valueOf_18
  · refine sw_aloadn (pc := 8) 0 0 C dX2_valueOf_8 rfl ?_
    refine sw_getR (pc := 9) C kfX2_22 sh26 rfl dX2_valueOf_9 ?_
    refine sw_iloadn (pc := 12) 1 1 C dX2_valueOf_12 rfl ?_
    refine sw_iald (pc := 13) C sh29 dX2_valueOf_13 ?_
    refine sw_goto (pc := 14) 18 C dX2_valueOf_14 (by decide) ?_
    exact sw_reti (pc := 18) C M dX2_valueOf_18
set_option maxRecDepth 100000 in
set_option maxHeartbeats 4000000 in
theorem mX2_add   (a0 : Int32) (a1 : Int32) (a2 : Int32) : sw_Ki yX2_add cX2_add 4 (some .int) 1 (fun ad => [.ref (ad 26), .int a0, .int a1, .int a2]) (fX2_add a0 a1 a2) := by
  refine sw_enteri (by decide) (fun ad => Nat.le_of_ble_eq_true rfl) (fun X ad t σ C hn M => ?_)
  change sw_J X ad t 0 [(0, .ref (ad 26)), (1, .int a0), (2, .int a1), (3, .int a2)] [] σ _
  replace C : sw_C X ad cX2_add RX2 1 := C
  unfold fX2_add
  refine sw_aloadn (pc := 0) 0 0 C dX2_add_0 rfl ?_
  refine sw_getI (pc := 1) C kfX2_9 sh26 rfl dX2_add_1 ?_
  refine sw_if_lt (pc := 4) 16 C dX2_add_4 (by decide) ?_ ?_
  · refine sw_bipush (pc := 16) (v := (-4)) C dX2_add_16 (by decide) ?_
    exact sw_reti (pc := 18) C M dX2_add_18
  · refine sw_aloadn (pc := 7) 0 0 C dX2_add_7 rfl ?_
    refine sw_getI (pc := 8) C kfX2_9 sh26 rfl dX2_add_8 ?_
    refine sw_bipush (pc := 11) (v := 6) C dX2_add_11 (by decide) ?_
    refine sw_icmp_lt (pc := 13) 19 C dX2_add_13 (by decide) ?_ ?_
    · refine sw_aloadn (pc := 19) 0 0 C dX2_add_19 rfl ?_
      refine sw_getR (pc := 20) C kfX2_15 sh26 rfl dX2_add_20 ?_
      refine sw_aloadn (pc := 23) 0 0 C dX2_add_23 rfl ?_
      refine sw_getI (pc := 24) C kfX2_9 sh26 rfl dX2_add_24 ?_
      refine sw_iloadn (pc := 27) 1 1 C dX2_add_27 rfl ?_
      refine sw_iastL (pc := 28) C sh27 dX2_add_28 (fun σ1 => ?_)
      refine sw_aloadn (pc := 29) 0 0 C dX2_add_29 rfl ?_
      refine sw_getR (pc := 30) C kfX2_19 sh26 rfl dX2_add_30 ?_
      refine sw_aloadn (pc := 33) 0 0 C dX2_add_33 rfl ?_
      refine sw_getI (pc := 34) C kfX2_9 sh26 rfl dX2_add_34 ?_
      refine sw_iloadn (pc := 37) 2 2 C dX2_add_37 rfl ?_
      refine sw_iastL (pc := 38) C sh28 dX2_add_38 (fun σ2 => ?_)
      refine sw_aloadn (pc := 39) 0 0 C dX2_add_39 rfl ?_
      refine sw_getR (pc := 40) C kfX2_22 sh26 rfl dX2_add_40 ?_
      refine sw_aloadn (pc := 43) 0 0 C dX2_add_43 rfl ?_
      refine sw_getI (pc := 44) C kfX2_9 sh26 rfl dX2_add_44 ?_
      refine sw_iloadn (pc := 47) 3 3 C dX2_add_47 rfl ?_
      refine sw_iastL (pc := 48) C sh29 dX2_add_48 (fun σ3 => ?_)
      refine sw_aloadn (pc := 49) 0 0 C dX2_add_49 rfl ?_
      refine sw_dup (pc := 50) C dX2_add_50 rfl ?_
      refine sw_getI (pc := 51) C kfX2_9 sh26 rfl dX2_add_51 ?_
      refine sw_iconst (pc := 54) (v := 1) C dX2_add_54 (by decide) ?_
      refine sw_iadd (pc := 55) C dX2_add_55 ?_
      refine sw_putL (pc := 56) C kpX2_9 sh26 rfl dX2_add_56 (fun σ4 => ?_)
      refine sw_aloadn (pc := 59) 0 0 C dX2_add_59 rfl ?_
      refine sw_getI (pc := 60) C kfX2_9 sh26 rfl dX2_add_60 ?_
      refine sw_iconst (pc := 63) (v := 1) C dX2_add_63 (by decide) ?_
      refine sw_isub (pc := 64) C dX2_add_64 ?_
      exact sw_reti (pc := 65) C M dX2_add_65
    · refine sw_bipush (pc := 16) (v := (-4)) C dX2_add_16 (by decide) ?_
      exact sw_reti (pc := 18) C M dX2_add_18
set_option maxRecDepth 100000 in
set_option maxHeartbeats 4000000 in
theorem mX6_has {c : Nat} (hc : sw_saw c) (a0 : Int32) : sw_Ki yX6_has cX6_has 2 (some .boolean) 1 (fun ad => [.ref (ad c), .int a0]) (fX6_has c a0) := by
  refine sw_enteri (by decide) (fun ad => Nat.le_of_ble_eq_true rfl) (fun X ad t σ C hn M => ?_)
  change sw_J X ad t 0 [(0, .ref (ad c)), (1, .int a0)] [] σ _
  replace C : sw_C X ad cX6_has RX6 1 := C
  unfold fX6_has
  refine sw_iloadn (pc := 0) 1 1 C dX6_has_0 rfl ?_
  refine sw_if_lt (pc := 1) 22 C dX6_has_1 (by decide) ?_ ?_
  · refine sw_iconst (pc := 22) (v := 0) C dX6_has_22 (by decide) ?_
    exact sw_retiz (pc := 23) rfl C M dX6_has_23
  · refine sw_iloadn (pc := 4) 1 1 C dX6_has_4 rfl ?_
    refine sw_aloadn (pc := 5) 0 0 C dX6_has_5 rfl ?_
    refine sw_getI (pc := 6) C kfX6_9 hc.1 rfl dX6_has_6 ?_
    refine sw_icmp_ge (pc := 9) 22 C dX6_has_9 (by decide) ?_ ?_
    · refine sw_iconst (pc := 22) (v := 0) C dX6_has_22 (by decide) ?_
      exact sw_retiz (pc := 23) rfl C M dX6_has_23
    · refine sw_iloadn (pc := 12) 1 1 C dX6_has_12 rfl ?_
      refine sw_bipush (pc := 13) (v := 8) C dX6_has_13 (by decide) ?_
      refine sw_icmp_ge (pc := 15) 22 C dX6_has_15 (by decide) ?_ ?_
      · refine sw_iconst (pc := 22) (v := 0) C dX6_has_22 (by decide) ?_
        exact sw_retiz (pc := 23) rfl C M dX6_has_23
      · refine sw_iconst (pc := 18) (v := 1) C dX6_has_18 (by decide) ?_
        refine sw_goto (pc := 19) 23 C dX6_has_19 (by decide) ?_
        exact sw_retiz (pc := 23) rfl C M dX6_has_23
set_option maxRecDepth 100000 in
set_option maxHeartbeats 4000000 in
theorem mX6_isSize   (a0 : Int32) : sw_Ki yX6_isSize cX6_isSize 1 (some .boolean) 1 (fun ad => [.int a0]) (fX6_isSize a0) := by
  refine sw_enteri (by decide) (fun ad => Nat.le_of_ble_eq_true rfl) (fun X ad t σ C hn M => ?_)
  change sw_J X ad t 0 [(0, .int a0)] [] σ _
  replace C : sw_C X ad cX6_isSize RX6 1 := C
  unfold fX6_isSize
  refine sw_iloadn (pc := 0) 0 0 C dX6_isSize_0 rfl ?_
  refine sw_if_lt (pc := 1) 13 C dX6_isSize_1 (by decide) ?_ ?_
  · refine sw_iconst (pc := 13) (v := 0) C dX6_isSize_13 (by decide) ?_
    exact sw_retiz (pc := 14) rfl C M dX6_isSize_14
  · refine sw_iloadn (pc := 4) 0 0 C dX6_isSize_4 rfl ?_
    refine sw_iconst (pc := 5) (v := 2) C dX6_isSize_5 (by decide) ?_
    refine sw_icmp_gt (pc := 6) 13 C dX6_isSize_6 (by decide) ?_ ?_
    · refine sw_iconst (pc := 13) (v := 0) C dX6_isSize_13 (by decide) ?_
      exact sw_retiz (pc := 14) rfl C M dX6_isSize_14
    · refine sw_iconst (pc := 9) (v := 1) C dX6_isSize_9 (by decide) ?_
      refine sw_goto (pc := 10) 14 C dX6_isSize_10 (by decide) ?_
      exact sw_retiz (pc := 14) rfl C M dX6_isSize_14
set_option maxRecDepth 100000 in
set_option maxHeartbeats 4000000 in
theorem mX6_change {c : Nat} (hc : sw_saw c) (a0 : Int32) (a1 : Int32) (a2 : Int32) : sw_Kv yX6_change cX6_change 4 none 2 (fun ad => [.ref (ad c), .int a0, .int a1, .int a2]) (fX6_change c a0 a1 a2) := by
  refine sw_enterv (by decide) (fun ad => Nat.le_of_ble_eq_true rfl) (fun X ad t σ C hn M => ?_)
  change sw_J X ad t 0 [(0, .ref (ad c)), (1, .int a0), (2, .int a1), (3, .int a2)] [] σ _
  replace C : sw_C X ad cX6_change RX6 2 := C
  unfold fX6_change
  refine sw_aloadn (pc := 0) 0 0 C dX6_change_0 rfl ?_
  refine sw_iloadn (pc := 1) 1 1 C dX6_change_1 rfl ?_
  refine sw_callVi (pc := 2) C (mX6_has hc a0) sgX6_has mlX6_25 dX6_change_2 (by decide) [.int a0] [] hc.1 rfl rfl rfl rfl (Nat.le_of_ble_eq_true rfl) (fun r1 σ2 => ?_)
  refine sw_if_eq (pc := 5) 26 C dX6_change_5 (by decide) ?_ ?_
  · exact sw_retv (pc := 26) C M dX6_change_26
  · refine sw_iloadn (pc := 8) 2 2 C dX6_change_8 rfl ?_
    refine sw_callSi (pc := 9) C (mX6_isSize a1) sgX6_isSize mlX6_29 dX6_change_9 (by decide) [.int a1] [] rfl rfl rfl (Nat.le_of_ble_eq_true rfl) (fun r3 σ4 => ?_)
    refine sw_if_eq (pc := 12) 26 C dX6_change_12 (by decide) ?_ ?_
    · exact sw_retv (pc := 26) C M dX6_change_26
    · refine sw_aloadn (pc := 15) 0 0 C dX6_change_15 rfl ?_
      refine sw_getR (pc := 16) C kfX6_22 hc.1 rfl dX6_change_16 ?_
      refine sw_iloadn (pc := 19) 1 1 C dX6_change_19 rfl ?_
      refine sw_iconst (pc := 20) (v := 3) C dX6_change_20 (by decide) ?_
      refine sw_imul (pc := 21) C dX6_change_21 ?_
      refine sw_iloadn (pc := 22) 2 2 C dX6_change_22 rfl ?_
      refine sw_iadd (pc := 23) C dX6_change_23 ?_
      refine sw_iloadn (pc := 24) 3 3 C dX6_change_24 rfl ?_
      refine sw_iastL (pc := 25) C hc.2.2.2 dX6_change_25 (fun σ5 => ?_)
      exact sw_retv (pc := 26) C M dX6_change_26
set_option maxRecDepth 100000 in
set_option maxHeartbeats 4000000 in
theorem jX2_applyTo_B38 {X : sw_X} {ad : Nat → Nat} {t : Unit × sw_St} (C : sw_C X ad cX2_applyTo RX2 3) (hn : sw_nL X = 4) (M : sw_Mv X ad none t) {c : Nat} (hc : sw_saw c) {K2 : Int32 → Int32 → sw_St → Option (Unit × sw_St)} (hK2 : ∀ (z2 : Int32) (z3 : Int32) (τ : sw_St), sw_J X ad t 2 [(0, .ref (ad 26)), (1, .ref (ad c)), (2, .int z2), (3, .int z3)] [] τ (K2 z2 z3 τ)) (v2 : Int32) (v3 : Int32) (σ : sw_St) : sw_J X ad t 38 [(0, .ref (ad 26)), (1, .ref (ad c)), (2, .int v2), (3, .int v3)] [] σ (fX2_applyTo_B38 K2 c v2 v3 σ) := by
  unfold fX2_applyTo_B38
  refine sw_iinc (pc := 38) (v3 + 1) 3 [(3, .int (v3 + 1)), (0, .ref (ad 26)), (1, .ref (ad c)), (2, .int v2)] C dX2_applyTo_38 (by rw [hn]; decide) rfl rfl rfl ?_
  refine sw_goto (pc := 41) 2 C dX2_applyTo_41 (by decide) ?_
  refine sw_lpick (pc := 2) (L' := [(0, .ref (ad 26)), (1, .ref (ad c)), (2, .int v2), (3, .int (v3 + 1))]) [1, 2, 3, 0] rfl ?_
  exact hK2 _ _ _
set_option maxRecDepth 100000 in
set_option maxHeartbeats 4000000 in
theorem jX2_applyTo_L2 {X : sw_X} {ad : Nat → Nat} {t : Unit × sw_St} (C : sw_C X ad cX2_applyTo RX2 3) (hn : sw_nL X = 4) (M : sw_Mv X ad none t) {c : Nat} (hc : sw_saw c) : ∀ (n : Nat) (v2 : Int32) (v3 : Int32) (σ : sw_St), sw_J X ad t 2 [(0, .ref (ad 26)), (1, .ref (ad c)), (2, .int v2), (3, .int v3)] [] σ (fX2_applyTo_L2 c n v2 v3 σ) := by
  intro n
  induction n with
  | zero => exact fun _ _ _ => sw_none
  | succ n ih =>
    intro v2 v3 σ
    unfold fX2_applyTo_L2
    refine sw_iloadn (pc := 2) 3 3 C dX2_applyTo_2 rfl ?_
    refine sw_aloadn (pc := 3) 0 0 C dX2_applyTo_3 rfl ?_
    refine sw_getI (pc := 4) C kfX2_9 sh26 rfl dX2_applyTo_4 ?_
    refine sw_icmp_ge (pc := 7) 44 C dX2_applyTo_7 (by decide) ?_ ?_
    · exact sw_retv (pc := 44) C M dX2_applyTo_44
    · refine sw_iloadn (pc := 10) 2 2 C dX2_applyTo_10 rfl ?_
      refine sw_iloadn (pc := 11) 3 3 C dX2_applyTo_11 rfl ?_
      refine sw_ishr (pc := 12) C dX2_applyTo_12 ?_
      refine sw_iconst (pc := 13) (v := 1) C dX2_applyTo_13 (by decide) ?_
      refine sw_iand (pc := 14) C dX2_applyTo_14 ?_
      refine sw_iconst (pc := 15) (v := 1) C dX2_applyTo_15 (by decide) ?_
      refine sw_icmp_ne (pc := 16) 38 C dX2_applyTo_16 (by decide) ?_ ?_
      · exact jX2_applyTo_B38 C hn M hc ih _ _ _
      · refine sw_aloadn (pc := 19) 1 1 C dX2_applyTo_19 rfl ?_
        refine sw_aloadn (pc := 20) 0 0 C dX2_applyTo_20 rfl ?_
        refine sw_iloadn (pc := 21) 3 3 C dX2_applyTo_21 rfl ?_
        refine sw_callVi (pc := 22) C (mX2_toothOf v3) sgX2_toothOf mlX2_29 dX2_applyTo_22 (by decide) [.int v3] [.ref (ad c)] sh26 rfl rfl rfl rfl (Nat.le_of_ble_eq_true rfl) (fun r1 σ2 => ?_)
        refine sw_aloadn (pc := 25) 0 0 C dX2_applyTo_25 rfl ?_
        refine sw_iloadn (pc := 26) 3 3 C dX2_applyTo_26 rfl ?_
        refine sw_callVi (pc := 27) C (mX2_whatOf v3) sgX2_whatOf mlX2_33 dX2_applyTo_27 (by decide) [.int v3] [.int r1, .ref (ad c)] sh26 rfl rfl rfl rfl (Nat.le_of_ble_eq_true rfl) (fun r3 σ4 => ?_)
        refine sw_aloadn (pc := 30) 0 0 C dX2_applyTo_30 rfl ?_
        refine sw_iloadn (pc := 31) 3 3 C dX2_applyTo_31 rfl ?_
        refine sw_callVi (pc := 32) C (mX2_valueOf v3) sgX2_valueOf mlX2_36 dX2_applyTo_32 (by decide) [.int v3] [.int r3, .int r1, .ref (ad c)] sh26 rfl rfl rfl rfl (Nat.le_of_ble_eq_true rfl) (fun r5 σ6 => ?_)
        refine sw_callVv (pc := 35) C (mX6_change hc r1 r3 r5) sgX6_change mlX2_39 dX2_applyTo_35 (by decide) [.int r1, .int r3, .int r5] [] hc.1 rfl rfl rfl rfl (Nat.le_of_ble_eq_true rfl) (fun r7 σ8 => ?_)
        exact jX2_applyTo_B38 C hn M hc ih _ _ _
set_option maxRecDepth 100000 in
set_option maxHeartbeats 4000000 in
theorem mX2_applyTo {c : Nat} (hc : sw_saw c) (a1 : Int32) : sw_Kv yX2_applyTo cX2_applyTo 4 none 3 (fun ad => [.ref (ad 26), .ref (ad c), .int a1]) (fX2_applyTo c a1) := by
  refine sw_enterv (by decide) (fun ad => Nat.le_of_ble_eq_true rfl) (fun X ad t σ C hn M => ?_)
  change sw_J X ad t 0 [(0, .ref (ad 26)), (1, .ref (ad c)), (2, .int a1)] [] σ _
  replace C : sw_C X ad cX2_applyTo RX2 3 := C
  unfold fX2_applyTo
  refine sw_iconst (pc := 0) (v := 0) C dX2_applyTo_0 (by decide) ?_
  refine sw_istoren (pc := 1) 3 [(3, .int 0), (0, .ref (ad 26)), (1, .ref (ad c)), (2, .int a1)] C dX2_applyTo_1 (by rw [hn]; decide) rfl ?_
  refine sw_lpick (pc := 2) (L' := [(0, .ref (ad 26)), (1, .ref (ad c)), (2, .int a1), (3, .int 0)]) [1, 2, 3, 0] rfl ?_
  exact jX2_applyTo_L2 C hn M hc _ _ _ _
set_option maxRecDepth 100000 in
set_option maxHeartbeats 4000000 in
theorem mX3_become {c c1 : Nat} (hc : sw_hand c) (hc1 : sw_hand c1)  : sw_Kv yX3_become cX3_become 2 none 1 (fun ad => [.ref (ad c), .ref (ad c1)]) (fX3_become c c1) := by
  refine sw_enterv (by decide) (fun ad => Nat.le_of_ble_eq_true rfl) (fun X ad t σ C hn M => ?_)
  change sw_J X ad t 0 [(0, .ref (ad c)), (1, .ref (ad c1))] [] σ _
  replace C : sw_C X ad cX3_become RX3 1 := C
  unfold fX3_become
  refine sw_aloadn (pc := 0) 0 0 C dX3_become_0 rfl ?_
  refine sw_aloadn (pc := 1) 1 1 C dX3_become_1 rfl ?_
  refine sw_getI (pc := 2) C kfX3_7 hc1 rfl dX3_become_2 ?_
  refine sw_putL (pc := 5) C kpX3_7 hc rfl dX3_become_5 (fun σ1 => ?_)
  refine sw_aloadn (pc := 8) 0 0 C dX3_become_8 rfl ?_
  refine sw_aloadn (pc := 9) 1 1 C dX3_become_9 rfl ?_
  refine sw_getI (pc := 10) C kfX3_13 hc1 rfl dX3_become_10 ?_
  refine sw_putL (pc := 13) C kpX3_13 hc rfl dX3_become_13 (fun σ2 => ?_)
  refine sw_aloadn (pc := 16) 0 0 C dX3_become_16 rfl ?_
  refine sw_aloadn (pc := 17) 1 1 C dX3_become_17 rfl ?_
  refine sw_getI (pc := 18) C kfX3_16 hc1 rfl dX3_become_18 ?_
  refine sw_putL (pc := 21) C kpX3_16 hc rfl dX3_become_21 (fun σ3 => ?_)
  refine sw_aloadn (pc := 24) 0 0 C dX3_become_24 rfl ?_
  refine sw_aloadn (pc := 25) 1 1 C dX3_become_25 rfl ?_
  refine sw_getI (pc := 26) C kfX3_19 hc1 rfl dX3_become_26 ?_
  refine sw_putL (pc := 29) C kpX3_19 hc rfl dX3_become_29 (fun σ4 => ?_)
  exact sw_retv (pc := 32) C M dX3_become_32
set_option maxRecDepth 100000 in
set_option maxHeartbeats 4000000 in
theorem mX4_costOf   (a0 : Int32) : sw_Ki yX4_costOf cX4_costOf 1 (some .int) 1 (fun ad => [.int a0]) (fX4_costOf a0) := by
  refine sw_enteri (by decide) (fun ad => Nat.le_of_ble_eq_true rfl) (fun X ad t σ C hn M => ?_)
  change sw_J X ad t 0 [(0, .int a0)] [] σ _
  replace C : sw_C X ad cX4_costOf RX4 1 := C
  unfold fX4_costOf
  refine sw_iloadn (pc := 0) 0 0 C dX4_costOf_0 rfl ?_
  refine sw_iconst (pc := 1) (v := 4) C dX4_costOf_1 (by decide) ?_
  refine sw_iremc (pc := 2) C dX4_costOf_2 (by decide) ?_
  refine sw_ite (fun h1 => ?_) (fun h1 => ?_)
  · refine sw_look (pc := 3) (off := 25) 28 C dX4_costOf_3 (by decide) (by rw [h1]; rfl) (by decide) ?_
    refine sw_iconst (pc := 28) (v := 2) C dX4_costOf_28 (by decide) ?_
    exact sw_reti (pc := 29) C M dX4_costOf_29
  · skip
    refine sw_ite (fun h2 => ?_) (fun h2 => ?_)
    · refine sw_look (pc := 3) (off := 27) 30 C dX4_costOf_3 (by decide) (by rw [h2]; rfl) (by decide) ?_
      refine sw_iconst (pc := 30) (v := 4) C dX4_costOf_30 (by decide) ?_
      exact sw_reti (pc := 31) C M dX4_costOf_31
    · skip
      refine sw_look (pc := 3) (off := 29) 32 C dX4_costOf_3 (by decide) (by show Op.lookupswitch.offset [(0, 25), (3, 27)] _ _ = _; rw [lv_osw h1 (by decide)]; rw [lv_osw h2 (by decide)]; rfl) (by decide) ?_
      refine sw_iconst (pc := 32) (v := 1) C dX4_costOf_32 (by decide) ?_
      exact sw_reti (pc := 33) C M dX4_costOf_33
set_option maxRecDepth 100000 in
set_option maxHeartbeats 4000000 in
theorem mX4_toldNumber   (a0 : Int32) : sw_Ki yX4_toldNumber cX4_toldNumber 1 (some .int) 1 (fun ad => [.int a0]) (fX4_toldNumber a0) := by
  refine sw_enteri (by decide) (fun ad => Nat.le_of_ble_eq_true rfl) (fun X ad t σ C hn M => ?_)
  change sw_J X ad t 0 [(0, .int a0)] [] σ _
  replace C : sw_C X ad cX4_toldNumber RX4 1 := C
  unfold fX4_toldNumber
  refine sw_bipush (pc := 0) (v := 10) C dX4_toldNumber_0 (by decide) ?_
  refine sw_iloadn (pc := 2) 0 0 C dX4_toldNumber_2 rfl ?_
  refine sw_iconst (pc := 3) (v := 4) C dX4_toldNumber_3 (by decide) ?_
  refine sw_idivc (pc := 4) C dX4_toldNumber_4 (by decide) ?_
  refine sw_imul (pc := 5) C dX4_toldNumber_5 ?_
  refine sw_iloadn (pc := 6) 0 0 C dX4_toldNumber_6 rfl ?_
  refine sw_iconst (pc := 7) (v := 4) C dX4_toldNumber_7 (by decide) ?_
  refine sw_iremc (pc := 8) C dX4_toldNumber_8 (by decide) ?_
  refine sw_iadd (pc := 9) C dX4_toldNumber_9 ?_
  exact sw_reti (pc := 10) C M dX4_toldNumber_10
set_option maxRecDepth 100000 in
set_option maxHeartbeats 4000000 in
theorem mX4_forget    : sw_Kv yX4_forget cX4_forget 1 none 1 (fun ad => [.ref (ad 33)]) fX4_forget := by
  refine sw_enterv (by decide) (fun ad => Nat.le_of_ble_eq_true rfl) (fun X ad t σ C hn M => ?_)
  change sw_J X ad t 0 [(0, .ref (ad 33))] [] σ _
  replace C : sw_C X ad cX4_forget RX4 1 := C
  unfold fX4_forget
  refine sw_aloadn (pc := 0) 0 0 C dX4_forget_0 rfl ?_
  refine sw_bipush (pc := 1) (v := (-9)) C dX4_forget_1 (by decide) ?_
  refine sw_putL (pc := 3) C kpX4_9 sh33 rfl dX4_forget_3 (fun σ1 => ?_)
  refine sw_aloadn (pc := 6) 0 0 C dX4_forget_6 rfl ?_
  refine sw_bipush (pc := 7) (v := (-9)) C dX4_forget_7 (by decide) ?_
  refine sw_putL (pc := 9) C kpX4_15 sh33 rfl dX4_forget_9 (fun σ2 => ?_)
  refine sw_aloadn (pc := 12) 0 0 C dX4_forget_12 rfl ?_
  refine sw_bipush (pc := 13) (v := (-9)) C dX4_forget_13 (by decide) ?_
  refine sw_putL (pc := 15) C kpX4_18 sh33 rfl dX4_forget_15 (fun σ3 => ?_)
  refine sw_aloadn (pc := 18) 0 0 C dX4_forget_18 rfl ?_
  refine sw_bipush (pc := 19) (v := (-9)) C dX4_forget_19 (by decide) ?_
  refine sw_putL (pc := 21) C kpX4_21 sh33 rfl dX4_forget_21 (fun σ4 => ?_)
  exact sw_retv (pc := 24) C M dX4_forget_24
set_option maxRecDepth 100000 in
set_option maxHeartbeats 4000000 in
theorem mX4_isCheaper   (a0 : Int32) : sw_Ki yX4_isCheaper cX4_isCheaper 2 (some .boolean) 1 (fun ad => [.ref (ad 33), .int a0]) (fX4_isCheaper a0) := by
  refine sw_enteri (by decide) (fun ad => Nat.le_of_ble_eq_true rfl) (fun X ad t σ C hn M => ?_)
  change sw_J X ad t 0 [(0, .ref (ad 33)), (1, .int a0)] [] σ _
  replace C : sw_C X ad cX4_isCheaper RX4 1 := C
  unfold fX4_isCheaper
  refine sw_aloadn (pc := 0) 0 0 C dX4_isCheaper_0 rfl ?_
  refine sw_getI (pc := 1) C kfX4_15 sh33 rfl dX4_isCheaper_1 ?_
  refine sw_bipush (pc := 4) (v := (-9)) C dX4_isCheaper_4 (by decide) ?_
  refine sw_icmp_eq (pc := 6) 17 C dX4_isCheaper_6 (by decide) ?_ ?_
  · refine sw_iconst (pc := 17) (v := 1) C dX4_isCheaper_17 (by decide) ?_
    refine sw_goto (pc := 18) 22 C dX4_isCheaper_18 (by decide) ?_
    exact sw_retiz (pc := 22) rfl C M dX4_isCheaper_22
  · refine sw_iloadn (pc := 9) 1 1 C dX4_isCheaper_9 rfl ?_
    refine sw_aloadn (pc := 10) 0 0 C dX4_isCheaper_10 rfl ?_
    refine sw_getI (pc := 11) C kfX4_15 sh33 rfl dX4_isCheaper_11 ?_
    refine sw_icmp_ge (pc := 14) 21 C dX4_isCheaper_14 (by decide) ?_ ?_
    · refine sw_iconst (pc := 21) (v := 0) C dX4_isCheaper_21 (by decide) ?_
      exact sw_retiz (pc := 22) rfl C M dX4_isCheaper_22
    · refine sw_iconst (pc := 17) (v := 1) C dX4_isCheaper_17 (by decide) ?_
      refine sw_goto (pc := 18) 22 C dX4_isCheaper_18 (by decide) ?_
      exact sw_retiz (pc := 22) rfl C M dX4_isCheaper_22
set_option maxRecDepth 100000 in
set_option maxHeartbeats 4000000 in
theorem mX4_keepNoAct    : sw_Kv yX4_keepNoAct cX4_keepNoAct 1 none 1 (fun ad => [.ref (ad 33)]) fX4_keepNoAct := by
  refine sw_enterv (by decide) (fun ad => Nat.le_of_ble_eq_true rfl) (fun X ad t σ C hn M => ?_)
  change sw_J X ad t 0 [(0, .ref (ad 33))] [] σ _
  replace C : sw_C X ad cX4_keepNoAct RX4 1 := C
  unfold fX4_keepNoAct
  refine sw_aloadn (pc := 0) 0 0 C dX4_keepNoAct_0 rfl ?_
  refine sw_iconst (pc := 1) (v := 0) C dX4_keepNoAct_1 (by decide) ?_
  refine sw_putL (pc := 2) C kpX4_9 sh33 rfl dX4_keepNoAct_2 (fun σ1 => ?_)
  refine sw_aloadn (pc := 5) 0 0 C dX4_keepNoAct_5 rfl ?_
  refine sw_iconst (pc := 6) (v := 0) C dX4_keepNoAct_6 (by decide) ?_
  refine sw_putL (pc := 7) C kpX4_15 sh33 rfl dX4_keepNoAct_7 (fun σ2 => ?_)
  exact sw_retv (pc := 10) C M dX4_keepNoAct_10
set_option maxRecDepth 100000 in
set_option maxHeartbeats 4000000 in
theorem mX4_keepOneAct   (a0 : Int32) : sw_Kv yX4_keepOneAct cX4_keepOneAct 2 none 2 (fun ad => [.ref (ad 33), .int a0]) (fX4_keepOneAct a0) := by
  refine sw_enterv (by decide) (fun ad => Nat.le_of_ble_eq_true rfl) (fun X ad t σ C hn M => ?_)
  change sw_J X ad t 0 [(0, .ref (ad 33)), (1, .int a0)] [] σ _
  replace C : sw_C X ad cX4_keepOneAct RX4 2 := C
  unfold fX4_keepOneAct
  refine sw_aloadn (pc := 0) 0 0 C dX4_keepOneAct_0 rfl ?_
  refine sw_iconst (pc := 1) (v := 1) C dX4_keepOneAct_1 (by decide) ?_
  refine sw_putL (pc := 2) C kpX4_9 sh33 rfl dX4_keepOneAct_2 (fun σ1 => ?_)
  refine sw_aloadn (pc := 5) 0 0 C dX4_keepOneAct_5 rfl ?_
  refine sw_iloadn (pc := 6) 1 1 C dX4_keepOneAct_6 rfl ?_
  refine sw_callSi (pc := 7) C (mX4_costOf a0) sgX4_costOf mlX4_24 dX4_keepOneAct_7 (by decide) [.int a0] [.ref (ad 33)] rfl rfl rfl (Nat.le_of_ble_eq_true rfl) (fun r2 σ3 => ?_)
  refine sw_putL (pc := 10) C kpX4_15 sh33 rfl dX4_keepOneAct_10 (fun σ4 => ?_)
  refine sw_aloadn (pc := 13) 0 0 C dX4_keepOneAct_13 rfl ?_
  refine sw_iloadn (pc := 14) 1 1 C dX4_keepOneAct_14 rfl ?_
  refine sw_callSi (pc := 15) C (mX4_toldNumber a0) sgX4_toldNumber mlX4_28 dX4_keepOneAct_15 (by decide) [.int a0] [.ref (ad 33)] rfl rfl rfl (Nat.le_of_ble_eq_true rfl) (fun r5 σ6 => ?_)
  refine sw_putL (pc := 18) C kpX4_18 sh33 rfl dX4_keepOneAct_18 (fun σ7 => ?_)
  exact sw_retv (pc := 21) C M dX4_keepOneAct_21
set_option maxRecDepth 100000 in
set_option maxHeartbeats 4000000 in
theorem mX4_keepTwoActs   (a0 : Int32) (a1 : Int32) : sw_Kv yX4_keepTwoActs cX4_keepTwoActs 3 none 2 (fun ad => [.ref (ad 33), .int a0, .int a1]) (fX4_keepTwoActs a0 a1) := by
  refine sw_enterv (by decide) (fun ad => Nat.le_of_ble_eq_true rfl) (fun X ad t σ C hn M => ?_)
  change sw_J X ad t 0 [(0, .ref (ad 33)), (1, .int a0), (2, .int a1)] [] σ _
  replace C : sw_C X ad cX4_keepTwoActs RX4 2 := C
  unfold fX4_keepTwoActs
  refine sw_aloadn (pc := 0) 0 0 C dX4_keepTwoActs_0 rfl ?_
  refine sw_iconst (pc := 1) (v := 2) C dX4_keepTwoActs_1 (by decide) ?_
  refine sw_putL (pc := 2) C kpX4_9 sh33 rfl dX4_keepTwoActs_2 (fun σ1 => ?_)
  refine sw_aloadn (pc := 5) 0 0 C dX4_keepTwoActs_5 rfl ?_
  refine sw_iloadn (pc := 6) 1 1 C dX4_keepTwoActs_6 rfl ?_
  refine sw_callSi (pc := 7) C (mX4_costOf a0) sgX4_costOf mlX4_24 dX4_keepTwoActs_7 (by decide) [.int a0] [.ref (ad 33)] rfl rfl rfl (Nat.le_of_ble_eq_true rfl) (fun r2 σ3 => ?_)
  refine sw_iloadn (pc := 10) 2 2 C dX4_keepTwoActs_10 rfl ?_
  refine sw_callSi (pc := 11) C (mX4_costOf a1) sgX4_costOf mlX4_24 dX4_keepTwoActs_11 (by decide) [.int a1] [.int r2, .ref (ad 33)] rfl rfl rfl (Nat.le_of_ble_eq_true rfl) (fun r4 σ5 => ?_)
  refine sw_iadd (pc := 14) C dX4_keepTwoActs_14 ?_
  refine sw_putL (pc := 15) C kpX4_15 sh33 rfl dX4_keepTwoActs_15 (fun σ6 => ?_)
  refine sw_aloadn (pc := 18) 0 0 C dX4_keepTwoActs_18 rfl ?_
  refine sw_iloadn (pc := 19) 1 1 C dX4_keepTwoActs_19 rfl ?_
  refine sw_callSi (pc := 20) C (mX4_toldNumber a0) sgX4_toldNumber mlX4_28 dX4_keepTwoActs_20 (by decide) [.int a0] [.ref (ad 33)] rfl rfl rfl (Nat.le_of_ble_eq_true rfl) (fun r7 σ8 => ?_)
  refine sw_putL (pc := 23) C kpX4_18 sh33 rfl dX4_keepTwoActs_23 (fun σ9 => ?_)
  refine sw_aloadn (pc := 26) 0 0 C dX4_keepTwoActs_26 rfl ?_
  refine sw_iloadn (pc := 27) 2 2 C dX4_keepTwoActs_27 rfl ?_
  refine sw_callSi (pc := 28) C (mX4_toldNumber a1) sgX4_toldNumber mlX4_28 dX4_keepTwoActs_28 (by decide) [.int a1] [.ref (ad 33)] rfl rfl rfl (Nat.le_of_ble_eq_true rfl) (fun r10 σ11 => ?_)
  refine sw_putL (pc := 31) C kpX4_21 sh33 rfl dX4_keepTwoActs_31 (fun σ12 => ?_)
  exact sw_retv (pc := 34) C M dX4_keepTwoActs_34
set_option maxRecDepth 100000 in
set_option maxHeartbeats 4000000 in
theorem mX5_add   (a0 : Int32) (a1 : Int32) : sw_Ki yX5_add cX5_add 3 (some .int) 1 (fun ad => [.ref (ad 30), .int a0, .int a1]) (fX5_add a0 a1) := by
  refine sw_enteri (by decide) (fun ad => Nat.le_of_ble_eq_true rfl) (fun X ad t σ C hn M => ?_)
  change sw_J X ad t 0 [(0, .ref (ad 30)), (1, .int a0), (2, .int a1)] [] σ _
  replace C : sw_C X ad cX5_add RX5 1 := C
  unfold fX5_add
  refine sw_aloadn (pc := 0) 0 0 C dX5_add_0 rfl ?_
  refine sw_getI (pc := 1) C kfX5_9 sh30 rfl dX5_add_1 ?_
  refine sw_if_lt (pc := 4) 16 C dX5_add_4 (by decide) ?_ ?_
  · refine sw_bipush (pc := 16) (v := (-4)) C dX5_add_16 (by decide) ?_
    exact sw_reti (pc := 18) C M dX5_add_18
  · refine sw_aloadn (pc := 7) 0 0 C dX5_add_7 rfl ?_
    refine sw_getI (pc := 8) C kfX5_9 sh30 rfl dX5_add_8 ?_
    refine sw_bipush (pc := 11) (v := 8) C dX5_add_11 (by decide) ?_
    refine sw_icmp_lt (pc := 13) 19 C dX5_add_13 (by decide) ?_ ?_
    · refine sw_aloadn (pc := 19) 0 0 C dX5_add_19 rfl ?_
      refine sw_getR (pc := 20) C kfX5_15 sh30 rfl dX5_add_20 ?_
      refine sw_aloadn (pc := 23) 0 0 C dX5_add_23 rfl ?_
      refine sw_getI (pc := 24) C kfX5_9 sh30 rfl dX5_add_24 ?_
      refine sw_iloadn (pc := 27) 1 1 C dX5_add_27 rfl ?_
      refine sw_iastL (pc := 28) C sh31 dX5_add_28 (fun σ1 => ?_)
      refine sw_aloadn (pc := 29) 0 0 C dX5_add_29 rfl ?_
      refine sw_getR (pc := 30) C kfX5_19 sh30 rfl dX5_add_30 ?_
      refine sw_aloadn (pc := 33) 0 0 C dX5_add_33 rfl ?_
      refine sw_getI (pc := 34) C kfX5_9 sh30 rfl dX5_add_34 ?_
      refine sw_iloadn (pc := 37) 2 2 C dX5_add_37 rfl ?_
      refine sw_iastL (pc := 38) C sh32 dX5_add_38 (fun σ2 => ?_)
      refine sw_aloadn (pc := 39) 0 0 C dX5_add_39 rfl ?_
      refine sw_dup (pc := 40) C dX5_add_40 rfl ?_
      refine sw_getI (pc := 41) C kfX5_9 sh30 rfl dX5_add_41 ?_
      refine sw_iconst (pc := 44) (v := 1) C dX5_add_44 (by decide) ?_
      refine sw_iadd (pc := 45) C dX5_add_45 ?_
      refine sw_putL (pc := 46) C kpX5_9 sh30 rfl dX5_add_46 (fun σ3 => ?_)
      refine sw_aloadn (pc := 49) 0 0 C dX5_add_49 rfl ?_
      refine sw_getI (pc := 50) C kfX5_9 sh30 rfl dX5_add_50 ?_
      refine sw_iconst (pc := 53) (v := 1) C dX5_add_53 (by decide) ?_
      refine sw_isub (pc := 54) C dX5_add_54 ?_
      exact sw_reti (pc := 55) C M dX5_add_55
    · refine sw_bipush (pc := 16) (v := (-4)) C dX5_add_16 (by decide) ?_
      exact sw_reti (pc := 18) C M dX5_add_18
set_option maxRecDepth 100000 in
set_option maxHeartbeats 4000000 in
theorem jX5_areSo_L2 {X : sw_X} {ad : Nat → Nat} {t : Int32 × sw_St} (C : sw_C X ad cX5_areSo RX5 2) (hn : sw_nL X = 4) (M : sw_Mi X ad (some .boolean) t)   : ∀ (n : Nat) (v2 : Int32) (σ : sw_St), sw_J X ad t 2 [(0, .ref (ad 30)), (1, .ref (ad 23)), (2, .int v2)] [] σ (fX5_areSo_L2  n v2 σ) := by
  intro n
  induction n with
  | zero => exact fun _ _ => sw_none
  | succ n ih =>
    intro v2 σ
    unfold fX5_areSo_L2
    refine sw_iloadn (pc := 2) 2 2 C dX5_areSo_2 rfl ?_
    refine sw_aloadn (pc := 3) 0 0 C dX5_areSo_3 rfl ?_
    refine sw_getI (pc := 4) C kfX5_9 sh30 rfl dX5_areSo_4 ?_
    refine sw_icmp_ge (pc := 7) 53 C dX5_areSo_7 (by decide) ?_ ?_
    · refine sw_iconst (pc := 53) (v := 1) C dX5_areSo_53 (by decide) ?_
      exact sw_retiz (pc := 54) rfl C M dX5_areSo_54
    · refine sw_iloadn (pc := 10) 2 2 C dX5_areSo_10 rfl ?_
      refine sw_bipush (pc := 11) (v := 8) C dX5_areSo_11 (by decide) ?_
      refine sw_icmp_ge (pc := 13) 53 C dX5_areSo_13 (by decide) ?_ ?_
      · refine sw_iconst (pc := 53) (v := 1) C dX5_areSo_53 (by decide) ?_
        exact sw_retiz (pc := 54) rfl C M dX5_areSo_54
      · refine sw_aloadn (pc := 16) 0 0 C dX5_areSo_16 rfl ?_
        refine sw_getR (pc := 17) C kfX5_15 sh30 rfl dX5_areSo_17 ?_
        refine sw_iloadn (pc := 20) 2 2 C dX5_areSo_20 rfl ?_
        refine sw_iald (pc := 21) C sh31 dX5_areSo_21 ?_
        refine sw_leti (fun x1 => ?_)
        refine sw_istoren (pc := 22) 3 [(3, .int x1), (0, .ref (ad 30)), (1, .ref (ad 23)), (2, .int v2)] C dX5_areSo_22 (by rw [hn]; decide) rfl ?_
        refine sw_iloadn (pc := 23) 3 0 C dX5_areSo_23 rfl ?_
        refine sw_aloadn (pc := 24) 1 2 C dX5_areSo_24 rfl ?_
        refine sw_getI (pc := 25) C kfX5_22 sh23 rfl dX5_areSo_25 ?_
        refine sw_icmp_ge (pc := 28) 45 C dX5_areSo_28 (by decide) ?_ ?_
        · refine sw_iconst (pc := 45) (v := 0) C dX5_areSo_45 (by decide) ?_
          exact sw_retiz (pc := 46) rfl C M dX5_areSo_46
        · refine sw_aloadn (pc := 31) 1 2 C dX5_areSo_31 rfl ?_
          refine sw_iloadn (pc := 32) 3 0 C dX5_areSo_32 rfl ?_
          refine sw_callVi (pc := 33) C (mX1_placeBehind x1) sgX1_placeBehind mlX5_27 dX5_areSo_33 (by decide) [.int x1] [] sh23 rfl rfl rfl rfl (Nat.le_of_ble_eq_true rfl) (fun r2 σ3 => ?_)
          refine sw_aloadn (pc := 36) 0 1 C dX5_areSo_36 rfl ?_
          refine sw_getR (pc := 37) C kfX5_19 sh30 rfl dX5_areSo_37 ?_
          refine sw_iloadn (pc := 40) 2 3 C dX5_areSo_40 rfl ?_
          refine sw_iald (pc := 41) C sh32 dX5_areSo_41 ?_
          refine sw_icmp_eq (pc := 42) 47 C dX5_areSo_42 (by decide) ?_ ?_
          · refine sw_iinc (pc := 47) (v2 + 1) 3 [(2, .int (v2 + 1)), (3, .int x1), (0, .ref (ad 30)), (1, .ref (ad 23))] C dX5_areSo_47 (by rw [hn]; decide) rfl rfl rfl ?_
            refine sw_goto (pc := 50) 2 C dX5_areSo_50 (by decide) ?_
            refine sw_lpick (pc := 2) (L' := [(0, .ref (ad 30)), (1, .ref (ad 23)), (2, .int (v2 + 1))]) [2, 3, 0] rfl ?_
            exact ih _ _
          · refine sw_iconst (pc := 45) (v := 0) C dX5_areSo_45 (by decide) ?_
            exact sw_retiz (pc := 46) rfl C M dX5_areSo_46
set_option maxRecDepth 100000 in
set_option maxHeartbeats 4000000 in
theorem mX5_areSo    : sw_Ki yX5_areSo cX5_areSo 4 (some .boolean) 2 (fun ad => [.ref (ad 30), .ref (ad 23)]) fX5_areSo := by
  refine sw_enteri (by decide) (fun ad => Nat.le_of_ble_eq_true rfl) (fun X ad t σ C hn M => ?_)
  change sw_J X ad t 0 [(0, .ref (ad 30)), (1, .ref (ad 23))] [] σ _
  replace C : sw_C X ad cX5_areSo RX5 2 := C
  unfold fX5_areSo
  refine sw_iconst (pc := 0) (v := 0) C dX5_areSo_0 (by decide) ?_
  refine sw_istoren (pc := 1) 2 [(2, .int 0), (0, .ref (ad 30)), (1, .ref (ad 23))] C dX5_areSo_1 (by rw [hn]; decide) rfl ?_
  refine sw_lpick (pc := 2) (L' := [(0, .ref (ad 30)), (1, .ref (ad 23)), (2, .int 0)]) [1, 2, 0] rfl ?_
  exact jX5_areSo_L2 C hn M  _ _ _
set_option maxRecDepth 100000 in
set_option maxHeartbeats 4000000 in
theorem mX6_kindOf {c : Nat} (hc : sw_saw c) (a0 : Int32) : sw_Ki yX6_kindOf cX6_kindOf 2 (some .int) 2 (fun ad => [.ref (ad c), .int a0]) (fX6_kindOf c a0) := by
  refine sw_enteri (by decide) (fun ad => Nat.le_of_ble_eq_true rfl) (fun X ad t σ C hn M => ?_)
  change sw_J X ad t 0 [(0, .ref (ad c)), (1, .int a0)] [] σ _
  replace C : sw_C X ad cX6_kindOf RX6 2 := C
  unfold fX6_kindOf
  refine sw_aloadn (pc := 0) 0 0 C dX6_kindOf_0 rfl ?_
  refine sw_iloadn (pc := 1) 1 1 C dX6_kindOf_1 rfl ?_
  refine sw_callVi (pc := 2) C (mX6_has hc a0) sgX6_has mlX6_25 dX6_kindOf_2 (by decide) [.int a0] [] hc.1 rfl rfl rfl rfl (Nat.le_of_ble_eq_true rfl) (fun r1 σ2 => ?_)
  refine sw_if_eq (pc := 5) 17 C dX6_kindOf_5 (by decide) ?_ ?_
  · refine sw_iconst (pc := 17) (v := 0) C dX6_kindOf_17 (by decide) ?_
    exact sw_reti (pc := 18) C M dX6_kindOf_18
  · refine sw_aloadn (pc := 8) 0 0 C dX6_kindOf_8 rfl ?_
    refine sw_getR (pc := 9) C kfX6_15 hc.1 rfl dX6_kindOf_9 ?_
    refine sw_iloadn (pc := 12) 1 1 C dX6_kindOf_12 rfl ?_
    refine sw_iald (pc := 13) C hc.2.1 dX6_kindOf_13 ?_
    refine sw_goto (pc := 14) 18 C dX6_kindOf_14 (by decide) ?_
    exact sw_reti (pc := 18) C M dX6_kindOf_18
set_option maxRecDepth 100000 in
set_option maxHeartbeats 4000000 in
theorem mX6_sideOf {c : Nat} (hc : sw_saw c) (a0 : Int32) : sw_Ki yX6_sideOf cX6_sideOf 2 (some .int) 2 (fun ad => [.ref (ad c), .int a0]) (fX6_sideOf c a0) := by
  refine sw_enteri (by decide) (fun ad => Nat.le_of_ble_eq_true rfl) (fun X ad t σ C hn M => ?_)
  change sw_J X ad t 0 [(0, .ref (ad c)), (1, .int a0)] [] σ _
  replace C : sw_C X ad cX6_sideOf RX6 2 := C
  unfold fX6_sideOf
  refine sw_aloadn (pc := 0) 0 0 C dX6_sideOf_0 rfl ?_
  refine sw_iloadn (pc := 1) 1 1 C dX6_sideOf_1 rfl ?_
  refine sw_callVi (pc := 2) C (mX6_has hc a0) sgX6_has mlX6_25 dX6_sideOf_2 (by decide) [.int a0] [] hc.1 rfl rfl rfl rfl (Nat.le_of_ble_eq_true rfl) (fun r1 σ2 => ?_)
  refine sw_if_eq (pc := 5) 17 C dX6_sideOf_5 (by decide) ?_ ?_
  · refine sw_iconst (pc := 17) (v := 0) C dX6_sideOf_17 (by decide) ?_
    exact sw_reti (pc := 18) C M dX6_sideOf_18
  · refine sw_aloadn (pc := 8) 0 0 C dX6_sideOf_8 rfl ?_
    refine sw_getR (pc := 9) C kfX6_19 hc.1 rfl dX6_sideOf_9 ?_
    refine sw_iloadn (pc := 12) 1 1 C dX6_sideOf_12 rfl ?_
    refine sw_iald (pc := 13) C hc.2.2.1 dX6_sideOf_13 ?_
    refine sw_goto (pc := 14) 18 C dX6_sideOf_14 (by decide) ?_
    exact sw_reti (pc := 18) C M dX6_sideOf_18
set_option maxRecDepth 100000 in
set_option maxHeartbeats 4000000 in
theorem mX6_sizeOf {c : Nat} (hc : sw_saw c) (a0 : Int32) (a1 : Int32) : sw_Ki yX6_sizeOf cX6_sizeOf 3 (some .int) 2 (fun ad => [.ref (ad c), .int a0, .int a1]) (fX6_sizeOf c a0 a1) := by
  refine sw_enteri (by decide) (fun ad => Nat.le_of_ble_eq_true rfl) (fun X ad t σ C hn M => ?_)
  change sw_J X ad t 0 [(0, .ref (ad c)), (1, .int a0), (2, .int a1)] [] σ _
  replace C : sw_C X ad cX6_sizeOf RX6 2 := C
  unfold fX6_sizeOf
  refine sw_aloadn (pc := 0) 0 0 C dX6_sizeOf_0 rfl ?_
  refine sw_iloadn (pc := 1) 1 1 C dX6_sizeOf_1 rfl ?_
  refine sw_callVi (pc := 2) C (mX6_has hc a0) sgX6_has mlX6_25 dX6_sizeOf_2 (by decide) [.int a0] [] hc.1 rfl rfl rfl rfl (Nat.le_of_ble_eq_true rfl) (fun r1 σ2 => ?_)
  refine sw_if_eq (pc := 5) 28 C dX6_sizeOf_5 (by decide) ?_ ?_
  · refine sw_iconst (pc := 28) (v := 0) C dX6_sizeOf_28 (by decide) ?_
    exact sw_reti (pc := 29) C M dX6_sizeOf_29
  · refine sw_iloadn (pc := 8) 2 2 C dX6_sizeOf_8 rfl ?_
    refine sw_callSi (pc := 9) C (mX6_isSize a1) sgX6_isSize mlX6_29 dX6_sizeOf_9 (by decide) [.int a1] [] rfl rfl rfl (Nat.le_of_ble_eq_true rfl) (fun r3 σ4 => ?_)
    refine sw_if_eq (pc := 12) 28 C dX6_sizeOf_12 (by decide) ?_ ?_
    · refine sw_iconst (pc := 28) (v := 0) C dX6_sizeOf_28 (by decide) ?_
      exact sw_reti (pc := 29) C M dX6_sizeOf_29
    · refine sw_aloadn (pc := 15) 0 0 C dX6_sizeOf_15 rfl ?_
      refine sw_getR (pc := 16) C kfX6_22 hc.1 rfl dX6_sizeOf_16 ?_
      refine sw_iloadn (pc := 19) 1 1 C dX6_sizeOf_19 rfl ?_
      refine sw_iconst (pc := 20) (v := 3) C dX6_sizeOf_20 (by decide) ?_
      refine sw_imul (pc := 21) C dX6_sizeOf_21 ?_
      refine sw_iloadn (pc := 22) 2 2 C dX6_sizeOf_22 rfl ?_
      refine sw_iadd (pc := 23) C dX6_sizeOf_23 ?_
      refine sw_iald (pc := 24) C hc.2.2.2 dX6_sizeOf_24 ?_
      refine sw_goto (pc := 25) 29 C dX6_sizeOf_25 (by decide) ?_
      exact sw_reti (pc := 29) C M dX6_sizeOf_29
