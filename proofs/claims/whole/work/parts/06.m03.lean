set_option maxRecDepth 100000 in
set_option maxHeartbeats 4000000 in
theorem mX9_mend   (a0 : Int32) (a1 : Int32) : sw_Ki yX9_mend cX9_mend 3 (some .int) 7 (fun ad => [.ref (ad 0), .int a0, .int a1]) (fX9_mend a0 a1) := by
  refine sw_enteri (by decide) (fun ad => Nat.le_of_ble_eq_true rfl) (fun X ad t σ C hn M => ?_)
  change sw_J X ad t 0 [(0, .ref (ad 0)), (1, .int a0), (2, .int a1)] [] σ _
  replace C : sw_C X ad cX9_mend RX9 7 := C
  unfold fX9_mend
  refine sw_iloadn (pc := 0) 1 1 C dX9_mend_0 rfl ?_
  refine sw_iconst (pc := 1) (v := 0) C dX9_mend_1 (by decide) ?_
  refine sw_sipush (pc := 2) (v := 9999) C dX9_mend_2 (by decide) ?_
  refine sw_callSi (pc := 5) C (mX9_isWithin a0 0 9999) sgX9_isWithin mlX9_131 dX9_mend_5 (by decide) [.int a0, .int 0, .int 9999] [] rfl rfl rfl (Nat.le_of_ble_eq_true rfl) (fun r1 σ2 => ?_)
  refine sw_if_ne (pc := 8) 14 C dX9_mend_8 (by decide) ?_ ?_
  · refine sw_iloadn (pc := 14) 2 2 C dX9_mend_14 rfl ?_
    refine sw_bipush (pc := 15) (v := (-2)) C dX9_mend_15 (by decide) ?_
    refine sw_iconst (pc := 17) (v := 1) C dX9_mend_17 (by decide) ?_
    refine sw_callSi (pc := 18) C (mX9_isWithin a1 (-2) 1) sgX9_isWithin mlX9_131 dX9_mend_18 (by decide) [.int a1, .int (-2), .int 1] [] rfl rfl rfl (Nat.le_of_ble_eq_true rfl) (fun r3 σ4 => ?_)
    refine sw_if_ne (pc := 21) 26 C dX9_mend_21 (by decide) ?_ ?_
    · refine sw_aloadn (pc := 26) 0 0 C dX9_mend_26 rfl ?_
      refine sw_callVi (pc := 27) C mX9_lacksSawOrBoard sgX9_lacksSawOrBoard mlX9_189 dX9_mend_27 (by decide) [] [] sh0 rfl rfl rfl rfl (Nat.le_of_ble_eq_true rfl) (fun r5 σ6 => ?_)
      refine sw_if_eq (pc := 30) 36 C dX9_mend_30 (by decide) ?_ ?_
      · refine sw_aloadn (pc := 36) 0 0 C dX9_mend_36 rfl ?_
        refine sw_iloadn (pc := 37) 1 1 C dX9_mend_37 rfl ?_
        refine sw_callVv (pc := 38) C (mX9_seekMending a0) sgX9_seekMending mlX9_246 dX9_mend_38 (by decide) [.int a0] [] sh0 rfl rfl rfl rfl (Nat.le_of_ble_eq_true rfl) (fun r7 σ8 => ?_)
        refine sw_iloadn (pc := 41) 2 2 C dX9_mend_41 rfl ?_
        refine sw_ite (fun h9 => ?_) (fun h9 => ?_)
        · refine sw_tabIn (pc := 42) (off := 26) 68 C dX9_mend_42 (by rw [h9]; decide) (by rw [h9]; decide) (by rw [h9]; rfl) (by decide) ?_
          refine sw_aloadn (pc := 68) 0 0 C dX9_mend_68 rfl ?_
          refine sw_getR (pc := 69) C kfX9_72 sh0 ff9_10 dX9_mend_69 ?_
          refine sw_getI (pc := 72) C kfX9_250 sh33 rfl dX9_mend_72 ?_
          exact sw_reti (pc := 75) C M dX9_mend_75
        · skip
          refine sw_ite (fun h10 => ?_) (fun h10 => ?_)
          · refine sw_tabIn (pc := 42) (off := 34) 76 C dX9_mend_42 (by rw [h10]; decide) (by rw [h10]; decide) (by rw [h10]; rfl) (by decide) ?_
            refine sw_aloadn (pc := 76) 0 0 C dX9_mend_76 rfl ?_
            refine sw_getR (pc := 77) C kfX9_72 sh0 ff9_10 dX9_mend_77 ?_
            refine sw_getI (pc := 80) C kfX9_253 sh33 rfl dX9_mend_80 ?_
            exact sw_reti (pc := 83) C M dX9_mend_83
          · skip
            refine sw_ite (fun h11 => ?_) (fun h11 => ?_)
            · refine sw_tabIn (pc := 42) (off := 42) 84 C dX9_mend_42 (by rw [h11]; decide) (by rw [h11]; decide) (by rw [h11]; rfl) (by decide) ?_
              refine sw_aloadn (pc := 84) 0 0 C dX9_mend_84 rfl ?_
              refine sw_getR (pc := 85) C kfX9_72 sh0 ff9_10 dX9_mend_85 ?_
              refine sw_getI (pc := 88) C kfX9_256 sh33 rfl dX9_mend_88 ?_
              exact sw_reti (pc := 91) C M dX9_mend_91
            · skip
              refine sw_tabOut (pc := 42) 92 C dX9_mend_42 (by have qh9 := lv_neT (a := -2) h9 (by decide); have qh10 := lv_neT (a := -1) h10 (by decide); have qh11 := lv_neT (a := 0) h11 (by decide); omega) (by decide) ?_
              refine sw_aloadn (pc := 92) 0 0 C dX9_mend_92 rfl ?_
              refine sw_getR (pc := 93) C kfX9_72 sh0 ff9_10 dX9_mend_93 ?_
              refine sw_getI (pc := 96) C kfX9_259 sh33 rfl dX9_mend_96 ?_
              exact sw_reti (pc := 99) C M dX9_mend_99
      · refine sw_bipush (pc := 33) (v := (-3)) C dX9_mend_33 (by decide) ?_
        exact sw_reti (pc := 35) C M dX9_mend_35
    · refine sw_iconst (pc := 24) (v := (-1)) C dX9_mend_24 (by decide) ?_
      exact sw_reti (pc := 25) C M dX9_mend_25
  · refine sw_bipush (pc := 11) (v := (-2)) C dX9_mend_11 (by decide) ?_
    exact sw_reti (pc := 13) C M dX9_mend_13
set_option maxRecDepth 100000 in
set_option maxHeartbeats 4000000 in
theorem mX9_log   (a0 : Int32) (a1 : Int32) (a2 : Int32) (a3 : Int32) (a4 : Int32) : sw_Ki yX9_log cX9_log 7 (some .int) 6 (fun ad => [.ref (ad 0), .int a0, .int a1, .int a2, .int a3, .int a4]) (fX9_log a0 a1 a2 a3 a4) := by
  refine sw_enteri (by decide) (fun ad => Nat.le_of_ble_eq_true rfl) (fun X ad t σ C hn M => ?_)
  change sw_J X ad t 0 [(0, .ref (ad 0)), (1, .int a0), (2, .int a1), (3, .int a2), (4, .int a3), (5, .int a4)] [] σ _
  replace C : sw_C X ad cX9_log RX9 6 := C
  unfold fX9_log
  refine sw_aloadn (pc := 0) 0 0 C dX9_log_0 rfl ?_
  refine sw_iloadn (pc := 1) 1 1 C dX9_log_1 rfl ?_
  refine sw_iloadn (pc := 2) 2 2 C dX9_log_2 rfl ?_
  refine sw_iloadn (pc := 3) 3 3 C dX9_log_3 rfl ?_
  refine sw_iload (pc := 4) 4 C dX9_log_4 rfl ?_
  refine sw_callVi (pc := 6) C (mX9_refusalOfCells a0 a1 a2 a3) sgX9_refusalOfCells mlX9_90 dX9_log_6 (by decide) [.int a0, .int a1, .int a2, .int a3] [] sh0 rfl rfl rfl rfl (Nat.le_of_ble_eq_true rfl) (fun r1 σ2 => ?_)
  refine sw_istore (pc := 9) [(6, .int r1), (0, .ref (ad 0)), (1, .int a0), (2, .int a1), (3, .int a2), (4, .int a3), (5, .int a4)] C dX9_log_9 (by rw [hn]; decide) rfl ?_
  refine sw_iload (pc := 11) 0 C dX9_log_11 rfl ?_
  refine sw_if_eq (pc := 13) 19 C dX9_log_13 (by decide) ?_ ?_
  · refine sw_aloadn (pc := 19) 0 1 C dX9_log_19 rfl ?_
    refine sw_getR (pc := 20) C kfX9_79 sh0 ff9_11 dX9_log_20 ?_
    refine sw_aloadn (pc := 23) 0 1 C dX9_log_23 rfl ?_
    refine sw_getR (pc := 24) C kfX9_12 sh0 ff9_0 dX9_log_24 ?_
    refine sw_iloadn (pc := 27) 1 2 C dX9_log_27 rfl ?_
    refine sw_iloadn (pc := 28) 3 4 C dX9_log_28 rfl ?_
    refine sw_iload (pc := 29) 5 C dX9_log_29 rfl ?_
    refine sw_callVi (pc := 31) C (mX8_read a0 a2 a3) sgX8_read mlX9_262 dX9_log_31 (by decide) [.ref (ad 1), .int a0, .int a2, .int a3] [] sh34 rfl rfl rfl rfl (Nat.le_of_ble_eq_true rfl) (fun r3 σ4 => ?_)
    refine sw_if_ne (pc := 34) 40 C dX9_log_34 (by decide) ?_ ?_
    · refine sw_iload (pc := 40) 6 C dX9_log_40 rfl ?_
      refine sw_iconst (pc := 42) (v := (-1)) C dX9_log_42 (by decide) ?_
      refine sw_iconst (pc := 43) (v := 5) C dX9_log_43 (by decide) ?_
      refine sw_callSi (pc := 44) C (mX9_isWithin a4 (-1) 5) sgX9_isWithin mlX9_131 dX9_log_44 (by decide) [.int a4, .int (-1), .int 5] [] rfl rfl rfl (Nat.le_of_ble_eq_true rfl) (fun r5 σ6 => ?_)
      refine sw_if_ne (pc := 47) 52 C dX9_log_47 (by decide) ?_ ?_
      · refine sw_aloadn (pc := 52) 0 1 C dX9_log_52 rfl ?_
        refine sw_getR (pc := 53) C kfX9_79 sh0 ff9_11 dX9_log_53 ?_
        refine sw_callVv (pc := 56) C mX8_weighOrders sgX8_weighOrders mlX9_265 dX9_log_56 (by decide) [] [] sh34 rfl rfl rfl rfl (Nat.le_of_ble_eq_true rfl) (fun r7 σ8 => ?_)
        refine sw_iload (pc := 59) 6 C dX9_log_59 rfl ?_
        refine sw_iconst (pc := 61) (v := (-1)) C dX9_log_61 (by decide) ?_
        refine sw_icmp_ne (pc := 62) 75 C dX9_log_62 (by decide) ?_ ?_
        · refine sw_aloadn (pc := 75) 0 1 C dX9_log_75 rfl ?_
          refine sw_getR (pc := 76) C kfX9_79 sh0 ff9_11 dX9_log_76 ?_
          refine sw_iload (pc := 79) 6 C dX9_log_79 rfl ?_
          refine sw_callVi (pc := 81) C (mX8_cutOfOrder a4) sgX8_cutOfOrder mlX9_271 dX9_log_81 (by decide) [.int a4] [] sh34 rfl rfl rfl rfl (Nat.le_of_ble_eq_true rfl) (fun r9 σ10 => ?_)
          exact sw_reti (pc := 84) C M dX9_log_84
        · refine sw_aloadn (pc := 65) 0 1 C dX9_log_65 rfl ?_
          refine sw_getR (pc := 66) C kfX9_79 sh0 ff9_11 dX9_log_66 ?_
          refine sw_callVi (pc := 69) C mX8_leastCost sgX8_leastCost mlX9_268 dX9_log_69 (by decide) [] [] sh34 rfl rfl rfl rfl (Nat.le_of_ble_eq_true rfl) (fun r11 σ12 => ?_)
          refine sw_goto (pc := 72) 84 C dX9_log_72 (by decide) ?_
          exact sw_reti (pc := 84) C M dX9_log_84
      · refine sw_iconst (pc := 50) (v := (-1)) C dX9_log_50 (by decide) ?_
        exact sw_reti (pc := 51) C M dX9_log_51
    · refine sw_bipush (pc := 37) (v := (-2)) C dX9_log_37 (by decide) ?_
      exact sw_reti (pc := 39) C M dX9_log_39
  · refine sw_iload (pc := 16) 0 C dX9_log_16 rfl ?_
    exact sw_reti (pc := 18) C M dX9_log_18
set_option maxRecDepth 100000 in
set_option maxHeartbeats 4000000 in
theorem mX9_sheet   (a0 : Int32) (a1 : Int32) (a2 : Int32) : sw_Ki yX9_sheet cX9_sheet 4 (some .int) 3 (fun ad => [.ref (ad 0), .int a0, .int a1, .int a2]) (fX9_sheet a0 a1 a2) := by
  refine sw_enteri (by decide) (fun ad => Nat.le_of_ble_eq_true rfl) (fun X ad t σ C hn M => ?_)
  change sw_J X ad t 0 [(0, .ref (ad 0)), (1, .int a0), (2, .int a1), (3, .int a2)] [] σ _
  replace C : sw_C X ad cX9_sheet RX9 3 := C
  unfold fX9_sheet
  refine sw_aloadn (pc := 0) 0 0 C dX9_sheet_0 rfl ?_
  refine sw_iconst (pc := 1) (v := 0) C dX9_sheet_1 (by decide) ?_
  refine sw_putL (pc := 2) C kpX9_87 sh0 ff9_13 dX9_sheet_2 (fun σ1 => ?_)
  refine sw_iloadn (pc := 5) 1 1 C dX9_sheet_5 rfl ?_
  refine sw_callSi (pc := 6) C (mX7_isSheet a0) sgX7_isSheet mlX9_274 dX9_sheet_6 (by decide) [.int a0] [] rfl rfl rfl (Nat.le_of_ble_eq_true rfl) (fun r2 σ3 => ?_)
  refine sw_if_ne (pc := 9) 14 C dX9_sheet_9 (by decide) ?_ ?_
  · refine sw_iloadn (pc := 14) 2 2 C dX9_sheet_14 rfl ?_
    refine sw_callSi (pc := 15) C (mX7_isLane a1) sgX7_isLane mlX9_277 dX9_sheet_15 (by decide) [.int a1] [] rfl rfl rfl (Nat.le_of_ble_eq_true rfl) (fun r4 σ5 => ?_)
    refine sw_if_eq (pc := 18) 27 C dX9_sheet_18 (by decide) ?_ ?_
    · refine sw_bipush (pc := 27) (v := (-2)) C dX9_sheet_27 (by decide) ?_
      exact sw_reti (pc := 29) C M dX9_sheet_29
    · refine sw_iloadn (pc := 21) 3 3 C dX9_sheet_21 rfl ?_
      refine sw_bipush (pc := 22) (v := 80) C dX9_sheet_22 (by decide) ?_
      refine sw_icmp_le (pc := 24) 30 C dX9_sheet_24 (by decide) ?_ ?_
      · refine sw_iloadn (pc := 30) 3 3 C dX9_sheet_30 rfl ?_
        refine sw_if_ge (pc := 31) 40 C dX9_sheet_31 (by decide) ?_ ?_
        · refine sw_aloadn (pc := 40) 0 0 C dX9_sheet_40 rfl ?_
          refine sw_getR (pc := 41) C kfX9_12 sh0 ff9_0 dX9_sheet_41 ?_
          refine sw_iloadn (pc := 44) 1 1 C dX9_sheet_44 rfl ?_
          refine sw_iloadn (pc := 45) 2 2 C dX9_sheet_45 rfl ?_
          refine sw_iloadn (pc := 46) 3 3 C dX9_sheet_46 rfl ?_
          refine sw_callVv (pc := 47) C (mX7_renew a0 a1 a2) sgX7_renew mlX9_283 dX9_sheet_47 (by decide) [.int a0, .int a1, .int a2] [] sh1 rfl rfl rfl rfl (Nat.le_of_ble_eq_true rfl) (fun r6 σ7 => ?_)
          refine sw_iconst (pc := 50) (v := 1) C dX9_sheet_50 (by decide) ?_
          exact sw_reti (pc := 51) C M dX9_sheet_51
        · refine sw_aloadn (pc := 34) 0 0 C dX9_sheet_34 rfl ?_
          refine sw_iconst (pc := 35) (v := 4) C dX9_sheet_35 (by decide) ?_
          refine sw_callVi (pc := 36) C (mX9_answerOfFault 4) sgX9_answerOfFault mlX9_280 dX9_sheet_36 (by decide) [.int 4] [] sh0 rfl rfl rfl rfl (Nat.le_of_ble_eq_true rfl) (fun r8 σ9 => ?_)
          exact sw_reti (pc := 39) C M dX9_sheet_39
      · refine sw_bipush (pc := 27) (v := (-2)) C dX9_sheet_27 (by decide) ?_
        exact sw_reti (pc := 29) C M dX9_sheet_29
  · refine sw_iconst (pc := 12) (v := (-1)) C dX9_sheet_12 (by decide) ?_
    exact sw_reti (pc := 13) C M dX9_sheet_13
set_option maxRecDepth 100000 in
set_option maxHeartbeats 4000000 in
theorem mX9_lose   (a0 : Int32) : sw_Ki yX9_lose cX9_lose 2 (some .int) 4 (fun ad => [.ref (ad 0), .int a0]) (fX9_lose a0) := by
  refine sw_enteri (by decide) (fun ad => Nat.le_of_ble_eq_true rfl) (fun X ad t σ C hn M => ?_)
  change sw_J X ad t 0 [(0, .ref (ad 0)), (1, .int a0)] [] σ _
  replace C : sw_C X ad cX9_lose RX9 4 := C
  unfold fX9_lose
  refine sw_iloadn (pc := 0) 1 1 C dX9_lose_0 rfl ?_
  refine sw_callSi (pc := 1) C (mX7_isSheet a0) sgX7_isSheet mlX9_274 dX9_lose_1 (by decide) [.int a0] [] rfl rfl rfl (Nat.le_of_ble_eq_true rfl) (fun r1 σ2 => ?_)
  refine sw_if_ne (pc := 4) 9 C dX9_lose_4 (by decide) ?_ ?_
  · refine sw_aloadn (pc := 9) 0 0 C dX9_lose_9 rfl ?_
    refine sw_getR (pc := 10) C kfX9_12 sh0 ff9_0 dX9_lose_10 ?_
    refine sw_iloadn (pc := 13) 1 1 C dX9_lose_13 rfl ?_
    refine sw_callVi (pc := 14) C (mX7_drop a0) sgX7_drop mlX9_286 dX9_lose_14 (by decide) [.int a0] [] sh1 rfl rfl rfl rfl (Nat.le_of_ble_eq_true rfl) (fun r3 σ4 => ?_)
    refine sw_if_eq (pc := 17) 24 C dX9_lose_17 (by decide) ?_ ?_
    · refine sw_iconst (pc := 24) (v := 0) C dX9_lose_24 (by decide) ?_
      exact sw_reti (pc := 25) C M dX9_lose_25
    · refine sw_iconst (pc := 20) (v := 1) C dX9_lose_20 (by decide) ?_
      refine sw_goto (pc := 21) 25 C dX9_lose_21 (by decide) ?_
      exact sw_reti (pc := 25) C M dX9_lose_25
  · refine sw_iconst (pc := 7) (v := (-1)) C dX9_lose_7 (by decide) ?_
    exact sw_reti (pc := 8) C M dX9_lose_8
set_option maxRecDepth 100000 in
set_option maxHeartbeats 4000000 in
theorem mX9_put   (a0 : Int32) (a1 : Int32) (a2 : Int32) : sw_Ki yX9_put cX9_put 4 (some .int) 5 (fun ad => [.ref (ad 0), .int a0, .int a1, .int a2]) (fX9_put a0 a1 a2) := by
  refine sw_enteri (by decide) (fun ad => Nat.le_of_ble_eq_true rfl) (fun X ad t σ C hn M => ?_)
  change sw_J X ad t 0 [(0, .ref (ad 0)), (1, .int a0), (2, .int a1), (3, .int a2)] [] σ _
  replace C : sw_C X ad cX9_put RX9 5 := C
  unfold fX9_put
  refine sw_aloadn (pc := 0) 0 0 C dX9_put_0 rfl ?_
  refine sw_iconst (pc := 1) (v := 0) C dX9_put_1 (by decide) ?_
  refine sw_putL (pc := 2) C kpX9_87 sh0 ff9_13 dX9_put_2 (fun σ1 => ?_)
  refine sw_iloadn (pc := 5) 1 1 C dX9_put_5 rfl ?_
  refine sw_callSi (pc := 6) C (mX7_isSheet a0) sgX7_isSheet mlX9_274 dX9_put_6 (by decide) [.int a0] [] rfl rfl rfl (Nat.le_of_ble_eq_true rfl) (fun r2 σ3 => ?_)
  refine sw_if_ne (pc := 9) 14 C dX9_put_9 (by decide) ?_ ?_
  · refine sw_aloadn (pc := 14) 0 0 C dX9_put_14 rfl ?_
    refine sw_getR (pc := 15) C kfX9_12 sh0 ff9_0 dX9_put_15 ?_
    refine sw_iloadn (pc := 18) 1 1 C dX9_put_18 rfl ?_
    refine sw_callVi (pc := 19) C (mX7_isNothing a0) sgX7_isNothing mlX9_289 dX9_put_19 (by decide) [.int a0] [] sh1 rfl rfl rfl rfl (Nat.le_of_ble_eq_true rfl) (fun r4 σ5 => ?_)
    refine sw_if_eq (pc := 22) 31 C dX9_put_22 (by decide) ?_ ?_
    · refine sw_aloadn (pc := 31) 0 0 C dX9_put_31 rfl ?_
      refine sw_getR (pc := 32) C kfX9_12 sh0 ff9_0 dX9_put_32 ?_
      refine sw_iloadn (pc := 35) 1 1 C dX9_put_35 rfl ?_
      refine sw_iloadn (pc := 36) 2 2 C dX9_put_36 rfl ?_
      refine sw_callVi (pc := 37) C (mX7_hasCell a0 a1) sgX7_hasCell mlX9_292 dX9_put_37 (by decide) [.int a0, .int a1] [] sh1 rfl rfl rfl rfl (Nat.le_of_ble_eq_true rfl) (fun r6 σ7 => ?_)
      refine sw_if_ne (pc := 40) 49 C dX9_put_40 (by decide) ?_ ?_
      · refine sw_aloadn (pc := 49) 0 0 C dX9_put_49 rfl ?_
        refine sw_getR (pc := 50) C kfX9_12 sh0 ff9_0 dX9_put_50 ?_
        refine sw_iloadn (pc := 53) 1 1 C dX9_put_53 rfl ?_
        refine sw_iloadn (pc := 54) 2 2 C dX9_put_54 rfl ?_
        refine sw_iloadn (pc := 55) 3 3 C dX9_put_55 rfl ?_
        refine sw_callVv (pc := 56) C (mX7_write a0 a1 a2) sgX7_write mlX9_295 dX9_put_56 (by decide) [.int a0, .int a1, .int a2] [] sh1 rfl rfl rfl rfl (Nat.le_of_ble_eq_true rfl) (fun r8 σ9 => ?_)
        refine sw_iconst (pc := 59) (v := 1) C dX9_put_59 (by decide) ?_
        exact sw_reti (pc := 60) C M dX9_put_60
      · refine sw_aloadn (pc := 43) 0 0 C dX9_put_43 rfl ?_
        refine sw_iconst (pc := 44) (v := 3) C dX9_put_44 (by decide) ?_
        refine sw_callVi (pc := 45) C (mX9_answerOfFault 3) sgX9_answerOfFault mlX9_280 dX9_put_45 (by decide) [.int 3] [] sh0 rfl rfl rfl rfl (Nat.le_of_ble_eq_true rfl) (fun r10 σ11 => ?_)
        exact sw_reti (pc := 48) C M dX9_put_48
    · refine sw_aloadn (pc := 25) 0 0 C dX9_put_25 rfl ?_
      refine sw_iconst (pc := 26) (v := 1) C dX9_put_26 (by decide) ?_
      refine sw_callVi (pc := 27) C (mX9_answerOfFault 1) sgX9_answerOfFault mlX9_280 dX9_put_27 (by decide) [.int 1] [] sh0 rfl rfl rfl rfl (Nat.le_of_ble_eq_true rfl) (fun r12 σ13 => ?_)
      exact sw_reti (pc := 30) C M dX9_put_30
  · refine sw_iconst (pc := 12) (v := (-1)) C dX9_put_12 (by decide) ?_
    exact sw_reti (pc := 13) C M dX9_put_13
set_option maxRecDepth 100000 in
set_option maxHeartbeats 4000000 in
theorem jX9_cell_B60 {X : sw_X} {ad : Nat → Nat} {t : Int64 × sw_St} (C : sw_C X ad cX9_cell RX9 5) (hn : sw_nL X = 4) (M : sw_Ml X ad (some .long) t)   (v1 : Int32) (v2 : Int32) (σ : sw_St) : sw_J X ad t 60 [(0, .ref (ad 0)), (1, .int v1), (2, .int v2)] [] σ (fX9_cell_B60  v1 v2 σ) := by
  unfold fX9_cell_B60
  refine sw_aloadn (pc := 60) 0 0 C dX9_cell_60 rfl ?_
  refine sw_getI (pc := 61) C kfX9_87 sh0 ff9_13 dX9_cell_61 ?_
  refine sw_if_ne (pc := 64) 80 C dX9_cell_64 (by decide) ?_ ?_
  · refine sw_ldc2 (pc := 80) C dX9_cell_80 klX9_184 ?_
    exact sw_retl (pc := 83) C M dX9_cell_83
  · refine sw_aloadn (pc := 67) 0 0 C dX9_cell_67 rfl ?_
    refine sw_getR (pc := 68) C kfX9_12 sh0 ff9_0 dX9_cell_68 ?_
    refine sw_iloadn (pc := 71) 1 1 C dX9_cell_71 rfl ?_
    refine sw_iloadn (pc := 72) 2 2 C dX9_cell_72 rfl ?_
    refine sw_callVi (pc := 73) C (mX7_at v1 v2) sgX7_at mlX9_301 dX9_cell_73 (by decide) [.int v1, .int v2] [] sh1 rfl rfl rfl rfl (Nat.le_of_ble_eq_true rfl) (fun r12 σ13 => ?_)
    refine sw_i2l (pc := 76) C dX9_cell_76 ?_
    refine sw_goto (pc := 77) 83 C dX9_cell_77 (by decide) ?_
    exact sw_retl (pc := 83) C M dX9_cell_83
set_option maxRecDepth 100000 in
set_option maxHeartbeats 4000000 in
theorem mX9_cell   (a0 : Int32) (a1 : Int32) (a2 : Int32) : sw_Kl yX9_cell cX9_cell 4 (some .long) 5 (fun ad => [.ref (ad 0), .int a0, .int a1, .int a2]) (fX9_cell a0 a1 a2) := by
  refine sw_enterl (by decide) (fun ad => Nat.le_of_ble_eq_true rfl) (fun X ad t σ C hn M => ?_)
  change sw_J X ad t 0 [(0, .ref (ad 0)), (1, .int a0), (2, .int a1), (3, .int a2)] [] σ _
  replace C : sw_C X ad cX9_cell RX9 5 := C
  unfold fX9_cell
  refine sw_aloadn (pc := 0) 0 0 C dX9_cell_0 rfl ?_
  refine sw_iconst (pc := 1) (v := 0) C dX9_cell_1 (by decide) ?_
  refine sw_putL (pc := 2) C kpX9_87 sh0 ff9_13 dX9_cell_2 (fun σ1 => ?_)
  refine sw_iloadn (pc := 5) 1 1 C dX9_cell_5 rfl ?_
  refine sw_callSi (pc := 6) C (mX7_isSheet a0) sgX7_isSheet mlX9_274 dX9_cell_6 (by decide) [.int a0] [] rfl rfl rfl (Nat.le_of_ble_eq_true rfl) (fun r2 σ3 => ?_)
  refine sw_if_eq (pc := 9) 19 C dX9_cell_9 (by decide) ?_ ?_
  · refine sw_ldc2 (pc := 19) C dX9_cell_19 klX9_184 ?_
    exact sw_retl (pc := 22) C M dX9_cell_22
  · refine sw_iloadn (pc := 12) 3 3 C dX9_cell_12 rfl ?_
    refine sw_callSi (pc := 13) C (mX7_isLane a2) sgX7_isLane mlX9_277 dX9_cell_13 (by decide) [.int a2] [] rfl rfl rfl (Nat.le_of_ble_eq_true rfl) (fun r4 σ5 => ?_)
    refine sw_if_ne (pc := 16) 23 C dX9_cell_16 (by decide) ?_ ?_
    · refine sw_aloadn (pc := 23) 0 0 C dX9_cell_23 rfl ?_
      refine sw_aloadn (pc := 24) 0 0 C dX9_cell_24 rfl ?_
      refine sw_getR (pc := 25) C kfX9_12 sh0 ff9_0 dX9_cell_25 ?_
      refine sw_iloadn (pc := 28) 1 1 C dX9_cell_28 rfl ?_
      refine sw_iloadn (pc := 29) 3 3 C dX9_cell_29 rfl ?_
      refine sw_callVi (pc := 30) C (mX7_faultOfRow a0 a2) sgX7_faultOfRow mlX9_298 dX9_cell_30 (by decide) [.int a0, .int a2] [.ref (ad 0)] sh1 rfl rfl rfl rfl (Nat.le_of_ble_eq_true rfl) (fun r6 σ7 => ?_)
      refine sw_putL (pc := 33) C kpX9_87 sh0 ff9_13 dX9_cell_33 (fun σ8 => ?_)
      refine sw_aloadn (pc := 36) 0 0 C dX9_cell_36 rfl ?_
      refine sw_getI (pc := 37) C kfX9_87 sh0 ff9_13 dX9_cell_37 ?_
      refine sw_if_ne (pc := 40) 60 C dX9_cell_40 (by decide) ?_ ?_
      · refine sw_lpick (pc := 60) (L' := [(0, .ref (ad 0)), (1, .int a0), (2, .int a1)]) [0, 1, 2] rfl ?_
        exact jX9_cell_B60 C hn M  _ _ _
      · refine sw_aloadn (pc := 43) 0 0 C dX9_cell_43 rfl ?_
        refine sw_getR (pc := 44) C kfX9_12 sh0 ff9_0 dX9_cell_44 ?_
        refine sw_iloadn (pc := 47) 1 1 C dX9_cell_47 rfl ?_
        refine sw_iloadn (pc := 48) 2 2 C dX9_cell_48 rfl ?_
        refine sw_callVi (pc := 49) C (mX7_hasCell a0 a1) sgX7_hasCell mlX9_292 dX9_cell_49 (by decide) [.int a0, .int a1] [] sh1 rfl rfl rfl rfl (Nat.le_of_ble_eq_true rfl) (fun r9 σ10 => ?_)
        refine sw_if_ne (pc := 52) 60 C dX9_cell_52 (by decide) ?_ ?_
        · refine sw_lpick (pc := 60) (L' := [(0, .ref (ad 0)), (1, .int a0), (2, .int a1)]) [0, 1, 2] rfl ?_
          exact jX9_cell_B60 C hn M  _ _ _
        · refine sw_aloadn (pc := 55) 0 0 C dX9_cell_55 rfl ?_
          refine sw_iconst (pc := 56) (v := 3) C dX9_cell_56 (by decide) ?_
          refine sw_putL (pc := 57) C kpX9_87 sh0 ff9_13 dX9_cell_57 (fun σ11 => ?_)
          refine sw_lpick (pc := 60) (L' := [(0, .ref (ad 0)), (1, .int a0), (2, .int a1)]) [0, 1, 2] rfl ?_
          exact jX9_cell_B60 C hn M  _ _ _
    · refine sw_ldc2 (pc := 19) C dX9_cell_19 klX9_184 ?_
      exact sw_retl (pc := 22) C M dX9_cell_22
set_option maxRecDepth 100000 in
set_option maxHeartbeats 4000000 in
theorem jX9_copy_B43 {X : sw_X} {ad : Nat → Nat} {t : Int32 × sw_St} (C : sw_C X ad cX9_copy RX9 5) (hn : sw_nL X = 6) (M : sw_Mi X ad (some .int) t)    (σ : sw_St) : sw_J X ad t 43 [(0, .ref (ad 0))] [] σ (fX9_copy_B43   σ) := by
  unfold fX9_copy_B43
  refine sw_aloadn (pc := 43) 0 0 C dX9_copy_43 rfl ?_
  refine sw_iconst (pc := 44) (v := 1) C dX9_copy_44 (by decide) ?_
  refine sw_callVi (pc := 45) C (mX9_answerOfFault 1) sgX9_answerOfFault mlX9_280 dX9_copy_45 (by decide) [.int 1] [] sh0 rfl rfl rfl rfl (Nat.le_of_ble_eq_true rfl) (fun r20 σ21 => ?_)
  exact sw_reti (pc := 48) C M dX9_copy_48
set_option maxRecDepth 100000 in
set_option maxHeartbeats 4000000 in
theorem jX9_copy_B96 {X : sw_X} {ad : Nat → Nat} {t : Int32 × sw_St} (C : sw_C X ad cX9_copy RX9 5) (hn : sw_nL X = 6) (M : sw_Mi X ad (some .int) t)    (σ : sw_St) : sw_J X ad t 96 [(0, .ref (ad 0))] [] σ (fX9_copy_B96   σ) := by
  unfold fX9_copy_B96
  refine sw_aloadn (pc := 96) 0 0 C dX9_copy_96 rfl ?_
  refine sw_iconst (pc := 97) (v := 3) C dX9_copy_97 (by decide) ?_
  refine sw_callVi (pc := 98) C (mX9_answerOfFault 3) sgX9_answerOfFault mlX9_280 dX9_copy_98 (by decide) [.int 3] [] sh0 rfl rfl rfl rfl (Nat.le_of_ble_eq_true rfl) (fun r22 σ23 => ?_)
  exact sw_reti (pc := 101) C M dX9_copy_101
set_option maxRecDepth 100000 in
set_option maxHeartbeats 4000000 in
theorem mX9_copy   (a0 : Int32) (a1 : Int32) (a2 : Int32) (a3 : Int32) (a4 : Int32) : sw_Ki yX9_copy cX9_copy 6 (some .int) 5 (fun ad => [.ref (ad 0), .int a0, .int a1, .int a2, .int a3, .int a4]) (fX9_copy a0 a1 a2 a3 a4) := by
  refine sw_enteri (by decide) (fun ad => Nat.le_of_ble_eq_true rfl) (fun X ad t σ C hn M => ?_)
  change sw_J X ad t 0 [(0, .ref (ad 0)), (1, .int a0), (2, .int a1), (3, .int a2), (4, .int a3), (5, .int a4)] [] σ _
  replace C : sw_C X ad cX9_copy RX9 5 := C
  unfold fX9_copy
  refine sw_aloadn (pc := 0) 0 0 C dX9_copy_0 rfl ?_
  refine sw_iconst (pc := 1) (v := 0) C dX9_copy_1 (by decide) ?_
  refine sw_putL (pc := 2) C kpX9_87 sh0 ff9_13 dX9_copy_2 (fun σ1 => ?_)
  refine sw_iloadn (pc := 5) 1 1 C dX9_copy_5 rfl ?_
  refine sw_callSi (pc := 6) C (mX7_isSheet a0) sgX7_isSheet mlX9_274 dX9_copy_6 (by decide) [.int a0] [] rfl rfl rfl (Nat.le_of_ble_eq_true rfl) (fun r2 σ3 => ?_)
  refine sw_if_eq (pc := 9) 19 C dX9_copy_9 (by decide) ?_ ?_
  · refine sw_iconst (pc := 19) (v := (-1)) C dX9_copy_19 (by decide) ?_
    exact sw_reti (pc := 20) C M dX9_copy_20
  · refine sw_iloadn (pc := 12) 3 3 C dX9_copy_12 rfl ?_
    refine sw_callSi (pc := 13) C (mX7_isSheet a2) sgX7_isSheet mlX9_274 dX9_copy_13 (by decide) [.int a2] [] rfl rfl rfl (Nat.le_of_ble_eq_true rfl) (fun r4 σ5 => ?_)
    refine sw_if_ne (pc := 16) 21 C dX9_copy_16 (by decide) ?_ ?_
    · refine sw_aloadn (pc := 21) 0 0 C dX9_copy_21 rfl ?_
      refine sw_getR (pc := 22) C kfX9_12 sh0 ff9_0 dX9_copy_22 ?_
      refine sw_iloadn (pc := 25) 1 1 C dX9_copy_25 rfl ?_
      refine sw_callVi (pc := 26) C (mX7_isNothing a0) sgX7_isNothing mlX9_289 dX9_copy_26 (by decide) [.int a0] [] sh1 rfl rfl rfl rfl (Nat.le_of_ble_eq_true rfl) (fun r6 σ7 => ?_)
      refine sw_if_ne (pc := 29) 43 C dX9_copy_29 (by decide) ?_ ?_
      · refine sw_lpick (pc := 43) (L' := [(0, .ref (ad 0))]) [0] rfl ?_
        exact jX9_copy_B43 C hn M  _
      · refine sw_aloadn (pc := 32) 0 0 C dX9_copy_32 rfl ?_
        refine sw_getR (pc := 33) C kfX9_12 sh0 ff9_0 dX9_copy_33 ?_
        refine sw_iloadn (pc := 36) 3 3 C dX9_copy_36 rfl ?_
        refine sw_callVi (pc := 37) C (mX7_isNothing a2) sgX7_isNothing mlX9_289 dX9_copy_37 (by decide) [.int a2] [] sh1 rfl rfl rfl rfl (Nat.le_of_ble_eq_true rfl) (fun r8 σ9 => ?_)
        refine sw_if_eq (pc := 40) 49 C dX9_copy_40 (by decide) ?_ ?_
        · refine sw_aloadn (pc := 49) 0 0 C dX9_copy_49 rfl ?_
          refine sw_getR (pc := 50) C kfX9_12 sh0 ff9_0 dX9_copy_50 ?_
          refine sw_iloadn (pc := 53) 1 1 C dX9_copy_53 rfl ?_
          refine sw_iloadn (pc := 54) 3 3 C dX9_copy_54 rfl ?_
          refine sw_callVi (pc := 55) C (mX7_areOfOneLane a0 a2) sgX7_areOfOneLane mlX9_304 dX9_copy_55 (by decide) [.int a0, .int a2] [] sh1 rfl rfl rfl rfl (Nat.le_of_ble_eq_true rfl) (fun r10 σ11 => ?_)
          refine sw_if_ne (pc := 58) 67 C dX9_copy_58 (by decide) ?_ ?_
          · refine sw_aloadn (pc := 67) 0 0 C dX9_copy_67 rfl ?_
            refine sw_getR (pc := 68) C kfX9_12 sh0 ff9_0 dX9_copy_68 ?_
            refine sw_iloadn (pc := 71) 1 1 C dX9_copy_71 rfl ?_
            refine sw_iloadn (pc := 72) 2 2 C dX9_copy_72 rfl ?_
            refine sw_iload (pc := 73) 5 C dX9_copy_73 rfl ?_
            refine sw_callVi (pc := 75) C (mX7_hasCells a0 a1 a4) sgX7_hasCells mlX9_307 dX9_copy_75 (by decide) [.int a0, .int a1, .int a4] [] sh1 rfl rfl rfl rfl (Nat.le_of_ble_eq_true rfl) (fun r12 σ13 => ?_)
            refine sw_if_eq (pc := 78) 96 C dX9_copy_78 (by decide) ?_ ?_
            · refine sw_lpick (pc := 96) (L' := [(0, .ref (ad 0))]) [0] rfl ?_
              exact jX9_copy_B96 C hn M  _
            · refine sw_aloadn (pc := 81) 0 0 C dX9_copy_81 rfl ?_
              refine sw_getR (pc := 82) C kfX9_12 sh0 ff9_0 dX9_copy_82 ?_
              refine sw_iloadn (pc := 85) 3 3 C dX9_copy_85 rfl ?_
              refine sw_iload (pc := 86) 4 C dX9_copy_86 rfl ?_
              refine sw_iload (pc := 88) 5 C dX9_copy_88 rfl ?_
              refine sw_callVi (pc := 90) C (mX7_hasCells a2 a3 a4) sgX7_hasCells mlX9_307 dX9_copy_90 (by decide) [.int a2, .int a3, .int a4] [] sh1 rfl rfl rfl rfl (Nat.le_of_ble_eq_true rfl) (fun r14 σ15 => ?_)
              refine sw_if_ne (pc := 93) 102 C dX9_copy_93 (by decide) ?_ ?_
              · refine sw_aloadn (pc := 102) 0 0 C dX9_copy_102 rfl ?_
                refine sw_getR (pc := 103) C kfX9_12 sh0 ff9_0 dX9_copy_103 ?_
                refine sw_iloadn (pc := 106) 1 1 C dX9_copy_106 rfl ?_
                refine sw_iloadn (pc := 107) 2 2 C dX9_copy_107 rfl ?_
                refine sw_iloadn (pc := 108) 3 3 C dX9_copy_108 rfl ?_
                refine sw_iload (pc := 109) 4 C dX9_copy_109 rfl ?_
                refine sw_iload (pc := 111) 5 C dX9_copy_111 rfl ?_
                refine sw_callVv (pc := 113) C (mX7_carry a0 a1 a2 a3 a4) sgX7_carry mlX9_310 dX9_copy_113 (by decide) [.int a0, .int a1, .int a2, .int a3, .int a4] [] sh1 rfl rfl rfl rfl (Nat.le_of_ble_eq_true rfl) (fun r16 σ17 => ?_)
                refine sw_iload (pc := 116) 5 C dX9_copy_116 rfl ?_
                exact sw_reti (pc := 118) C M dX9_copy_118
              · refine sw_lpick (pc := 96) (L' := [(0, .ref (ad 0))]) [0] rfl ?_
                exact jX9_copy_B96 C hn M  _
          · refine sw_aloadn (pc := 61) 0 0 C dX9_copy_61 rfl ?_
            refine sw_iconst (pc := 62) (v := 2) C dX9_copy_62 (by decide) ?_
            refine sw_callVi (pc := 63) C (mX9_answerOfFault 2) sgX9_answerOfFault mlX9_280 dX9_copy_63 (by decide) [.int 2] [] sh0 rfl rfl rfl rfl (Nat.le_of_ble_eq_true rfl) (fun r18 σ19 => ?_)
            exact sw_reti (pc := 66) C M dX9_copy_66
        · refine sw_lpick (pc := 43) (L' := [(0, .ref (ad 0))]) [0] rfl ?_
          exact jX9_copy_B43 C hn M  _
    · refine sw_iconst (pc := 19) (v := (-1)) C dX9_copy_19 (by decide) ?_
      exact sw_reti (pc := 20) C M dX9_copy_20
set_option maxRecDepth 100000 in
set_option maxHeartbeats 4000000 in
theorem mX9_leaveInTrail   (a0 : Int32) : sw_Kv yX9_leaveInTrail cX9_leaveInTrail 2 none 1 (fun ad => [.ref (ad 0), .int a0]) (fX9_leaveInTrail a0) := by
  refine sw_enterv (by decide) (fun ad => Nat.le_of_ble_eq_true rfl) (fun X ad t σ C hn M => ?_)
  change sw_J X ad t 0 [(0, .ref (ad 0)), (1, .int a0)] [] σ _
  replace C : sw_C X ad cX9_leaveInTrail RX9 1 := C
  unfold fX9_leaveInTrail
  refine sw_aloadn (pc := 0) 0 0 C dX9_leaveInTrail_0 rfl ?_
  refine sw_bipush (pc := 1) (v := 31) C dX9_leaveInTrail_1 (by decide) ?_
  refine sw_aloadn (pc := 3) 0 0 C dX9_leaveInTrail_3 rfl ?_
  refine sw_getI (pc := 4) C kfX9_83 sh0 ff9_12 dX9_leaveInTrail_4 ?_
  refine sw_imul (pc := 7) C dX9_leaveInTrail_7 ?_
  refine sw_iloadn (pc := 8) 1 1 C dX9_leaveInTrail_8 rfl ?_
  refine sw_iadd (pc := 9) C dX9_leaveInTrail_9 ?_
  refine sw_putL (pc := 10) C kpX9_83 sh0 ff9_12 dX9_leaveInTrail_10 (fun σ1 => ?_)
  exact sw_retv (pc := 13) C M dX9_leaveInTrail_13
set_option maxRecDepth 100000 in
set_option maxHeartbeats 4000000 in
theorem mX9_tellAsTooth   (a0 : Int32) : sw_Ki yX9_tellAsTooth cX9_tellAsTooth 2 (some .int) 3 (fun ad => [.ref (ad 0), .int a0]) (fX9_tellAsTooth a0) := by
  refine sw_enteri (by decide) (fun ad => Nat.le_of_ble_eq_true rfl) (fun X ad t σ C hn M => ?_)
  change sw_J X ad t 0 [(0, .ref (ad 0)), (1, .int a0)] [] σ _
  replace C : sw_C X ad cX9_tellAsTooth RX9 3 := C
  unfold fX9_tellAsTooth
  refine sw_aloadn (pc := 0) 0 0 C dX9_tellAsTooth_0 rfl ?_
  refine sw_iconst (pc := 1) (v := 1) C dX9_tellAsTooth_1 (by decide) ?_
  refine sw_callVv (pc := 2) C (mX9_leaveInTrail 1) sgX9_leaveInTrail mlX9_323 dX9_tellAsTooth_2 (by decide) [.int 1] [] sh0 rfl rfl rfl rfl (Nat.le_of_ble_eq_true rfl) (fun r1 σ2 => ?_)
  refine sw_aloadn (pc := 5) 0 0 C dX9_tellAsTooth_5 rfl ?_
  refine sw_getR (pc := 6) C kfX9_21 sh0 ff9_1 dX9_tellAsTooth_6 ?_
  refine sw_iloadn (pc := 9) 1 1 C dX9_tellAsTooth_9 rfl ?_
  refine sw_iconst (pc := 10) (v := 2) C dX9_tellAsTooth_10 (by decide) ?_
  refine sw_callVi (pc := 11) C (mX6_sizeOf saw5 a0 2) sgX6_sizeOf mlX9_118 dX9_tellAsTooth_11 (by decide) [.int a0, .int 2] [] saw5.1 rfl rfl rfl rfl (Nat.le_of_ble_eq_true rfl) (fun r3 σ4 => ?_)
  exact sw_reti (pc := 14) C M dX9_tellAsTooth_14
set_option maxRecDepth 100000 in
set_option maxHeartbeats 4000000 in
theorem mX9_tellAsBent   (a0 : Int32) : sw_Ki yX9_tellAsBent cX9_tellAsBent 2 (some .int) 4 (fun ad => [.ref (ad 0), .int a0]) (fX9_tellAsBent a0) := by
  refine sw_enteri (by decide) (fun ad => Nat.le_of_ble_eq_true rfl) (fun X ad t σ C hn M => ?_)
  change sw_J X ad t 0 [(0, .ref (ad 0)), (1, .int a0)] [] σ _
  replace C : sw_C X ad cX9_tellAsBent RX9 4 := C
  unfold fX9_tellAsBent
  refine sw_aloadn (pc := 0) 0 0 C dX9_tellAsBent_0 rfl ?_
  refine sw_iconst (pc := 1) (v := 2) C dX9_tellAsBent_1 (by decide) ?_
  refine sw_callVv (pc := 2) C (mX9_leaveInTrail 2) sgX9_leaveInTrail mlX9_323 dX9_tellAsBent_2 (by decide) [.int 2] [] sh0 rfl rfl rfl rfl (Nat.le_of_ble_eq_true rfl) (fun r1 σ2 => ?_)
  refine sw_aloadn (pc := 5) 0 0 C dX9_tellAsBent_5 rfl ?_
  refine sw_iloadn (pc := 6) 1 1 C dX9_tellAsBent_6 rfl ?_
  refine sw_callVi (pc := 7) C (mX9_tellAsTooth a0) sgX9_tellAsTooth mlX9_320 dX9_tellAsBent_7 (by decide) [.int a0] [] sh0 rfl rfl rfl rfl (Nat.le_of_ble_eq_true rfl) (fun r3 σ4 => ?_)
  refine sw_bipush (pc := 10) (v := 100) C dX9_tellAsBent_10 (by decide) ?_
  refine sw_iadd (pc := 12) C dX9_tellAsBent_12 ?_
  exact sw_reti (pc := 13) C M dX9_tellAsBent_13
set_option maxRecDepth 100000 in
set_option maxHeartbeats 4000000 in
theorem mX9_tellAsHooked   (a0 : Int32) : sw_Ki yX9_tellAsHooked cX9_tellAsHooked 3 (some .int) 5 (fun ad => [.ref (ad 0), .int a0]) (fX9_tellAsHooked a0) := by
  refine sw_enteri (by decide) (fun ad => Nat.le_of_ble_eq_true rfl) (fun X ad t σ C hn M => ?_)
  change sw_J X ad t 0 [(0, .ref (ad 0)), (1, .int a0)] [] σ _
  replace C : sw_C X ad cX9_tellAsHooked RX9 5 := C
  unfold fX9_tellAsHooked
  refine sw_aloadn (pc := 0) 0 0 C dX9_tellAsHooked_0 rfl ?_
  refine sw_iconst (pc := 1) (v := 3) C dX9_tellAsHooked_1 (by decide) ?_
  refine sw_callVv (pc := 2) C (mX9_leaveInTrail 3) sgX9_leaveInTrail mlX9_323 dX9_tellAsHooked_2 (by decide) [.int 3] [] sh0 rfl rfl rfl rfl (Nat.le_of_ble_eq_true rfl) (fun r1 σ2 => ?_)
  refine sw_aloadn (pc := 5) 0 0 C dX9_tellAsHooked_5 rfl ?_
  refine sw_iloadn (pc := 6) 1 1 C dX9_tellAsHooked_6 rfl ?_
  refine sw_callVi (pc := 7) C (mX9_tellAsBent a0) sgX9_tellAsBent mlX9_317 dX9_tellAsHooked_7 (by decide) [.int a0] [] sh0 rfl rfl rfl rfl (Nat.le_of_ble_eq_true rfl) (fun r3 σ4 => ?_)
  refine sw_istoren (pc := 10) 2 [(2, .int r3), (0, .ref (ad 0)), (1, .int a0)] C dX9_tellAsHooked_10 (by rw [hn]; decide) rfl ?_
  refine sw_iloadn (pc := 11) 2 0 C dX9_tellAsHooked_11 rfl ?_
  refine sw_aloadn (pc := 12) 0 1 C dX9_tellAsHooked_12 rfl ?_
  refine sw_iloadn (pc := 13) 1 2 C dX9_tellAsHooked_13 rfl ?_
  refine sw_callVi (pc := 14) C (mX9_tellAsTooth a0) sgX9_tellAsTooth mlX9_320 dX9_tellAsHooked_14 (by decide) [.int a0] [.int r3] sh0 rfl rfl rfl rfl (Nat.le_of_ble_eq_true rfl) (fun r5 σ6 => ?_)
  refine sw_iadd (pc := 17) C dX9_tellAsHooked_17 ?_
  exact sw_reti (pc := 18) C M dX9_tellAsHooked_18
set_option maxRecDepth 100000 in
set_option maxHeartbeats 4000000 in
theorem mX9_tell   (a0 : Int32) : sw_Ki yX9_tell cX9_tell 2 (some .int) 6 (fun ad => [.ref (ad 0), .int a0]) (fX9_tell a0) := by
  refine sw_enteri (by decide) (fun ad => Nat.le_of_ble_eq_true rfl) (fun X ad t σ C hn M => ?_)
  change sw_J X ad t 0 [(0, .ref (ad 0)), (1, .int a0)] [] σ _
  replace C : sw_C X ad cX9_tell RX9 6 := C
  unfold fX9_tell
  refine sw_aloadn (pc := 0) 0 0 C dX9_tell_0 rfl ?_
  refine sw_getR (pc := 1) C kfX9_21 sh0 ff9_1 dX9_tell_1 ?_
  refine sw_iloadn (pc := 4) 1 1 C dX9_tell_4 rfl ?_
  refine sw_callVi (pc := 5) C (mX6_has saw5 a0) sgX6_has mlX9_107 dX9_tell_5 (by decide) [.int a0] [] saw5.1 rfl rfl rfl rfl (Nat.le_of_ble_eq_true rfl) (fun r1 σ2 => ?_)
  refine sw_if_ne (pc := 8) 13 C dX9_tell_8 (by decide) ?_ ?_
  · refine sw_aloadn (pc := 13) 0 0 C dX9_tell_13 rfl ?_
    refine sw_getR (pc := 14) C kfX9_21 sh0 ff9_1 dX9_tell_14 ?_
    refine sw_iloadn (pc := 17) 1 1 C dX9_tell_17 rfl ?_
    refine sw_callVi (pc := 18) C (mX6_kindOf saw5 a0) sgX6_kindOf mlX9_111 dX9_tell_18 (by decide) [.int a0] [] saw5.1 rfl rfl rfl rfl (Nat.le_of_ble_eq_true rfl) (fun r3 σ4 => ?_)
    refine sw_ite (fun h5 => ?_) (fun h5 => ?_)
    · refine sw_look (pc := 21) (off := 33) 54 C dX9_tell_21 (by decide) (by rw [h5]; rfl) (by decide) ?_
      refine sw_aloadn (pc := 54) 0 0 C dX9_tell_54 rfl ?_
      refine sw_iloadn (pc := 55) 1 1 C dX9_tell_55 rfl ?_
      refine sw_callVi (pc := 56) C (mX9_tellAsBent a0) sgX9_tellAsBent mlX9_317 dX9_tell_56 (by decide) [.int a0] [] sh0 rfl rfl rfl rfl (Nat.le_of_ble_eq_true rfl) (fun r6 σ7 => ?_)
      exact sw_reti (pc := 59) C M dX9_tell_59
    · skip
      refine sw_ite (fun h8 => ?_) (fun h8 => ?_)
      · refine sw_look (pc := 21) (off := 27) 48 C dX9_tell_21 (by decide) (by rw [h8]; rfl) (by decide) ?_
        refine sw_aloadn (pc := 48) 0 0 C dX9_tell_48 rfl ?_
        refine sw_iloadn (pc := 49) 1 1 C dX9_tell_49 rfl ?_
        refine sw_callVi (pc := 50) C (mX9_tellAsHooked a0) sgX9_tellAsHooked mlX9_314 dX9_tell_50 (by decide) [.int a0] [] sh0 rfl rfl rfl rfl (Nat.le_of_ble_eq_true rfl) (fun r9 σ10 => ?_)
        exact sw_reti (pc := 53) C M dX9_tell_53
      · skip
        refine sw_look (pc := 21) (off := 39) 60 C dX9_tell_21 (by decide) (by show Op.lookupswitch.offset [(1, 33), (2, 27)] _ _ = _; rw [lv_osw h5 (by decide)]; rw [lv_osw h8 (by decide)]; rfl) (by decide) ?_
        refine sw_aloadn (pc := 60) 0 0 C dX9_tell_60 rfl ?_
        refine sw_iloadn (pc := 61) 1 1 C dX9_tell_61 rfl ?_
        refine sw_callVi (pc := 62) C (mX9_tellAsTooth a0) sgX9_tellAsTooth mlX9_320 dX9_tell_62 (by decide) [.int a0] [] sh0 rfl rfl rfl rfl (Nat.le_of_ble_eq_true rfl) (fun r11 σ12 => ?_)
        exact sw_reti (pc := 65) C M dX9_tell_65
  · refine sw_iconst (pc := 11) (v := (-1)) C dX9_tell_11 (by decide) ?_
    exact sw_reti (pc := 12) C M dX9_tell_12
set_option maxRecDepth 100000 in
set_option maxHeartbeats 4000000 in
theorem mX9_joint   (a0 : Int32) : sw_Ki yX9_joint cX9_joint 2 (some .int) 3 (fun ad => [.ref (ad 0), .int a0]) (fX9_joint a0) := by
  refine sw_enteri (by decide) (fun ad => Nat.le_of_ble_eq_true rfl) (fun X ad t σ C hn M => ?_)
  change sw_J X ad t 0 [(0, .ref (ad 0)), (1, .int a0)] [] σ _
  replace C : sw_C X ad cX9_joint RX9 3 := C
  unfold fX9_joint
  refine sw_aloadn (pc := 0) 0 0 C dX9_joint_0 rfl ?_
  refine sw_getR (pc := 1) C kfX9_21 sh0 ff9_1 dX9_joint_1 ?_
  refine sw_iloadn (pc := 4) 1 1 C dX9_joint_4 rfl ?_
  refine sw_callVi (pc := 5) C (mX6_has saw5 a0) sgX6_has mlX9_107 dX9_joint_5 (by decide) [.int a0] [] saw5.1 rfl rfl rfl rfl (Nat.le_of_ble_eq_true rfl) (fun r1 σ2 => ?_)
  refine sw_if_ne (pc := 8) 13 C dX9_joint_8 (by decide) ?_ ?_
  · refine sw_aloadn (pc := 13) 0 0 C dX9_joint_13 rfl ?_
    refine sw_getR (pc := 14) C kfX9_21 sh0 ff9_1 dX9_joint_14 ?_
    refine sw_iloadn (pc := 17) 1 1 C dX9_joint_17 rfl ?_
    refine sw_callVi (pc := 18) C (mX6_kindOf saw5 a0) sgX6_kindOf mlX9_111 dX9_joint_18 (by decide) [.int a0] [] saw5.1 rfl rfl rfl rfl (Nat.le_of_ble_eq_true rfl) (fun r3 σ4 => ?_)
    refine sw_iconst (pc := 21) (v := 2) C dX9_joint_21 (by decide) ?_
    refine sw_icmp_ne (pc := 22) 33 C dX9_joint_22 (by decide) ?_ ?_
    · refine sw_aloadn (pc := 33) 0 0 C dX9_joint_33 rfl ?_
      refine sw_iconst (pc := 34) (v := 4) C dX9_joint_34 (by decide) ?_
      refine sw_callVv (pc := 35) C (mX9_leaveInTrail 4) sgX9_leaveInTrail mlX9_323 dX9_joint_35 (by decide) [.int 4] [] sh0 rfl rfl rfl rfl (Nat.le_of_ble_eq_true rfl) (fun r5 σ6 => ?_)
      refine sw_iloadn (pc := 38) 1 1 C dX9_joint_38 rfl ?_
      exact sw_reti (pc := 39) C M dX9_joint_39
    · refine sw_aloadn (pc := 25) 0 0 C dX9_joint_25 rfl ?_
      refine sw_iconst (pc := 26) (v := 5) C dX9_joint_26 (by decide) ?_
      refine sw_callVv (pc := 27) C (mX9_leaveInTrail 5) sgX9_leaveInTrail mlX9_323 dX9_joint_27 (by decide) [.int 5] [] sh0 rfl rfl rfl rfl (Nat.le_of_ble_eq_true rfl) (fun r7 σ8 => ?_)
      refine sw_bipush (pc := 30) (v := 70) C dX9_joint_30 (by decide) ?_
      exact sw_reti (pc := 32) C M dX9_joint_32
  · refine sw_iconst (pc := 11) (v := (-1)) C dX9_joint_11 (by decide) ?_
    exact sw_reti (pc := 12) C M dX9_joint_12
set_option maxRecDepth 100000 in
set_option maxHeartbeats 4000000 in
theorem mX9_as   (a0 : Int32) (a1 : Int32) : sw_Ki yX9_as cX9_as 3 (some .int) 3 (fun ad => [.ref (ad 0), .int a0, .int a1]) (fX9_as a0 a1) := by
  refine sw_enteri (by decide) (fun ad => Nat.le_of_ble_eq_true rfl) (fun X ad t σ C hn M => ?_)
  change sw_J X ad t 0 [(0, .ref (ad 0)), (1, .int a0), (2, .int a1)] [] σ _
  replace C : sw_C X ad cX9_as RX9 3 := C
  unfold fX9_as
  refine sw_aloadn (pc := 0) 0 0 C dX9_as_0 rfl ?_
  refine sw_iconst (pc := 1) (v := 0) C dX9_as_1 (by decide) ?_
  refine sw_putL (pc := 2) C kpX9_87 sh0 ff9_13 dX9_as_2 (fun σ1 => ?_)
  refine sw_aloadn (pc := 5) 0 0 C dX9_as_5 rfl ?_
  refine sw_getR (pc := 6) C kfX9_21 sh0 ff9_1 dX9_as_6 ?_
  refine sw_iloadn (pc := 9) 1 1 C dX9_as_9 rfl ?_
  refine sw_callVi (pc := 10) C (mX6_has saw5 a0) sgX6_has mlX9_107 dX9_as_10 (by decide) [.int a0] [] saw5.1 rfl rfl rfl rfl (Nat.le_of_ble_eq_true rfl) (fun r2 σ3 => ?_)
  refine sw_if_ne (pc := 13) 18 C dX9_as_13 (by decide) ?_ ?_
  · refine sw_iloadn (pc := 18) 2 2 C dX9_as_18 rfl ?_
    refine sw_iconst (pc := 19) (v := 0) C dX9_as_19 (by decide) ?_
    refine sw_iconst (pc := 20) (v := 2) C dX9_as_20 (by decide) ?_
    refine sw_callSi (pc := 21) C (mX9_isWithin a1 0 2) sgX9_isWithin mlX9_131 dX9_as_21 (by decide) [.int a1, .int 0, .int 2] [] rfl rfl rfl (Nat.le_of_ble_eq_true rfl) (fun r4 σ5 => ?_)
    refine sw_if_ne (pc := 24) 30 C dX9_as_24 (by decide) ?_ ?_
    · refine sw_aloadn (pc := 30) 0 0 C dX9_as_30 rfl ?_
      refine sw_getR (pc := 31) C kfX9_21 sh0 ff9_1 dX9_as_31 ?_
      refine sw_iloadn (pc := 34) 1 1 C dX9_as_34 rfl ?_
      refine sw_callVi (pc := 35) C (mX6_kindOf saw5 a0) sgX6_kindOf mlX9_111 dX9_as_35 (by decide) [.int a0] [] saw5.1 rfl rfl rfl rfl (Nat.le_of_ble_eq_true rfl) (fun r6 σ7 => ?_)
      refine sw_iloadn (pc := 38) 2 2 C dX9_as_38 rfl ?_
      refine sw_icmp_lt (pc := 39) 46 C dX9_as_39 (by decide) ?_ ?_
      · refine sw_aloadn (pc := 46) 0 0 C dX9_as_46 rfl ?_
        refine sw_iconst (pc := 47) (v := 2) C dX9_as_47 (by decide) ?_
        refine sw_callVi (pc := 48) C (mX9_answerOfFault 2) sgX9_answerOfFault mlX9_280 dX9_as_48 (by decide) [.int 2] [] sh0 rfl rfl rfl rfl (Nat.le_of_ble_eq_true rfl) (fun r8 σ9 => ?_)
        exact sw_reti (pc := 51) C M dX9_as_51
      · refine sw_iconst (pc := 42) (v := 1) C dX9_as_42 (by decide) ?_
        refine sw_goto (pc := 43) 51 C dX9_as_43 (by decide) ?_
        exact sw_reti (pc := 51) C M dX9_as_51
    · refine sw_bipush (pc := 27) (v := (-2)) C dX9_as_27 (by decide) ?_
      exact sw_reti (pc := 29) C M dX9_as_29
  · refine sw_iconst (pc := 16) (v := (-1)) C dX9_as_16 (by decide) ?_
    exact sw_reti (pc := 17) C M dX9_as_17
set_option maxRecDepth 100000 in
set_option maxHeartbeats 4000000 in
theorem mX9_trace    : sw_Ki yX9_trace cX9_trace 1 (some .int) 1 (fun ad => [.ref (ad 0)]) fX9_trace := by
  refine sw_enteri (by decide) (fun ad => Nat.le_of_ble_eq_true rfl) (fun X ad t σ C hn M => ?_)
  change sw_J X ad t 0 [(0, .ref (ad 0))] [] σ _
  replace C : sw_C X ad cX9_trace RX9 1 := C
  unfold fX9_trace
  refine sw_aloadn (pc := 0) 0 0 C dX9_trace_0 rfl ?_
  refine sw_getI (pc := 1) C kfX9_83 sh0 ff9_12 dX9_trace_1 ?_
  exact sw_reti (pc := 4) C M dX9_trace_4
set_option maxRecDepth 100000 in
set_option maxHeartbeats 4000000 in
theorem mX9_fault    : sw_Ki yX9_fault cX9_fault 1 (some .int) 1 (fun ad => [.ref (ad 0)]) fX9_fault := by
  refine sw_enteri (by decide) (fun ad => Nat.le_of_ble_eq_true rfl) (fun X ad t σ C hn M => ?_)
  change sw_J X ad t 0 [(0, .ref (ad 0))] [] σ _
  replace C : sw_C X ad cX9_fault RX9 1 := C
  unfold fX9_fault
  refine sw_aloadn (pc := 0) 0 0 C dX9_fault_0 rfl ?_
  refine sw_getI (pc := 1) C kfX9_87 sh0 ff9_13 dX9_fault_1 ?_
  exact sw_reti (pc := 4) C M dX9_fault_4
set_option maxRecDepth 100000 in
set_option maxHeartbeats 4000000 in
theorem mX9_many   (a0 : Int32) : sw_Ki yX9_many cX9_many 2 (some .int) 6 (fun ad => [.ref (ad 0), .int a0]) (fX9_many a0) := by
  refine sw_enteri (by decide) (fun ad => Nat.le_of_ble_eq_true rfl) (fun X ad t σ C hn M => ?_)
  change sw_J X ad t 0 [(0, .ref (ad 0)), (1, .int a0)] [] σ _
  replace C : sw_C X ad cX9_many RX9 6 := C
  unfold fX9_many
  refine sw_iloadn (pc := 0) 1 1 C dX9_many_0 rfl ?_
  refine sw_ite (fun h1 => ?_) (fun h1 => ?_)
  · refine sw_tabIn (pc := 1) (off := 35) 36 C dX9_many_1 (by rw [h1]; decide) (by rw [h1]; decide) (by rw [h1]; rfl) (by decide) ?_
    refine sw_aloadn (pc := 36) 0 0 C dX9_many_36 rfl ?_
    refine sw_getR (pc := 37) C kfX9_21 sh0 ff9_1 dX9_many_37 ?_
    refine sw_getI (pc := 40) C kfX9_106 saw5.1 rfl dX9_many_40 ?_
    exact sw_reti (pc := 43) C M dX9_many_43
  · skip
    refine sw_ite (fun h2 => ?_) (fun h2 => ?_)
    · refine sw_tabIn (pc := 1) (off := 43) 44 C dX9_many_1 (by rw [h2]; decide) (by rw [h2]; decide) (by rw [h2]; rfl) (by decide) ?_
      refine sw_aloadn (pc := 44) 0 0 C dX9_many_44 rfl ?_
      refine sw_getR (pc := 45) C kfX9_34 sh0 ff9_4 dX9_many_45 ?_
      refine sw_getI (pc := 48) C kfX9_155 sh17 rfl dX9_many_48 ?_
      exact sw_reti (pc := 51) C M dX9_many_51
    · skip
      refine sw_ite (fun h3 => ?_) (fun h3 => ?_)
      · refine sw_tabIn (pc := 1) (off := 51) 52 C dX9_many_1 (by rw [h3]; decide) (by rw [h3]; decide) (by rw [h3]; rfl) (by decide) ?_
        refine sw_aloadn (pc := 52) 0 0 C dX9_many_52 rfl ?_
        refine sw_getR (pc := 53) C kfX9_58 sh0 ff9_8 dX9_many_53 ?_
        refine sw_getI (pc := 56) C kfX9_102 sh26 rfl dX9_many_56 ?_
        exact sw_reti (pc := 59) C M dX9_many_59
      · skip
        refine sw_ite (fun h4 => ?_) (fun h4 => ?_)
        · refine sw_tabIn (pc := 1) (off := 59) 60 C dX9_many_1 (by rw [h4]; decide) (by rw [h4]; decide) (by rw [h4]; rfl) (by decide) ?_
          refine sw_aloadn (pc := 60) 0 0 C dX9_many_60 rfl ?_
          refine sw_getR (pc := 61) C kfX9_65 sh0 ff9_9 dX9_many_61 ?_
          refine sw_getI (pc := 64) C kfX9_105 sh30 rfl dX9_many_64 ?_
          exact sw_reti (pc := 67) C M dX9_many_67
        · skip
          refine sw_ite (fun h5 => ?_) (fun h5 => ?_)
          · refine sw_tabIn (pc := 1) (off := 67) 68 C dX9_many_1 (by rw [h5]; decide) (by rw [h5]; decide) (by rw [h5]; rfl) (by decide) ?_
            refine sw_aloadn (pc := 68) 0 0 C dX9_many_68 rfl ?_
            refine sw_callVi (pc := 69) C mX9_countStrokes sgX9_countStrokes mlX9_326 dX9_many_69 (by decide) [] [] sh0 rfl rfl rfl rfl (Nat.le_of_ble_eq_true rfl) (fun r6 σ7 => ?_)
            exact sw_reti (pc := 72) C M dX9_many_72
          · skip
            refine sw_tabOut (pc := 1) 73 C dX9_many_1 (by have qh1 := lv_neT (a := 0) h1 (by decide); have qh2 := lv_neT (a := 1) h2 (by decide); have qh3 := lv_neT (a := 2) h3 (by decide); have qh4 := lv_neT (a := 3) h4 (by decide); have qh5 := lv_neT (a := 4) h5 (by decide); omega) (by decide) ?_
            refine sw_bipush (pc := 73) (v := (-2)) C dX9_many_73 (by decide) ?_
            exact sw_reti (pc := 75) C M dX9_many_75
set_option maxRecDepth 100000 in
set_option maxHeartbeats 4000000 in
theorem mX10_in   (a0 : Int64) (a1 : Int64) (a2 : Int64) : sw_Ki yX10_in cX10_in 6 (some .boolean) 1 (fun ad => [.long a0, .long a1, .long a2]) (fX10_in a0 a1 a2) := by
  refine sw_enteri (by decide) (fun ad => Nat.le_of_ble_eq_true rfl) (fun X ad t σ C hn M => ?_)
  change sw_J X ad t 0 [(0, .long a0), (2, .long a1), (4, .long a2)] [] σ _
  replace C : sw_C X ad cX10_in RX10 1 := C
  unfold fX10_in
  refine sw_lloadn (pc := 0) 0 0 C dX10_in_0 rfl ?_
  refine sw_lloadn (pc := 1) 2 1 C dX10_in_1 rfl ?_
  refine sw_lcmp (pc := 2) C dX10_in_2 ?_
  refine sw_if_lt (pc := 3) 17 C dX10_in_3 (by decide) ?_ ?_
  · refine sw_iconst (pc := 17) (v := 0) C dX10_in_17 (by decide) ?_
    exact sw_retiz (pc := 18) rfl C M dX10_in_18
  · refine sw_lloadn (pc := 6) 0 0 C dX10_in_6 rfl ?_
    refine sw_lload (pc := 7) 2 C dX10_in_7 rfl ?_
    refine sw_lcmp (pc := 9) C dX10_in_9 ?_
    refine sw_if_gt (pc := 10) 17 C dX10_in_10 (by decide) ?_ ?_
    · refine sw_iconst (pc := 17) (v := 0) C dX10_in_17 (by decide) ?_
      exact sw_retiz (pc := 18) rfl C M dX10_in_18
    · refine sw_iconst (pc := 13) (v := 1) C dX10_in_13 (by decide) ?_
      refine sw_goto (pc := 14) 18 C dX10_in_14 (by decide) ?_
      exact sw_retiz (pc := 18) rfl C M dX10_in_18
set_option maxRecDepth 100000 in
set_option maxHeartbeats 4000000 in
theorem mX10_lost    : sw_Kl yX10_lost cX10_lost 0 (some .long) 1 (fun ad => []) fX10_lost := by
  refine sw_enterl (by decide) (fun ad => Nat.le_of_ble_eq_true rfl) (fun X ad t σ C hn M => ?_)
  change sw_J X ad t 0 [] [] σ _
  replace C : sw_C X ad cX10_lost RX10 1 := C
  unfold fX10_lost
  refine sw_ldc2 (pc := 0) C dX10_lost_0 klX10_85 ?_
  exact sw_retl (pc := 3) C M dX10_lost_3
set_option maxRecDepth 100000 in
set_option maxHeartbeats 4000000 in
theorem mX10_greater   (a0 : Int32) (a1 : Int32) : sw_Ki yX10_greater cX10_greater 2 (some .int) 1 (fun ad => [.int a0, .int a1]) (fX10_greater a0 a1) := by
  refine sw_enteri (by decide) (fun ad => Nat.le_of_ble_eq_true rfl) (fun X ad t σ C hn M => ?_)
  change sw_J X ad t 0 [(0, .int a0), (1, .int a1)] [] σ _
  replace C : sw_C X ad cX10_greater RX10 1 := C
  unfold fX10_greater
  refine sw_iloadn (pc := 0) 0 0 C dX10_greater_0 rfl ?_
  refine sw_iloadn (pc := 1) 1 1 C dX10_greater_1 rfl ?_
  refine sw_icmp_le (pc := 2) 9 C dX10_greater_2 (by decide) ?_ ?_
  · refine sw_iloadn (pc := 9) 1 1 C dX10_greater_9 rfl ?_
    exact sw_reti (pc := 10) C M dX10_greater_10
  · refine sw_iloadn (pc := 5) 0 0 C dX10_greater_5 rfl ?_
    refine sw_goto (pc := 6) 10 C dX10_greater_6 (by decide) ?_
    exact sw_reti (pc := 10) C M dX10_greater_10
set_option maxRecDepth 100000 in
set_option maxHeartbeats 4000000 in
theorem mX10_size   (a0 : Int32) : sw_Ki yX10_size cX10_size 1 (some .int) 1 (fun ad => [.int a0]) (fX10_size a0) := by
  refine sw_enteri (by decide) (fun ad => Nat.le_of_ble_eq_true rfl) (fun X ad t σ C hn M => ?_)
  change sw_J X ad t 0 [(0, .int a0)] [] σ _
  replace C : sw_C X ad cX10_size RX10 1 := C
  unfold fX10_size
  refine sw_iloadn (pc := 0) 0 0 C dX10_size_0 rfl ?_
  refine sw_if_ge (pc := 1) 9 C dX10_size_1 (by decide) ?_ ?_
  · refine sw_iloadn (pc := 9) 0 0 C dX10_size_9 rfl ?_
    exact sw_reti (pc := 10) C M dX10_size_10
  · refine sw_iloadn (pc := 4) 0 0 C dX10_size_4 rfl ?_
    refine sw_ineg (pc := 5) C dX10_size_5 ?_
    refine sw_goto (pc := 6) 10 C dX10_size_6 (by decide) ?_
    exact sw_reti (pc := 10) C M dX10_size_10
set_option maxRecDepth 100000 in
set_option maxHeartbeats 4000000 in
theorem mX10_refused   (a0 : Int32) : sw_Ki yX10_refused cX10_refused 2 (some .int) 1 (fun ad => [.ref (ad 37), .int a0]) (fX10_refused a0) := by
  refine sw_enteri (by decide) (fun ad => Nat.le_of_ble_eq_true rfl) (fun X ad t σ C hn M => ?_)
  change sw_J X ad t 0 [(0, .ref (ad 37)), (1, .int a0)] [] σ _
  replace C : sw_C X ad cX10_refused RX10 1 := C
  unfold fX10_refused
  refine sw_aloadn (pc := 0) 0 0 C dX10_refused_0 rfl ?_
  refine sw_iconst (pc := 1) (v := 0) C dX10_refused_1 (by decide) ?_
  refine sw_putL (pc := 2) C kpX10_87 sh37 ff10_0 dX10_refused_2 (fun σ1 => ?_)
  refine sw_iloadn (pc := 5) 1 1 C dX10_refused_5 rfl ?_
  exact sw_reti (pc := 6) C M dX10_refused_6
set_option maxRecDepth 100000 in
set_option maxHeartbeats 4000000 in
theorem mX10_failed   (a0 : Int32) : sw_Ki yX10_failed cX10_failed 2 (some .int) 1 (fun ad => [.ref (ad 37), .int a0]) (fX10_failed a0) := by
  refine sw_enteri (by decide) (fun ad => Nat.le_of_ble_eq_true rfl) (fun X ad t σ C hn M => ?_)
  change sw_J X ad t 0 [(0, .ref (ad 37)), (1, .int a0)] [] σ _
  replace C : sw_C X ad cX10_failed RX10 1 := C
  unfold fX10_failed
  refine sw_aloadn (pc := 0) 0 0 C dX10_failed_0 rfl ?_
  refine sw_iloadn (pc := 1) 1 1 C dX10_failed_1 rfl ?_
  refine sw_putL (pc := 2) C kpX10_87 sh37 ff10_0 dX10_failed_2 (fun σ1 => ?_)
  refine sw_bipush (pc := 5) (v := (-10)) C dX10_failed_5 (by decide) ?_
  refine sw_iloadn (pc := 7) 1 1 C dX10_failed_7 rfl ?_
  refine sw_isub (pc := 8) C dX10_failed_8 ?_
  exact sw_reti (pc := 9) C M dX10_failed_9
set_option maxRecDepth 100000 in
set_option maxHeartbeats 4000000 in
theorem mX10_failedLong   (a0 : Int32) : sw_Kl yX10_failedLong cX10_failedLong 2 (some .long) 2 (fun ad => [.ref (ad 37), .int a0]) (fX10_failedLong a0) := by
  refine sw_enterl (by decide) (fun ad => Nat.le_of_ble_eq_true rfl) (fun X ad t σ C hn M => ?_)
  change sw_J X ad t 0 [(0, .ref (ad 37)), (1, .int a0)] [] σ _
  replace C : sw_C X ad cX10_failedLong RX10 2 := C
  unfold fX10_failedLong
  refine sw_aloadn (pc := 0) 0 0 C dX10_failedLong_0 rfl ?_
  refine sw_iloadn (pc := 1) 1 1 C dX10_failedLong_1 rfl ?_
  refine sw_putL (pc := 2) C kpX10_87 sh37 ff10_0 dX10_failedLong_2 (fun σ1 => ?_)
  refine sw_callSl (pc := 5) C mX10_lost sgX10_lost mlX10_91 dX10_failedLong_5 (by decide) [] [] rfl rfl rfl (Nat.le_of_ble_eq_true rfl) (fun r2 σ3 => ?_)
  exact sw_retl (pc := 8) C M dX10_failedLong_8
set_option maxRecDepth 100000 in
set_option maxHeartbeats 4000000 in
theorem mX10_noSheet   (a0 : Int32) : sw_Ki yX10_noSheet cX10_noSheet 1 (some .boolean) 2 (fun ad => [.int a0]) (fX10_noSheet a0) := by
  refine sw_enteri (by decide) (fun ad => Nat.le_of_ble_eq_true rfl) (fun X ad t σ C hn M => ?_)
  change sw_J X ad t 0 [(0, .int a0)] [] σ _
  replace C : sw_C X ad cX10_noSheet RX10 2 := C
  unfold fX10_noSheet
  refine sw_iloadn (pc := 0) 0 0 C dX10_noSheet_0 rfl ?_
  refine sw_i2l (pc := 1) C dX10_noSheet_1 ?_
  refine sw_lconst (pc := 2) (v := 0) C dX10_noSheet_2 (by decide) ?_
  refine sw_ldc2 (pc := 3) C dX10_noSheet_3 klX10_223 ?_
  refine sw_callSi (pc := 6) C (mX10_in (Int32.toInt64 a0) (0 : Int64) (3 : Int64)) sgX10_in mlX10_105 dX10_noSheet_6 (by decide) [.long (Int32.toInt64 a0), .long (0 : Int64), .long (3 : Int64)] [] rfl rfl rfl (Nat.le_of_ble_eq_true rfl) (fun r1 σ2 => ?_)
  refine sw_if_ne (pc := 9) 16 C dX10_noSheet_9 (by decide) ?_ ?_
  · refine sw_iconst (pc := 16) (v := 0) C dX10_noSheet_16 (by decide) ?_
    exact sw_retiz (pc := 17) rfl C M dX10_noSheet_17
  · refine sw_iconst (pc := 12) (v := 1) C dX10_noSheet_12 (by decide) ?_
    refine sw_goto (pc := 13) 17 C dX10_noSheet_13 (by decide) ?_
    exact sw_retiz (pc := 17) rfl C M dX10_noSheet_17
set_option maxRecDepth 100000 in
set_option maxHeartbeats 4000000 in
theorem mX10_isBeyond   (a0 : Int32) (a1 : Int64) (a2 : Int32) : sw_Ki yX10_isBeyond cX10_isBeyond 4 (some .boolean) 1 (fun ad => [.int a0, .long a1, .int a2]) (fX10_isBeyond a0 a1 a2) := by
  refine sw_enteri (by decide) (fun ad => Nat.le_of_ble_eq_true rfl) (fun X ad t σ C hn M => ?_)
  change sw_J X ad t 0 [(0, .int a0), (1, .long a1), (3, .int a2)] [] σ _
  replace C : sw_C X ad cX10_isBeyond RX10 1 := C
  unfold fX10_isBeyond
  refine sw_iloadn (pc := 0) 0 0 C dX10_isBeyond_0 rfl ?_
  refine sw_if_lt (pc := 1) 20 C dX10_isBeyond_1 (by decide) ?_ ?_
  · refine sw_iconst (pc := 20) (v := 1) C dX10_isBeyond_20 (by decide) ?_
    refine sw_goto (pc := 21) 25 C dX10_isBeyond_21 (by decide) ?_
    exact sw_retiz (pc := 25) rfl C M dX10_isBeyond_25
  · refine sw_lloadn (pc := 4) 1 1 C dX10_isBeyond_4 rfl ?_
    refine sw_lconst (pc := 5) (v := 0) C dX10_isBeyond_5 (by decide) ?_
    refine sw_lcmp (pc := 6) C dX10_isBeyond_6 ?_
    refine sw_if_lt (pc := 7) 20 C dX10_isBeyond_7 (by decide) ?_ ?_
    · refine sw_iconst (pc := 20) (v := 1) C dX10_isBeyond_20 (by decide) ?_
      refine sw_goto (pc := 21) 25 C dX10_isBeyond_21 (by decide) ?_
      exact sw_retiz (pc := 25) rfl C M dX10_isBeyond_25
    · refine sw_iloadn (pc := 10) 0 0 C dX10_isBeyond_10 rfl ?_
      refine sw_i2l (pc := 11) C dX10_isBeyond_11 ?_
      refine sw_lloadn (pc := 12) 1 1 C dX10_isBeyond_12 rfl ?_
      refine sw_ladd (pc := 13) C dX10_isBeyond_13 ?_
      refine sw_iloadn (pc := 14) 3 2 C dX10_isBeyond_14 rfl ?_
      refine sw_i2l (pc := 15) C dX10_isBeyond_15 ?_
      refine sw_lcmp (pc := 16) C dX10_isBeyond_16 ?_
      refine sw_if_le (pc := 17) 24 C dX10_isBeyond_17 (by decide) ?_ ?_
      · refine sw_iconst (pc := 24) (v := 0) C dX10_isBeyond_24 (by decide) ?_
        exact sw_retiz (pc := 25) rfl C M dX10_isBeyond_25
      · refine sw_iconst (pc := 20) (v := 1) C dX10_isBeyond_20 (by decide) ?_
        refine sw_goto (pc := 21) 25 C dX10_isBeyond_21 (by decide) ?_
        exact sw_retiz (pc := 25) rfl C M dX10_isBeyond_25
set_option maxRecDepth 100000 in
set_option maxHeartbeats 4000000 in
theorem jX10_barred_B57 {X : sw_X} {ad : Nat → Nat} {t : Int32 × sw_St} (C : sw_C X ad cX10_barred RX10 3) (hn : sw_nL X = 6) (M : sw_Mi X ad (some .int) t)   (v1 : Int32) (v3 : Int32) (v4 : Int64) (σ : sw_St) : sw_J X ad t 57 [(0, .ref (ad 37)), (1, .int v1), (3, .int v3), (4, .long v4)] [] σ (fX10_barred_B57  v1 v3 v4 σ) := by
  unfold fX10_barred_B57
  refine sw_aloadn (pc := 57) 0 0 C dX10_barred_57 rfl ?_
  refine sw_getR (pc := 58) C kfX10_73 sh37 ff10_41 dX10_barred_58 ?_
  refine sw_iloadn (pc := 61) 1 1 C dX10_barred_61 rfl ?_
  refine sw_iald (pc := 62) C sh59 dX10_barred_62 ?_
  refine sw_if_ge (pc := 63) 72 C dX10_barred_63 (by decide) ?_ ?_
  · refine sw_lload (pc := 72) 3 C dX10_barred_72 rfl ?_
    refine sw_lconst (pc := 74) (v := 0) C dX10_barred_74 (by decide) ?_
    refine sw_lcmp (pc := 75) C dX10_barred_75 ?_
    refine sw_if_ge (pc := 76) 85 C dX10_barred_76 (by decide) ?_ ?_
    · refine sw_iloadn (pc := 85) 3 2 C dX10_barred_85 rfl ?_
      refine sw_lload (pc := 86) 3 C dX10_barred_86 rfl ?_
      refine sw_aloadn (pc := 88) 0 0 C dX10_barred_88 rfl ?_
      refine sw_getR (pc := 89) C kfX10_73 sh37 ff10_41 dX10_barred_89 ?_
      refine sw_iloadn (pc := 92) 1 1 C dX10_barred_92 rfl ?_
      refine sw_iald (pc := 93) C sh59 dX10_barred_93 ?_
      refine sw_callSi (pc := 94) C (mX10_isBeyond v3 v4 (σ 59 (Int32.toNatClampNeg v1))) sgX10_isBeyond mlX10_112 dX10_barred_94 (by decide) [.int v3, .long v4, .int (σ 59 (Int32.toNatClampNeg v1))] [] rfl rfl rfl (Nat.le_of_ble_eq_true rfl) (fun r11 σ12 => ?_)
      refine sw_if_eq (pc := 97) 108 C dX10_barred_97 (by decide) ?_ ?_
      · refine sw_iconst (pc := 108) (v := 0) C dX10_barred_108 (by decide) ?_
        exact sw_reti (pc := 109) C M dX10_barred_109
      · refine sw_aloadn (pc := 100) 0 0 C dX10_barred_100 rfl ?_
        refine sw_iconst (pc := 101) (v := 3) C dX10_barred_101 (by decide) ?_
        refine sw_callVi (pc := 102) C (mX10_failed 3) sgX10_failed mlX10_109 dX10_barred_102 (by decide) [.int 3] [] sh37 rfl rfl rfl rfl (Nat.le_of_ble_eq_true rfl) (fun r13 σ14 => ?_)
        refine sw_goto (pc := 105) 109 C dX10_barred_105 (by decide) ?_
        exact sw_reti (pc := 109) C M dX10_barred_109
    · refine sw_aloadn (pc := 79) 0 0 C dX10_barred_79 rfl ?_
      refine sw_iconst (pc := 80) (v := 4) C dX10_barred_80 (by decide) ?_
      refine sw_callVi (pc := 81) C (mX10_failed 4) sgX10_failed mlX10_109 dX10_barred_81 (by decide) [.int 4] [] sh37 rfl rfl rfl rfl (Nat.le_of_ble_eq_true rfl) (fun r15 σ16 => ?_)
      exact sw_reti (pc := 84) C M dX10_barred_84
  · refine sw_aloadn (pc := 66) 0 0 C dX10_barred_66 rfl ?_
    refine sw_iconst (pc := 67) (v := 1) C dX10_barred_67 (by decide) ?_
    refine sw_callVi (pc := 68) C (mX10_failed 1) sgX10_failed mlX10_109 dX10_barred_68 (by decide) [.int 1] [] sh37 rfl rfl rfl rfl (Nat.le_of_ble_eq_true rfl) (fun r17 σ18 => ?_)
    exact sw_reti (pc := 71) C M dX10_barred_71
set_option maxRecDepth 100000 in
set_option maxHeartbeats 4000000 in
theorem mX10_barred   (a0 : Int32) (a1 : Int32) (a2 : Int32) (a3 : Int64) : sw_Ki yX10_barred cX10_barred 6 (some .int) 3 (fun ad => [.ref (ad 37), .int a0, .int a1, .int a2, .long a3]) (fX10_barred a0 a1 a2 a3) := by
  refine sw_enteri (by decide) (fun ad => Nat.le_of_ble_eq_true rfl) (fun X ad t σ C hn M => ?_)
  change sw_J X ad t 0 [(0, .ref (ad 37)), (1, .int a0), (2, .int a1), (3, .int a2), (4, .long a3)] [] σ _
  replace C : sw_C X ad cX10_barred RX10 3 := C
  unfold fX10_barred
  refine sw_iloadn (pc := 0) 1 1 C dX10_barred_0 rfl ?_
  refine sw_callSi (pc := 1) C (mX10_noSheet a0) sgX10_noSheet mlX10_95 dX10_barred_1 (by decide) [.int a0] [] rfl rfl rfl (Nat.le_of_ble_eq_true rfl) (fun r1 σ2 => ?_)
  refine sw_if_eq (pc := 4) 13 C dX10_barred_4 (by decide) ?_ ?_
  · refine sw_iloadn (pc := 13) 2 2 C dX10_barred_13 rfl ?_
    refine sw_i2l (pc := 14) C dX10_barred_14 ?_
    refine sw_lconst (pc := 15) (v := 0) C dX10_barred_15 (by decide) ?_
    refine sw_ldc2 (pc := 16) C dX10_barred_16 klX10_103 ?_
    refine sw_callSi (pc := 19) C (mX10_in (Int32.toInt64 a1) (0 : Int64) (2 : Int64)) sgX10_in mlX10_105 dX10_barred_19 (by decide) [.long (Int32.toInt64 a1), .long (0 : Int64), .long (2 : Int64)] [] rfl rfl rfl (Nat.le_of_ble_eq_true rfl) (fun r3 σ4 => ?_)
    refine sw_if_ne (pc := 22) 32 C dX10_barred_22 (by decide) ?_ ?_
    · refine sw_aloadn (pc := 32) 0 0 C dX10_barred_32 rfl ?_
      refine sw_getR (pc := 33) C kfX10_73 sh37 ff10_41 dX10_barred_33 ?_
      refine sw_iloadn (pc := 36) 1 1 C dX10_barred_36 rfl ?_
      refine sw_iald (pc := 37) C sh59 dX10_barred_37 ?_
      refine sw_if_lt (pc := 38) 57 C dX10_barred_38 (by decide) ?_ ?_
      · refine sw_lpick (pc := 57) (L' := [(0, .ref (ad 37)), (1, .int a0), (3, .int a2), (4, .long a3)]) [0, 1, 3, 4] rfl ?_
        exact jX10_barred_B57 C hn M  _ _ _ _
      · refine sw_aloadn (pc := 41) 0 0 C dX10_barred_41 rfl ?_
        refine sw_getR (pc := 42) C kfX10_76 sh37 ff10_42 dX10_barred_42 ?_
        refine sw_iloadn (pc := 45) 1 1 C dX10_barred_45 rfl ?_
        refine sw_iald (pc := 46) C sh60 dX10_barred_46 ?_
        refine sw_iloadn (pc := 47) 2 2 C dX10_barred_47 rfl ?_
        refine sw_icmp_eq (pc := 48) 57 C dX10_barred_48 (by decide) ?_ ?_
        · refine sw_lpick (pc := 57) (L' := [(0, .ref (ad 37)), (1, .int a0), (3, .int a2), (4, .long a3)]) [0, 1, 3, 4] rfl ?_
          exact jX10_barred_B57 C hn M  _ _ _ _
        · refine sw_aloadn (pc := 51) 0 0 C dX10_barred_51 rfl ?_
          refine sw_iconst (pc := 52) (v := 2) C dX10_barred_52 (by decide) ?_
          refine sw_callVi (pc := 53) C (mX10_failed 2) sgX10_failed mlX10_109 dX10_barred_53 (by decide) [.int 2] [] sh37 rfl rfl rfl rfl (Nat.le_of_ble_eq_true rfl) (fun r5 σ6 => ?_)
          exact sw_reti (pc := 56) C M dX10_barred_56
    · refine sw_aloadn (pc := 25) 0 0 C dX10_barred_25 rfl ?_
      refine sw_bipush (pc := 26) (v := (-2)) C dX10_barred_26 (by decide) ?_
      refine sw_callVi (pc := 28) C (mX10_refused (-2)) sgX10_refused mlX10_99 dX10_barred_28 (by decide) [.int (-2)] [] sh37 rfl rfl rfl rfl (Nat.le_of_ble_eq_true rfl) (fun r7 σ8 => ?_)
      exact sw_reti (pc := 31) C M dX10_barred_31
  · refine sw_aloadn (pc := 7) 0 0 C dX10_barred_7 rfl ?_
    refine sw_iconst (pc := 8) (v := (-1)) C dX10_barred_8 (by decide) ?_
    refine sw_callVi (pc := 9) C (mX10_refused (-1)) sgX10_refused mlX10_99 dX10_barred_9 (by decide) [.int (-1)] [] sh37 rfl rfl rfl rfl (Nat.le_of_ble_eq_true rfl) (fun r9 σ10 => ?_)
    exact sw_reti (pc := 12) C M dX10_barred_12
set_option maxRecDepth 100000 in
set_option maxHeartbeats 4000000 in
theorem mX10_noTooth   (a0 : Int32) : sw_Ki yX10_noTooth cX10_noTooth 2 (some .boolean) 2 (fun ad => [.ref (ad 37), .int a0]) (fX10_noTooth a0) := by
  refine sw_enteri (by decide) (fun ad => Nat.le_of_ble_eq_true rfl) (fun X ad t σ C hn M => ?_)
  change sw_J X ad t 0 [(0, .ref (ad 37)), (1, .int a0)] [] σ _
  replace C : sw_C X ad cX10_noTooth RX10 2 := C
  unfold fX10_noTooth
  refine sw_iloadn (pc := 0) 1 1 C dX10_noTooth_0 rfl ?_
  refine sw_i2l (pc := 1) C dX10_noTooth_1 ?_
  refine sw_lconst (pc := 2) (v := 0) C dX10_noTooth_2 (by decide) ?_
  refine sw_aloadn (pc := 3) 0 0 C dX10_noTooth_3 rfl ?_
  refine sw_getI (pc := 4) C kfX10_116 sh37 ff10_1 dX10_noTooth_4 ?_
  refine sw_i2l (pc := 7) C dX10_noTooth_7 ?_
  refine sw_lconst (pc := 8) (v := 1) C dX10_noTooth_8 (by decide) ?_
  refine sw_lsub (pc := 9) C dX10_noTooth_9 ?_
  refine sw_callSi (pc := 10) C (mX10_in (Int32.toInt64 a0) (0 : Int64) ((Int32.toInt64 (σ 37 1)) - (1 : Int64))) sgX10_in mlX10_105 dX10_noTooth_10 (by decide) [.long (Int32.toInt64 a0), .long (0 : Int64), .long ((Int32.toInt64 (σ 37 1)) - (1 : Int64))] [] rfl rfl rfl (Nat.le_of_ble_eq_true rfl) (fun r1 σ2 => ?_)
  refine sw_if_ne (pc := 13) 20 C dX10_noTooth_13 (by decide) ?_ ?_
  · refine sw_iconst (pc := 20) (v := 0) C dX10_noTooth_20 (by decide) ?_
    exact sw_retiz (pc := 21) rfl C M dX10_noTooth_21
  · refine sw_iconst (pc := 16) (v := 1) C dX10_noTooth_16 (by decide) ?_
    refine sw_goto (pc := 17) 21 C dX10_noTooth_17 (by decide) ?_
    exact sw_retiz (pc := 21) rfl C M dX10_noTooth_21
set_option maxRecDepth 100000 in
set_option maxHeartbeats 4000000 in
theorem mX10_sideBy   (a0 : Int32) : sw_Ki yX10_sideBy cX10_sideBy 1 (some .int) 1 (fun ad => [.int a0]) (fX10_sideBy a0) := by
  refine sw_enteri (by decide) (fun ad => Nat.le_of_ble_eq_true rfl) (fun X ad t σ C hn M => ?_)
  change sw_J X ad t 0 [(0, .int a0)] [] σ _
  replace C : sw_C X ad cX10_sideBy RX10 1 := C
  unfold fX10_sideBy
  refine sw_iloadn (pc := 0) 0 0 C dX10_sideBy_0 rfl ?_
  refine sw_bipush (pc := 1) (v := 108) C dX10_sideBy_1 (by decide) ?_
  refine sw_icmp_ne (pc := 3) 10 C dX10_sideBy_3 (by decide) ?_ ?_
  · refine sw_iloadn (pc := 10) 0 0 C dX10_sideBy_10 rfl ?_
    refine sw_bipush (pc := 11) (v := 99) C dX10_sideBy_11 (by decide) ?_
    refine sw_icmp_ne (pc := 13) 20 C dX10_sideBy_13 (by decide) ?_ ?_
    · refine sw_iloadn (pc := 20) 0 0 C dX10_sideBy_20 rfl ?_
      refine sw_bipush (pc := 21) (v := 114) C dX10_sideBy_21 (by decide) ?_
      refine sw_icmp_ne (pc := 23) 30 C dX10_sideBy_23 (by decide) ?_ ?_
      · refine sw_bipush (pc := 30) (v := (-9)) C dX10_sideBy_30 (by decide) ?_
        exact sw_reti (pc := 32) C M dX10_sideBy_32
      · refine sw_iconst (pc := 26) (v := 1) C dX10_sideBy_26 (by decide) ?_
        refine sw_goto (pc := 27) 32 C dX10_sideBy_27 (by decide) ?_
        exact sw_reti (pc := 32) C M dX10_sideBy_32
    · refine sw_iconst (pc := 16) (v := 0) C dX10_sideBy_16 (by decide) ?_
      refine sw_goto (pc := 17) 32 C dX10_sideBy_17 (by decide) ?_
      exact sw_reti (pc := 32) C M dX10_sideBy_32
  · refine sw_iconst (pc := 6) (v := (-1)) C dX10_sideBy_6 (by decide) ?_
    refine sw_goto (pc := 7) 32 C dX10_sideBy_7 (by decide) ?_
    exact sw_reti (pc := 32) C M dX10_sideBy_32
set_option maxRecDepth 100000 in
set_option maxHeartbeats 4000000 in
theorem jX10_readsFigures_B36 {X : sw_X} {ad : Nat → Nat} {t : Int32 × sw_St} (C : sw_C X ad cX10_readsFigures RX10 2) (hn : sw_nL X = 6) (M : sw_Mi X ad (some .boolean) t)   {K3 : Int32 → Int32 → Int32 → Int32 → sw_St → Option (Int32 × sw_St)} (hK3 : ∀ (z1 : Int32) (z2 : Int32) (z3 : Int32) (z4 : Int32) (τ : sw_St), sw_J X ad t 3 [(0, .ref (ad 37)), (1, .int z1), (2, .int z2), (3, .int z3), (4, .int z4)] [] τ (K3 z1 z2 z3 z4 τ)) (v1 : Int32) (v2 : Int32) (v3 : Int32) (v4 : Int32) (s0 : Int32) (σ : sw_St) : sw_J X ad t 36 [(0, .ref (ad 37)), (1, .int v1), (2, .int v2), (3, .int v3), (4, .int v4)] [.int s0] σ (fX10_readsFigures_B36 K3 v1 v2 v3 v4 s0 σ) := by
  unfold fX10_readsFigures_B36
  refine sw_istore (pc := 36) [(5, .int s0), (0, .ref (ad 37)), (1, .int v1), (2, .int v2), (3, .int v3), (4, .int v4)] C dX10_readsFigures_36 (by rw [hn]; decide) rfl ?_
  refine sw_iload (pc := 38) 0 C dX10_readsFigures_38 rfl ?_
  refine sw_i2l (pc := 40) C dX10_readsFigures_40 ?_
  refine sw_lconst (pc := 41) (v := 0) C dX10_readsFigures_41 (by decide) ?_
  refine sw_ldc2 (pc := 42) C dX10_readsFigures_42 klX10_122 ?_
  refine sw_callSi (pc := 45) C (mX10_in (Int32.toInt64 s0) (0 : Int64) (9 : Int64)) sgX10_in mlX10_105 dX10_readsFigures_45 (by decide) [.long (Int32.toInt64 s0), .long (0 : Int64), .long (9 : Int64)] [] rfl rfl rfl (Nat.le_of_ble_eq_true rfl) (fun r1 σ2 => ?_)
  refine sw_if_ne (pc := 48) 53 C dX10_readsFigures_48 (by decide) ?_ ?_
  · refine sw_aloadn (pc := 53) 0 1 C dX10_readsFigures_53 rfl ?_
    refine sw_getR (pc := 54) C kfX10_31 sh37 ff10_11 dX10_readsFigures_54 ?_
    refine sw_iconst (pc := 57) (v := 3) C dX10_readsFigures_57 (by decide) ?_
    refine sw_iloadn (pc := 58) 3 4 C dX10_readsFigures_58 rfl ?_
    refine sw_imul (pc := 59) C dX10_readsFigures_59 ?_
    refine sw_iload (pc := 60) 5 C dX10_readsFigures_60 rfl ?_
    refine sw_iadd (pc := 62) C dX10_readsFigures_62 ?_
    refine sw_iload (pc := 63) 0 C dX10_readsFigures_63 rfl ?_
    refine sw_iastL (pc := 65) C sh45 dX10_readsFigures_65 (fun σ3 => ?_)
    refine sw_aloadn (pc := 66) 0 1 C dX10_readsFigures_66 rfl ?_
    refine sw_dup (pc := 67) C dX10_readsFigures_67 rfl ?_
    refine sw_getI (pc := 68) C kfX10_119 sh37 ff10_7 dX10_readsFigures_68 ?_
    refine sw_iconst (pc := 71) (v := 1) C dX10_readsFigures_71 (by decide) ?_
    refine sw_iadd (pc := 72) C dX10_readsFigures_72 ?_
    refine sw_putL (pc := 73) C kpX10_119 sh37 ff10_7 dX10_readsFigures_73 (fun σ4 => ?_)
    refine sw_iinc (pc := 76) (v4 + 1) 5 [(4, .int (v4 + 1)), (5, .int s0), (0, .ref (ad 37)), (1, .int v1), (2, .int v2), (3, .int v3)] C dX10_readsFigures_76 (by rw [hn]; decide) rfl rfl rfl ?_
    refine sw_goto (pc := 79) 3 C dX10_readsFigures_79 (by decide) ?_
    refine sw_lpick (pc := 3) (L' := [(0, .ref (ad 37)), (1, .int v1), (2, .int v2), (3, .int v3), (4, .int (v4 + 1))]) [2, 3, 4, 5, 0] rfl ?_
    exact hK3 _ _ _ _ _
  · refine sw_iconst (pc := 51) (v := 0) C dX10_readsFigures_51 (by decide) ?_
    exact sw_retiz (pc := 52) rfl C M dX10_readsFigures_52
set_option maxRecDepth 100000 in
set_option maxHeartbeats 4000000 in
theorem jX10_readsFigures_L3 {X : sw_X} {ad : Nat → Nat} {t : Int32 × sw_St} (C : sw_C X ad cX10_readsFigures RX10 2) (hn : sw_nL X = 6) (M : sw_Mi X ad (some .boolean) t)   : ∀ (n : Nat) (v1 : Int32) (v2 : Int32) (v3 : Int32) (v4 : Int32) (σ : sw_St), sw_J X ad t 3 [(0, .ref (ad 37)), (1, .int v1), (2, .int v2), (3, .int v3), (4, .int v4)] [] σ (fX10_readsFigures_L3  n v1 v2 v3 v4 σ) := by
  intro n
  induction n with
  | zero => exact fun _ _ _ _ _ => sw_none
  | succ n ih =>
    intro v1 v2 v3 v4 σ
    unfold fX10_readsFigures_L3
    refine sw_iload (pc := 3) 4 C dX10_readsFigures_3 rfl ?_
    refine sw_iconst (pc := 5) (v := 3) C dX10_readsFigures_5 (by decide) ?_
    refine sw_icmp_ge (pc := 6) 82 C dX10_readsFigures_6 (by decide) ?_ ?_
    · refine sw_iconst (pc := 82) (v := 1) C dX10_readsFigures_82 (by decide) ?_
      exact sw_retiz (pc := 83) rfl C M dX10_readsFigures_83
    · refine sw_aloadn (pc := 9) 0 0 C dX10_readsFigures_9 rfl ?_
      refine sw_getI (pc := 10) C kfX10_119 sh37 ff10_7 dX10_readsFigures_10 ?_
      refine sw_iloadn (pc := 13) 2 2 C dX10_readsFigures_13 rfl ?_
      refine sw_icmp_ge (pc := 14) 34 C dX10_readsFigures_14 (by decide) ?_ ?_
      · refine sw_bipush (pc := 34) (v := (-9)) C dX10_readsFigures_34 (by decide) ?_
        exact jX10_readsFigures_B36 C hn M ih _ _ _ _ _ _
      · refine sw_aloadn (pc := 17) 0 0 C dX10_readsFigures_17 rfl ?_
        refine sw_getR (pc := 18) C kfX10_79 sh37 ff10_43 dX10_readsFigures_18 ?_
        refine sw_iloadn (pc := 21) 1 1 C dX10_readsFigures_21 rfl ?_
        refine sw_aloadn (pc := 22) 0 0 C dX10_readsFigures_22 rfl ?_
        refine sw_getI (pc := 23) C kfX10_119 sh37 ff10_7 dX10_readsFigures_23 ?_
        refine sw_iadd (pc := 26) C dX10_readsFigures_26 ?_
        refine sw_iald (pc := 27) C sh61 dX10_readsFigures_27 ?_
        refine sw_bipush (pc := 28) (v := 48) C dX10_readsFigures_28 (by decide) ?_
        refine sw_isub (pc := 30) C dX10_readsFigures_30 ?_
        refine sw_goto (pc := 31) 36 C dX10_readsFigures_31 (by decide) ?_
        exact jX10_readsFigures_B36 C hn M ih _ _ _ _ _ _
set_option maxRecDepth 100000 in
set_option maxHeartbeats 4000000 in
theorem mX10_readsFigures   (a0 : Int32) (a1 : Int32) (a2 : Int32) : sw_Ki yX10_readsFigures cX10_readsFigures 6 (some .boolean) 2 (fun ad => [.ref (ad 37), .int a0, .int a1, .int a2]) (fX10_readsFigures a0 a1 a2) := by
  refine sw_enteri (by decide) (fun ad => Nat.le_of_ble_eq_true rfl) (fun X ad t σ C hn M => ?_)
  change sw_J X ad t 0 [(0, .ref (ad 37)), (1, .int a0), (2, .int a1), (3, .int a2)] [] σ _
  replace C : sw_C X ad cX10_readsFigures RX10 2 := C
  unfold fX10_readsFigures
  refine sw_iconst (pc := 0) (v := 0) C dX10_readsFigures_0 (by decide) ?_
  refine sw_istore (pc := 1) [(4, .int 0), (0, .ref (ad 37)), (1, .int a0), (2, .int a1), (3, .int a2)] C dX10_readsFigures_1 (by rw [hn]; decide) rfl ?_
  refine sw_lpick (pc := 3) (L' := [(0, .ref (ad 37)), (1, .int a0), (2, .int a1), (3, .int a2), (4, .int 0)]) [1, 2, 3, 4, 0] rfl ?_
  exact jX10_readsFigures_L3 C hn M  _ _ _ _ _ _
set_option maxRecDepth 100000 in
set_option maxHeartbeats 4000000 in
theorem jX10_readsSaw_B220 {X : sw_X} {ad : Nat → Nat} {t : Int32 × sw_St} (C : sw_C X ad cX10_readsSaw RX10 3) (hn : sw_nL X = 5) (M : sw_Mi X ad (some .boolean) t)   {K10 : Int32 → Int32 → sw_St → Option (Int32 × sw_St)} (hK10 : ∀ (z1 : Int32) (z2 : Int32) (τ : sw_St), sw_J X ad t 10 [(0, .ref (ad 37)), (1, .int z1), (2, .int z2)] [] τ (K10 z1 z2 τ)) (v1 : Int32) (v2 : Int32) (s0 : Int32) (s1 : Int32) (σ : sw_St) : sw_J X ad t 220 [(0, .ref (ad 37)), (1, .int v1), (2, .int v2)] [.int s0, .int s1, .ref (ad 43)] σ (fX10_readsSaw_B220 K10 v1 v2 s0 s1 σ) := by
  unfold fX10_readsSaw_B220
  refine sw_iastL (pc := 220) C sh43 dX10_readsSaw_220 (fun σ11 => ?_)
  refine sw_aloadn (pc := 221) 0 0 C dX10_readsSaw_221 rfl ?_
  refine sw_dup (pc := 222) C dX10_readsSaw_222 rfl ?_
  refine sw_getI (pc := 223) C kfX10_124 sh37 ff10_8 dX10_readsSaw_223 ?_
  refine sw_iconst (pc := 226) (v := 1) C dX10_readsSaw_226 (by decide) ?_
  refine sw_iadd (pc := 227) C dX10_readsSaw_227 ?_
  refine sw_putL (pc := 228) C kpX10_124 sh37 ff10_8 dX10_readsSaw_228 (fun σ12 => ?_)
  refine sw_goto (pc := 231) 10 C dX10_readsSaw_231 (by decide) ?_
  exact hK10 _ _ _
set_option maxRecDepth 100000 in
set_option maxHeartbeats 4000000 in
theorem jX10_readsSaw_B180 {X : sw_X} {ad : Nat → Nat} {t : Int32 × sw_St} (C : sw_C X ad cX10_readsSaw RX10 3) (hn : sw_nL X = 5) (M : sw_Mi X ad (some .boolean) t)   {K10 : Int32 → Int32 → sw_St → Option (Int32 × sw_St)} (hK10 : ∀ (z1 : Int32) (z2 : Int32) (τ : sw_St), sw_J X ad t 10 [(0, .ref (ad 37)), (1, .int z1), (2, .int z2)] [] τ (K10 z1 z2 τ)) (v1 : Int32) (v2 : Int32) (v3 : Int32) (v4 : Int32) (s0 : Int32) (s1 : Int32) (σ : sw_St) : sw_J X ad t 180 [(0, .ref (ad 37)), (1, .int v1), (2, .int v2), (3, .int v3), (4, .int v4)] [.int s0, .int s1, .ref (ad 37)] σ (fX10_readsSaw_B180 K10 v1 v2 v3 v4 s0 s1 σ) := by
  unfold fX10_readsSaw_B180
  refine sw_iadd (pc := 180) C dX10_readsSaw_180 ?_
  refine sw_putL (pc := 181) C kpX10_119 sh37 ff10_7 dX10_readsSaw_181 (fun σ9 => ?_)
  refine sw_aloadn (pc := 184) 0 0 C dX10_readsSaw_184 rfl ?_
  refine sw_getR (pc := 185) C kfX10_28 sh37 ff10_10 dX10_readsSaw_185 ?_
  refine sw_aloadn (pc := 188) 0 0 C dX10_readsSaw_188 rfl ?_
  refine sw_getI (pc := 189) C kfX10_124 sh37 ff10_8 dX10_readsSaw_189 ?_
  refine sw_iloadn (pc := 192) 3 3 C dX10_readsSaw_192 rfl ?_
  refine sw_iastL (pc := 193) C sh44 dX10_readsSaw_193 (fun σ10 => ?_)
  refine sw_aloadn (pc := 194) 0 0 C dX10_readsSaw_194 rfl ?_
  refine sw_getR (pc := 195) C kfX10_25 sh37 ff10_9 dX10_readsSaw_195 ?_
  refine sw_aloadn (pc := 198) 0 0 C dX10_readsSaw_198 rfl ?_
  refine sw_getI (pc := 199) C kfX10_124 sh37 ff10_8 dX10_readsSaw_199 ?_
  refine sw_iloadn (pc := 202) 3 3 C dX10_readsSaw_202 rfl ?_
  refine sw_if_ne (pc := 203) 210 C dX10_readsSaw_203 (by decide) ?_ ?_
  · refine sw_iload (pc := 210) 4 C dX10_readsSaw_210 rfl ?_
    refine sw_if_eq (pc := 212) 219 C dX10_readsSaw_212 (by decide) ?_ ?_
    · refine sw_iconst (pc := 219) (v := 1) C dX10_readsSaw_219 (by decide) ?_
      refine sw_lpick (pc := 220) (L' := [(0, .ref (ad 37)), (1, .int v1), (2, .int v2)]) [0, 1, 2] rfl ?_
      exact jX10_readsSaw_B220 C hn M hK10 _ _ _ _ _
    · refine sw_iconst (pc := 215) (v := 2) C dX10_readsSaw_215 (by decide) ?_
      refine sw_goto (pc := 216) 220 C dX10_readsSaw_216 (by decide) ?_
      refine sw_lpick (pc := 220) (L' := [(0, .ref (ad 37)), (1, .int v1), (2, .int v2)]) [0, 1, 2] rfl ?_
      exact jX10_readsSaw_B220 C hn M hK10 _ _ _ _ _
  · refine sw_iconst (pc := 206) (v := 0) C dX10_readsSaw_206 (by decide) ?_
    refine sw_goto (pc := 207) 220 C dX10_readsSaw_207 (by decide) ?_
    refine sw_lpick (pc := 220) (L' := [(0, .ref (ad 37)), (1, .int v1), (2, .int v2)]) [0, 1, 2] rfl ?_
    exact jX10_readsSaw_B220 C hn M hK10 _ _ _ _ _
set_option maxRecDepth 100000 in
set_option maxHeartbeats 4000000 in
theorem jX10_readsSaw_B163 {X : sw_X} {ad : Nat → Nat} {t : Int32 × sw_St} (C : sw_C X ad cX10_readsSaw RX10 3) (hn : sw_nL X = 5) (M : sw_Mi X ad (some .boolean) t)   {K10 : Int32 → Int32 → sw_St → Option (Int32 × sw_St)} (hK10 : ∀ (z1 : Int32) (z2 : Int32) (τ : sw_St), sw_J X ad t 10 [(0, .ref (ad 37)), (1, .int z1), (2, .int z2)] [] τ (K10 z1 z2 τ)) (v1 : Int32) (v2 : Int32) (v3 : Int32) (s0 : Int32) (σ : sw_St) : sw_J X ad t 163 [(0, .ref (ad 37)), (1, .int v1), (2, .int v2), (3, .int v3)] [.int s0] σ (fX10_readsSaw_B163 K10 v1 v2 v3 s0 σ) := by
  unfold fX10_readsSaw_B163
  refine sw_istore (pc := 163) [(4, .int s0), (0, .ref (ad 37)), (1, .int v1), (2, .int v2), (3, .int v3)] C dX10_readsSaw_163 (by rw [hn]; decide) rfl ?_
  refine sw_aloadn (pc := 165) 0 1 C dX10_readsSaw_165 rfl ?_
  refine sw_dup (pc := 166) C dX10_readsSaw_166 rfl ?_
  refine sw_getI (pc := 167) C kfX10_119 sh37 ff10_7 dX10_readsSaw_167 ?_
  refine sw_iload (pc := 170) 0 C dX10_readsSaw_170 rfl ?_
  refine sw_if_eq (pc := 172) 179 C dX10_readsSaw_172 (by decide) ?_ ?_
  · refine sw_iconst (pc := 179) (v := 0) C dX10_readsSaw_179 (by decide) ?_
    refine sw_lpick (pc := 180) (L' := [(0, .ref (ad 37)), (1, .int v1), (2, .int v2), (3, .int v3), (4, .int s0)]) [1, 2, 3, 4, 0] rfl ?_
    exact jX10_readsSaw_B180 C hn M hK10 _ _ _ _ _ _ _
  · refine sw_iconst (pc := 175) (v := 1) C dX10_readsSaw_175 (by decide) ?_
    refine sw_goto (pc := 176) 180 C dX10_readsSaw_176 (by decide) ?_
    refine sw_lpick (pc := 180) (L' := [(0, .ref (ad 37)), (1, .int v1), (2, .int v2), (3, .int v3), (4, .int s0)]) [1, 2, 3, 4, 0] rfl ?_
    exact jX10_readsSaw_B180 C hn M hK10 _ _ _ _ _ _ _
set_option maxRecDepth 100000 in
set_option maxHeartbeats 4000000 in
theorem jX10_readsSaw_B162 {X : sw_X} {ad : Nat → Nat} {t : Int32 × sw_St} (C : sw_C X ad cX10_readsSaw RX10 3) (hn : sw_nL X = 5) (M : sw_Mi X ad (some .boolean) t)   {K10 : Int32 → Int32 → sw_St → Option (Int32 × sw_St)} (hK10 : ∀ (z1 : Int32) (z2 : Int32) (τ : sw_St), sw_J X ad t 10 [(0, .ref (ad 37)), (1, .int z1), (2, .int z2)] [] τ (K10 z1 z2 τ)) (v1 : Int32) (v2 : Int32) (v3 : Int32) (σ : sw_St) : sw_J X ad t 162 [(0, .ref (ad 37)), (1, .int v1), (2, .int v2), (3, .int v3)] [] σ (fX10_readsSaw_B162 K10 v1 v2 v3 σ) := by
  unfold fX10_readsSaw_B162
  refine sw_iconst (pc := 162) (v := 0) C dX10_readsSaw_162 (by decide) ?_
  exact jX10_readsSaw_B163 C hn M hK10 _ _ _ _ _
set_option maxRecDepth 100000 in
set_option maxHeartbeats 4000000 in
theorem jX10_readsSaw_B96 {X : sw_X} {ad : Nat → Nat} {t : Int32 × sw_St} (C : sw_C X ad cX10_readsSaw RX10 3) (hn : sw_nL X = 5) (M : sw_Mi X ad (some .boolean) t)   {K10 : Int32 → Int32 → sw_St → Option (Int32 × sw_St)} (hK10 : ∀ (z1 : Int32) (z2 : Int32) (τ : sw_St), sw_J X ad t 10 [(0, .ref (ad 37)), (1, .int z1), (2, .int z2)] [] τ (K10 z1 z2 τ)) (v1 : Int32) (v2 : Int32) (s0 : Int32) (σ : sw_St) : sw_J X ad t 96 [(0, .ref (ad 37)), (1, .int v1), (2, .int v2)] [.int s0] σ (fX10_readsSaw_B96 K10 v1 v2 s0 σ) := by
  unfold fX10_readsSaw_B96
  refine sw_istoren (pc := 96) 3 [(3, .int s0), (0, .ref (ad 37)), (1, .int v1), (2, .int v2)] C dX10_readsSaw_96 (by rw [hn]; decide) rfl ?_
  refine sw_iloadn (pc := 97) 3 0 C dX10_readsSaw_97 rfl ?_
  refine sw_bipush (pc := 98) (v := (-9)) C dX10_readsSaw_98 (by decide) ?_
  refine sw_icmp_ne (pc := 100) 105 C dX10_readsSaw_100 (by decide) ?_ ?_
  · refine sw_aloadn (pc := 105) 0 1 C dX10_readsSaw_105 rfl ?_
    refine sw_dup (pc := 106) C dX10_readsSaw_106 rfl ?_
    refine sw_getI (pc := 107) C kfX10_119 sh37 ff10_7 dX10_readsSaw_107 ?_
    refine sw_iconst (pc := 110) (v := 1) C dX10_readsSaw_110 (by decide) ?_
    refine sw_iadd (pc := 111) C dX10_readsSaw_111 ?_
    refine sw_putL (pc := 112) C kpX10_119 sh37 ff10_7 dX10_readsSaw_112 (fun σ6 => ?_)
    refine sw_aloadn (pc := 115) 0 1 C dX10_readsSaw_115 rfl ?_
    refine sw_iloadn (pc := 116) 1 2 C dX10_readsSaw_116 rfl ?_
    refine sw_iloadn (pc := 117) 2 3 C dX10_readsSaw_117 rfl ?_
    refine sw_aloadn (pc := 118) 0 1 C dX10_readsSaw_118 rfl ?_
    refine sw_getI (pc := 119) C kfX10_124 sh37 ff10_8 dX10_readsSaw_119 ?_
    refine sw_callVi (pc := 122) C (mX10_readsFigures v1 v2 (σ6 37 8)) sgX10_readsFigures mlX10_130 dX10_readsSaw_122 (by decide) [.int v1, .int v2, .int (σ6 37 8)] [] sh37 rfl rfl rfl rfl (Nat.le_of_ble_eq_true rfl) (fun r7 σ8 => ?_)
    refine sw_if_ne (pc := 125) 130 C dX10_readsSaw_125 (by decide) ?_ ?_
    · refine sw_iloadn (pc := 130) 3 0 C dX10_readsSaw_130 rfl ?_
      refine sw_if_eq (pc := 131) 162 C dX10_readsSaw_131 (by decide) ?_ ?_
      · refine sw_lpick (pc := 162) (L' := [(0, .ref (ad 37)), (1, .int v1), (2, .int v2), (3, .int s0)]) [1, 2, 3, 0] rfl ?_
        exact jX10_readsSaw_B162 C hn M hK10 _ _ _ _
      · refine sw_aloadn (pc := 134) 0 1 C dX10_readsSaw_134 rfl ?_
        refine sw_getI (pc := 135) C kfX10_119 sh37 ff10_7 dX10_readsSaw_135 ?_
        refine sw_iloadn (pc := 138) 2 3 C dX10_readsSaw_138 rfl ?_
        refine sw_icmp_ge (pc := 139) 162 C dX10_readsSaw_139 (by decide) ?_ ?_
        · refine sw_lpick (pc := 162) (L' := [(0, .ref (ad 37)), (1, .int v1), (2, .int v2), (3, .int s0)]) [1, 2, 3, 0] rfl ?_
          exact jX10_readsSaw_B162 C hn M hK10 _ _ _ _
        · refine sw_aloadn (pc := 142) 0 1 C dX10_readsSaw_142 rfl ?_
          refine sw_getR (pc := 143) C kfX10_79 sh37 ff10_43 dX10_readsSaw_143 ?_
          refine sw_iloadn (pc := 146) 1 2 C dX10_readsSaw_146 rfl ?_
          refine sw_aloadn (pc := 147) 0 1 C dX10_readsSaw_147 rfl ?_
          refine sw_getI (pc := 148) C kfX10_119 sh37 ff10_7 dX10_readsSaw_148 ?_
          refine sw_iadd (pc := 151) C dX10_readsSaw_151 ?_
          refine sw_iald (pc := 152) C sh61 dX10_readsSaw_152 ?_
          refine sw_bipush (pc := 153) (v := 104) C dX10_readsSaw_153 (by decide) ?_
          refine sw_icmp_ne (pc := 155) 162 C dX10_readsSaw_155 (by decide) ?_ ?_
          · refine sw_lpick (pc := 162) (L' := [(0, .ref (ad 37)), (1, .int v1), (2, .int v2), (3, .int s0)]) [1, 2, 3, 0] rfl ?_
            exact jX10_readsSaw_B162 C hn M hK10 _ _ _ _
          · refine sw_iconst (pc := 158) (v := 1) C dX10_readsSaw_158 (by decide) ?_
            refine sw_goto (pc := 159) 163 C dX10_readsSaw_159 (by decide) ?_
            refine sw_lpick (pc := 163) (L' := [(0, .ref (ad 37)), (1, .int v1), (2, .int v2), (3, .int s0)]) [1, 2, 3, 0] rfl ?_
            exact jX10_readsSaw_B163 C hn M hK10 _ _ _ _ _
    · refine sw_iconst (pc := 128) (v := 0) C dX10_readsSaw_128 (by decide) ?_
      exact sw_retiz (pc := 129) rfl C M dX10_readsSaw_129
  · refine sw_iconst (pc := 103) (v := 0) C dX10_readsSaw_103 (by decide) ?_
    exact sw_retiz (pc := 104) rfl C M dX10_readsSaw_104
set_option maxRecDepth 100000 in
set_option maxHeartbeats 4000000 in
theorem jX10_readsSaw_B69 {X : sw_X} {ad : Nat → Nat} {t : Int32 × sw_St} (C : sw_C X ad cX10_readsSaw RX10 3) (hn : sw_nL X = 5) (M : sw_Mi X ad (some .boolean) t)   {K10 : Int32 → Int32 → sw_St → Option (Int32 × sw_St)} (hK10 : ∀ (z1 : Int32) (z2 : Int32) (τ : sw_St), sw_J X ad t 10 [(0, .ref (ad 37)), (1, .int z1), (2, .int z2)] [] τ (K10 z1 z2 τ)) (v1 : Int32) (v2 : Int32) (σ : sw_St) : sw_J X ad t 69 [(0, .ref (ad 37)), (1, .int v1), (2, .int v2)] [] σ (fX10_readsSaw_B69 K10 v1 v2 σ) := by
  unfold fX10_readsSaw_B69
  refine sw_aloadn (pc := 69) 0 0 C dX10_readsSaw_69 rfl ?_
  refine sw_getI (pc := 70) C kfX10_119 sh37 ff10_7 dX10_readsSaw_70 ?_
  refine sw_iloadn (pc := 73) 2 2 C dX10_readsSaw_73 rfl ?_
  refine sw_icmp_ge (pc := 74) 94 C dX10_readsSaw_74 (by decide) ?_ ?_
  · refine sw_bipush (pc := 94) (v := (-9)) C dX10_readsSaw_94 (by decide) ?_
    exact jX10_readsSaw_B96 C hn M hK10 _ _ _ _
  · refine sw_aloadn (pc := 77) 0 0 C dX10_readsSaw_77 rfl ?_
    refine sw_getR (pc := 78) C kfX10_79 sh37 ff10_43 dX10_readsSaw_78 ?_
    refine sw_iloadn (pc := 81) 1 1 C dX10_readsSaw_81 rfl ?_
    refine sw_aloadn (pc := 82) 0 0 C dX10_readsSaw_82 rfl ?_
    refine sw_getI (pc := 83) C kfX10_119 sh37 ff10_7 dX10_readsSaw_83 ?_
    refine sw_iadd (pc := 86) C dX10_readsSaw_86 ?_
    refine sw_iald (pc := 87) C sh61 dX10_readsSaw_87 ?_
    refine sw_callSi (pc := 88) C (mX10_sideBy (σ 61 (Int32.toNatClampNeg (v1 + (σ 37 7))))) sgX10_sideBy mlX10_127 dX10_readsSaw_88 (by decide) [.int (σ 61 (Int32.toNatClampNeg (v1 + (σ 37 7))))] [] rfl rfl rfl (Nat.le_of_ble_eq_true rfl) (fun r4 σ5 => ?_)
    refine sw_goto (pc := 91) 96 C dX10_readsSaw_91 (by decide) ?_
    exact jX10_readsSaw_B96 C hn M hK10 _ _ _ _
set_option maxRecDepth 100000 in
set_option maxHeartbeats 4000000 in
theorem jX10_readsSaw_B25 {X : sw_X} {ad : Nat → Nat} {t : Int32 × sw_St} (C : sw_C X ad cX10_readsSaw RX10 3) (hn : sw_nL X = 5) (M : sw_Mi X ad (some .boolean) t)   {K10 : Int32 → Int32 → sw_St → Option (Int32 × sw_St)} (hK10 : ∀ (z1 : Int32) (z2 : Int32) (τ : sw_St), sw_J X ad t 10 [(0, .ref (ad 37)), (1, .int z1), (2, .int z2)] [] τ (K10 z1 z2 τ)) (v1 : Int32) (v2 : Int32) (σ : sw_St) : sw_J X ad t 25 [(0, .ref (ad 37)), (1, .int v1), (2, .int v2)] [] σ (fX10_readsSaw_B25 K10 v1 v2 σ) := by
  unfold fX10_readsSaw_B25
  refine sw_aloadn (pc := 25) 0 0 C dX10_readsSaw_25 rfl ?_
  refine sw_getI (pc := 26) C kfX10_124 sh37 ff10_8 dX10_readsSaw_26 ?_
  refine sw_if_le (pc := 29) 69 C dX10_readsSaw_29 (by decide) ?_ ?_
  · exact jX10_readsSaw_B69 C hn M hK10 _ _ _
  · refine sw_aloadn (pc := 32) 0 0 C dX10_readsSaw_32 rfl ?_
    refine sw_getI (pc := 33) C kfX10_124 sh37 ff10_8 dX10_readsSaw_33 ?_
    refine sw_bipush (pc := 36) (v := 8) C dX10_readsSaw_36 (by decide) ?_
    refine sw_icmp_eq (pc := 38) 57 C dX10_readsSaw_38 (by decide) ?_ ?_
    · refine sw_iconst (pc := 57) (v := 0) C dX10_readsSaw_57 (by decide) ?_
      exact sw_retiz (pc := 58) rfl C M dX10_readsSaw_58
    · refine sw_aloadn (pc := 41) 0 0 C dX10_readsSaw_41 rfl ?_
      refine sw_getR (pc := 42) C kfX10_79 sh37 ff10_43 dX10_readsSaw_42 ?_
      refine sw_iloadn (pc := 45) 1 1 C dX10_readsSaw_45 rfl ?_
      refine sw_aloadn (pc := 46) 0 0 C dX10_readsSaw_46 rfl ?_
      refine sw_getI (pc := 47) C kfX10_119 sh37 ff10_7 dX10_readsSaw_47 ?_
      refine sw_iadd (pc := 50) C dX10_readsSaw_50 ?_
      refine sw_iald (pc := 51) C sh61 dX10_readsSaw_51 ?_
      refine sw_bipush (pc := 52) (v := 59) C dX10_readsSaw_52 (by decide) ?_
      refine sw_icmp_eq (pc := 54) 59 C dX10_readsSaw_54 (by decide) ?_ ?_
      · refine sw_aloadn (pc := 59) 0 0 C dX10_readsSaw_59 rfl ?_
        refine sw_dup (pc := 60) C dX10_readsSaw_60 rfl ?_
        refine sw_getI (pc := 61) C kfX10_119 sh37 ff10_7 dX10_readsSaw_61 ?_
        refine sw_iconst (pc := 64) (v := 1) C dX10_readsSaw_64 (by decide) ?_
        refine sw_iadd (pc := 65) C dX10_readsSaw_65 ?_
        refine sw_putL (pc := 66) C kpX10_119 sh37 ff10_7 dX10_readsSaw_66 (fun σ3 => ?_)
        exact jX10_readsSaw_B69 C hn M hK10 _ _ _
      · refine sw_iconst (pc := 57) (v := 0) C dX10_readsSaw_57 (by decide) ?_
        exact sw_retiz (pc := 58) rfl C M dX10_readsSaw_58
set_option maxRecDepth 100000 in
set_option maxHeartbeats 4000000 in
theorem jX10_readsSaw_L10 {X : sw_X} {ad : Nat → Nat} {t : Int32 × sw_St} (C : sw_C X ad cX10_readsSaw RX10 3) (hn : sw_nL X = 5) (M : sw_Mi X ad (some .boolean) t)   : ∀ (n : Nat) (v1 : Int32) (v2 : Int32) (σ : sw_St), sw_J X ad t 10 [(0, .ref (ad 37)), (1, .int v1), (2, .int v2)] [] σ (fX10_readsSaw_L10  n v1 v2 σ) := by
  intro n
  induction n with
  | zero => exact fun _ _ _ => sw_none
  | succ n ih =>
    intro v1 v2 σ
    unfold fX10_readsSaw_L10
    refine sw_aloadn (pc := 10) 0 0 C dX10_readsSaw_10 rfl ?_
    refine sw_getI (pc := 11) C kfX10_124 sh37 ff10_8 dX10_readsSaw_11 ?_
    refine sw_if_eq (pc := 14) 25 C dX10_readsSaw_14 (by decide) ?_ ?_
    · exact jX10_readsSaw_B25 C hn M ih _ _ _
    · refine sw_aloadn (pc := 17) 0 0 C dX10_readsSaw_17 rfl ?_
      refine sw_getI (pc := 18) C kfX10_119 sh37 ff10_7 dX10_readsSaw_18 ?_
      refine sw_iloadn (pc := 21) 2 2 C dX10_readsSaw_21 rfl ?_
      refine sw_icmp_ge (pc := 22) 234 C dX10_readsSaw_22 (by decide) ?_ ?_
      · refine sw_iconst (pc := 234) (v := 1) C dX10_readsSaw_234 (by decide) ?_
        exact sw_retiz (pc := 235) rfl C M dX10_readsSaw_235
      · exact jX10_readsSaw_B25 C hn M ih _ _ _
set_option maxRecDepth 100000 in
set_option maxHeartbeats 4000000 in
theorem mX10_readsSaw   (a0 : Int32) (a1 : Int32) : sw_Ki yX10_readsSaw cX10_readsSaw 5 (some .boolean) 3 (fun ad => [.ref (ad 37), .int a0, .int a1]) (fX10_readsSaw a0 a1) := by
  refine sw_enteri (by decide) (fun ad => Nat.le_of_ble_eq_true rfl) (fun X ad t σ C hn M => ?_)
  change sw_J X ad t 0 [(0, .ref (ad 37)), (1, .int a0), (2, .int a1)] [] σ _
  replace C : sw_C X ad cX10_readsSaw RX10 3 := C
  unfold fX10_readsSaw
  refine sw_aloadn (pc := 0) 0 0 C dX10_readsSaw_0 rfl ?_
  refine sw_iconst (pc := 1) (v := 0) C dX10_readsSaw_1 (by decide) ?_
  refine sw_putL (pc := 2) C kpX10_119 sh37 ff10_7 dX10_readsSaw_2 (fun σ1 => ?_)
  refine sw_aloadn (pc := 5) 0 0 C dX10_readsSaw_5 rfl ?_
  refine sw_iconst (pc := 6) (v := 0) C dX10_readsSaw_6 (by decide) ?_
  refine sw_putL (pc := 7) C kpX10_124 sh37 ff10_8 dX10_readsSaw_7 (fun σ2 => ?_)
  exact jX10_readsSaw_L10 C hn M  _ _ _ _
set_option maxRecDepth 100000 in
set_option maxHeartbeats 4000000 in
theorem jX10_saw_L58 {X : sw_X} {ad : Nat → Nat} {t : Int32 × sw_St} (C : sw_C X ad cX10_saw RX10 4) (hn : sw_nL X = 7) (M : sw_Mi X ad (some .int) t)   : ∀ (n : Nat) (v6 : Int32) (σ : sw_St), sw_J X ad t 58 [(0, .ref (ad 37)), (6, .int v6)] [] σ (fX10_saw_L58  n v6 σ) := by
  intro n
  induction n with
  | zero => exact fun _ _ => sw_none
  | succ n ih =>
    intro v6 σ
    unfold fX10_saw_L58
    refine sw_iload (pc := 58) 1 C dX10_saw_58 rfl ?_
    refine sw_aloadn (pc := 60) 0 0 C dX10_saw_60 rfl ?_
    refine sw_getI (pc := 61) C kfX10_116 sh37 ff10_1 dX10_saw_61 ?_
    refine sw_icmp_ge (pc := 64) 153 C dX10_saw_64 (by decide) ?_ ?_
    · refine sw_aloadn (pc := 153) 0 0 C dX10_saw_153 rfl ?_
      refine sw_iconst (pc := 154) (v := 0) C dX10_saw_154 (by decide) ?_
      refine sw_putL (pc := 155) C kpX10_142 sh37 ff10_24 dX10_saw_155 (fun σ8 => ?_)
      refine sw_aloadn (pc := 158) 0 0 C dX10_saw_158 rfl ?_
      refine sw_iconst (pc := 159) (v := 0) C dX10_saw_159 (by decide) ?_
      refine sw_putL (pc := 160) C kpX10_145 sh37 ff10_28 dX10_saw_160 (fun σ9 => ?_)
      refine sw_aloadn (pc := 163) 0 0 C dX10_saw_163 rfl ?_
      refine sw_aloadn (pc := 164) 0 0 C dX10_saw_164 rfl ?_
      refine sw_getI (pc := 165) C kfX10_116 sh37 ff10_1 dX10_saw_165 ?_
      refine sw_callVi (pc := 168) C (mX10_refused (σ9 37 1)) sgX10_refused mlX10_99 dX10_saw_168 (by decide) [.int (σ9 37 1)] [] sh37 rfl rfl rfl rfl (Nat.le_of_ble_eq_true rfl) (fun r10 σ11 => ?_)
      exact sw_reti (pc := 171) C M dX10_saw_171
    · refine sw_aloadn (pc := 67) 0 0 C dX10_saw_67 rfl ?_
      refine sw_getR (pc := 68) C kfX10_7 sh37 ff10_2 dX10_saw_68 ?_
      refine sw_iload (pc := 71) 1 C dX10_saw_71 rfl ?_
      refine sw_aloadn (pc := 73) 0 0 C dX10_saw_73 rfl ?_
      refine sw_getR (pc := 74) C kfX10_25 sh37 ff10_9 dX10_saw_74 ?_
      refine sw_iload (pc := 77) 1 C dX10_saw_77 rfl ?_
      refine sw_iald (pc := 79) C sh43 dX10_saw_79 ?_
      refine sw_iastL (pc := 80) C sh38 dX10_saw_80 (fun σ12 => ?_)
      refine sw_aloadn (pc := 81) 0 0 C dX10_saw_81 rfl ?_
      refine sw_getR (pc := 82) C kfX10_13 sh37 ff10_3 dX10_saw_82 ?_
      refine sw_iload (pc := 85) 1 C dX10_saw_85 rfl ?_
      refine sw_aloadn (pc := 87) 0 0 C dX10_saw_87 rfl ?_
      refine sw_getR (pc := 88) C kfX10_28 sh37 ff10_10 dX10_saw_88 ?_
      refine sw_iload (pc := 91) 1 C dX10_saw_91 rfl ?_
      refine sw_iald (pc := 93) C sh44 dX10_saw_93 ?_
      refine sw_iastL (pc := 94) C sh39 dX10_saw_94 (fun σ13 => ?_)
      refine sw_aloadn (pc := 95) 0 0 C dX10_saw_95 rfl ?_
      refine sw_getR (pc := 96) C kfX10_16 sh37 ff10_4 dX10_saw_96 ?_
      refine sw_iload (pc := 99) 1 C dX10_saw_99 rfl ?_
      refine sw_aloadn (pc := 101) 0 0 C dX10_saw_101 rfl ?_
      refine sw_getR (pc := 102) C kfX10_31 sh37 ff10_11 dX10_saw_102 ?_
      refine sw_iconst (pc := 105) (v := 3) C dX10_saw_105 (by decide) ?_
      refine sw_iload (pc := 106) 1 C dX10_saw_106 rfl ?_
      refine sw_imul (pc := 108) C dX10_saw_108 ?_
      refine sw_iald (pc := 109) C sh45 dX10_saw_109 ?_
      refine sw_iastL (pc := 110) C sh40 dX10_saw_110 (fun σ14 => ?_)
      refine sw_aloadn (pc := 111) 0 0 C dX10_saw_111 rfl ?_
      refine sw_getR (pc := 112) C kfX10_19 sh37 ff10_5 dX10_saw_112 ?_
      refine sw_iload (pc := 115) 1 C dX10_saw_115 rfl ?_
      refine sw_aloadn (pc := 117) 0 0 C dX10_saw_117 rfl ?_
      refine sw_getR (pc := 118) C kfX10_31 sh37 ff10_11 dX10_saw_118 ?_
      refine sw_iconst (pc := 121) (v := 3) C dX10_saw_121 (by decide) ?_
      refine sw_iload (pc := 122) 1 C dX10_saw_122 rfl ?_
      refine sw_imul (pc := 124) C dX10_saw_124 ?_
      refine sw_iconst (pc := 125) (v := 1) C dX10_saw_125 (by decide) ?_
      refine sw_iadd (pc := 126) C dX10_saw_126 ?_
      refine sw_iald (pc := 127) C sh45 dX10_saw_127 ?_
      refine sw_iastL (pc := 128) C sh41 dX10_saw_128 (fun σ15 => ?_)
      refine sw_aloadn (pc := 129) 0 0 C dX10_saw_129 rfl ?_
      refine sw_getR (pc := 130) C kfX10_22 sh37 ff10_6 dX10_saw_130 ?_
      refine sw_iload (pc := 133) 1 C dX10_saw_133 rfl ?_
      refine sw_aloadn (pc := 135) 0 0 C dX10_saw_135 rfl ?_
      refine sw_getR (pc := 136) C kfX10_31 sh37 ff10_11 dX10_saw_136 ?_
      refine sw_iconst (pc := 139) (v := 3) C dX10_saw_139 (by decide) ?_
      refine sw_iload (pc := 140) 1 C dX10_saw_140 rfl ?_
      refine sw_imul (pc := 142) C dX10_saw_142 ?_
      refine sw_iconst (pc := 143) (v := 2) C dX10_saw_143 (by decide) ?_
      refine sw_iadd (pc := 144) C dX10_saw_144 ?_
      refine sw_iald (pc := 145) C sh45 dX10_saw_145 ?_
      refine sw_iastL (pc := 146) C sh42 dX10_saw_146 (fun σ16 => ?_)
      refine sw_iinc (pc := 147) (v6 + 1) 1 [(6, .int (v6 + 1)), (0, .ref (ad 37))] C dX10_saw_147 (by rw [hn]; decide) rfl rfl rfl ?_
      refine sw_goto (pc := 150) 58 C dX10_saw_150 (by decide) ?_
      refine sw_lpick (pc := 58) (L' := [(0, .ref (ad 37)), (6, .int (v6 + 1))]) [1, 0] rfl ?_
      exact ih _ _
set_option maxRecDepth 100000 in
set_option maxHeartbeats 4000000 in
theorem mX10_saw   (a0 : Int32) (a1 : Int32) (a2 : Int32) (a3 : Int32) : sw_Ki yX10_saw cX10_saw 7 (some .int) 4 (fun ad => [.ref (ad 37), .int a0, .int a1, .int a2, .int a3]) (fX10_saw a0 a1 a2 a3) := by
  refine sw_enteri (by decide) (fun ad => Nat.le_of_ble_eq_true rfl) (fun X ad t σ C hn M => ?_)
  change sw_J X ad t 0 [(0, .ref (ad 37)), (1, .int a0), (2, .int a1), (3, .int a2), (4, .int a3)] [] σ _
  replace C : sw_C X ad cX10_saw RX10 4 := C
  unfold fX10_saw
  refine sw_aloadn (pc := 0) 0 0 C dX10_saw_0 rfl ?_
  refine sw_iloadn (pc := 1) 1 1 C dX10_saw_1 rfl ?_
  refine sw_iloadn (pc := 2) 2 2 C dX10_saw_2 rfl ?_
  refine sw_iloadn (pc := 3) 3 3 C dX10_saw_3 rfl ?_
  refine sw_iload (pc := 4) 4 C dX10_saw_4 rfl ?_
  refine sw_i2l (pc := 6) C dX10_saw_6 ?_
  refine sw_callVi (pc := 7) C (mX10_barred a0 a1 a2 (Int32.toInt64 a3)) sgX10_barred mlX10_134 dX10_saw_7 (by decide) [.int a0, .int a1, .int a2, .long (Int32.toInt64 a3)] [] sh37 rfl rfl rfl rfl (Nat.le_of_ble_eq_true rfl) (fun r1 σ2 => ?_)
  refine sw_istore (pc := 10) [(5, .int r1), (0, .ref (ad 37)), (1, .int a0), (2, .int a1), (3, .int a2), (4, .int a3)] C dX10_saw_10 (by rw [hn]; decide) rfl ?_
  refine sw_iload (pc := 12) 0 C dX10_saw_12 rfl ?_
  refine sw_if_ge (pc := 14) 20 C dX10_saw_14 (by decide) ?_ ?_
  · refine sw_aloadn (pc := 20) 0 1 C dX10_saw_20 rfl ?_
    refine sw_bipush (pc := 21) (v := 80) C dX10_saw_21 (by decide) ?_
    refine sw_iloadn (pc := 23) 1 2 C dX10_saw_23 rfl ?_
    refine sw_imul (pc := 24) C dX10_saw_24 ?_
    refine sw_iloadn (pc := 25) 3 4 C dX10_saw_25 rfl ?_
    refine sw_iadd (pc := 26) C dX10_saw_26 ?_
    refine sw_iload (pc := 27) 5 C dX10_saw_27 rfl ?_
    refine sw_callVi (pc := 29) C (mX10_readsSaw ((80 * a0) + a2) a3) sgX10_readsSaw mlX10_138 dX10_saw_29 (by decide) [.int ((80 * a0) + a2), .int a3] [] sh37 rfl rfl rfl rfl (Nat.le_of_ble_eq_true rfl) (fun r3 σ4 => ?_)
    refine sw_if_ne (pc := 32) 47 C dX10_saw_32 (by decide) ?_ ?_
    · refine sw_aloadn (pc := 47) 0 1 C dX10_saw_47 rfl ?_
      refine sw_aloadn (pc := 48) 0 1 C dX10_saw_48 rfl ?_
      refine sw_getI (pc := 49) C kfX10_124 sh37 ff10_8 dX10_saw_49 ?_
      refine sw_putL (pc := 52) C kpX10_116 sh37 ff10_1 dX10_saw_52 (fun σ5 => ?_)
      refine sw_iconst (pc := 55) (v := 0) C dX10_saw_55 (by decide) ?_
      refine sw_istore (pc := 56) [(6, .int 0), (5, .int r1), (0, .ref (ad 37)), (1, .int a0), (2, .int a1), (3, .int a2), (4, .int a3)] C dX10_saw_56 (by rw [hn]; decide) rfl ?_
      refine sw_lpick (pc := 58) (L' := [(0, .ref (ad 37)), (6, .int 0)]) [2, 0] rfl ?_
      exact jX10_saw_L58 C hn M  _ _ _
    · refine sw_aloadn (pc := 35) 0 1 C dX10_saw_35 rfl ?_
      refine sw_bipush (pc := 36) (v := (-100)) C dX10_saw_36 (by decide) ?_
      refine sw_aloadn (pc := 38) 0 1 C dX10_saw_38 rfl ?_
      refine sw_getI (pc := 39) C kfX10_119 sh37 ff10_7 dX10_saw_39 ?_
      refine sw_isub (pc := 42) C dX10_saw_42 ?_
      refine sw_callVi (pc := 43) C (mX10_refused ((-100) - (σ4 37 7))) sgX10_refused mlX10_99 dX10_saw_43 (by decide) [.int ((-100) - (σ4 37 7))] [] sh37 rfl rfl rfl rfl (Nat.le_of_ble_eq_true rfl) (fun r6 σ7 => ?_)
      exact sw_reti (pc := 46) C M dX10_saw_46
  · refine sw_iload (pc := 17) 0 C dX10_saw_17 rfl ?_
    exact sw_reti (pc := 19) C M dX10_saw_19
set_option maxRecDepth 100000 in
set_option maxHeartbeats 4000000 in
theorem mX10_takesOf   (a0 : Int32) : sw_Ki yX10_takesOf cX10_takesOf 3 (some .int) 1 (fun ad => [.ref (ad 37), .int a0]) (fX10_takesOf a0) := by
  refine sw_enteri (by decide) (fun ad => Nat.le_of_ble_eq_true rfl) (fun X ad t σ C hn M => ?_)
  change sw_J X ad t 0 [(0, .ref (ad 37)), (1, .int a0)] [] σ _
  replace C : sw_C X ad cX10_takesOf RX10 1 := C
  unfold fX10_takesOf
  refine sw_aloadn (pc := 0) 0 0 C dX10_takesOf_0 rfl ?_
  refine sw_getR (pc := 1) C kfX10_19 sh37 ff10_5 dX10_takesOf_1 ?_
  refine sw_iloadn (pc := 4) 1 1 C dX10_takesOf_4 rfl ?_
  refine sw_iald (pc := 5) C sh41 dX10_takesOf_5 ?_
  refine sw_aloadn (pc := 6) 0 0 C dX10_takesOf_6 rfl ?_
  refine sw_getR (pc := 7) C kfX10_22 sh37 ff10_6 dX10_takesOf_7 ?_
  refine sw_iloadn (pc := 10) 1 1 C dX10_takesOf_10 rfl ?_
  refine sw_iald (pc := 11) C sh42 dX10_takesOf_11 ?_
  refine sw_imul (pc := 12) C dX10_takesOf_12 ?_
  refine sw_leti (fun x1 => ?_)
  refine sw_istoren (pc := 13) 2 [(2, .int x1), (0, .ref (ad 37)), (1, .int a0)] C dX10_takesOf_13 (by rw [hn]; decide) rfl ?_
  refine sw_iloadn (pc := 14) 2 0 C dX10_takesOf_14 rfl ?_
  refine sw_if_le (pc := 15) 34 C dX10_takesOf_15 (by decide) ?_ ?_
  · refine sw_iloadn (pc := 34) 2 0 C dX10_takesOf_34 rfl ?_
    exact sw_reti (pc := 35) C M dX10_takesOf_35
  · refine sw_aloadn (pc := 18) 0 1 C dX10_takesOf_18 rfl ?_
    refine sw_getR (pc := 19) C kfX10_7 sh37 ff10_2 dX10_takesOf_19 ?_
    refine sw_iloadn (pc := 22) 1 2 C dX10_takesOf_22 rfl ?_
    refine sw_iald (pc := 23) C sh38 dX10_takesOf_23 ?_
    refine sw_iconst (pc := 24) (v := 2) C dX10_takesOf_24 (by decide) ?_
    refine sw_icmp_ne (pc := 25) 34 C dX10_takesOf_25 (by decide) ?_ ?_
    · refine sw_iloadn (pc := 34) 2 0 C dX10_takesOf_34 rfl ?_
      exact sw_reti (pc := 35) C M dX10_takesOf_35
    · refine sw_iloadn (pc := 28) 2 0 C dX10_takesOf_28 rfl ?_
      refine sw_iconst (pc := 29) (v := 2) C dX10_takesOf_29 (by decide) ?_
      refine sw_iadd (pc := 30) C dX10_takesOf_30 ?_
      refine sw_goto (pc := 31) 35 C dX10_takesOf_31 (by decide) ?_
      exact sw_reti (pc := 35) C M dX10_takesOf_35
set_option maxRecDepth 100000 in
set_option maxHeartbeats 4000000 in
theorem mX10_pushOf   (a0 : Int32) : sw_Ki yX10_pushOf cX10_pushOf 2 (some .int) 2 (fun ad => [.ref (ad 37), .int a0]) (fX10_pushOf a0) := by
  refine sw_enteri (by decide) (fun ad => Nat.le_of_ble_eq_true rfl) (fun X ad t σ C hn M => ?_)
  change sw_J X ad t 0 [(0, .ref (ad 37)), (1, .int a0)] [] σ _
  replace C : sw_C X ad cX10_pushOf RX10 2 := C
  unfold fX10_pushOf
  refine sw_aloadn (pc := 0) 0 0 C dX10_pushOf_0 rfl ?_
  refine sw_iloadn (pc := 1) 1 1 C dX10_pushOf_1 rfl ?_
  refine sw_callVi (pc := 2) C (mX10_takesOf a0) sgX10_takesOf mlX10_148 dX10_pushOf_2 (by decide) [.int a0] [] sh37 rfl rfl rfl rfl (Nat.le_of_ble_eq_true rfl) (fun r1 σ2 => ?_)
  refine sw_aloadn (pc := 5) 0 0 C dX10_pushOf_5 rfl ?_
  refine sw_getR (pc := 6) C kfX10_16 sh37 ff10_4 dX10_pushOf_6 ?_
  refine sw_iloadn (pc := 9) 1 1 C dX10_pushOf_9 rfl ?_
  refine sw_iald (pc := 10) C sh40 dX10_pushOf_10 ?_
  refine sw_imul (pc := 11) C dX10_pushOf_11 ?_
  refine sw_aloadn (pc := 12) 0 0 C dX10_pushOf_12 rfl ?_
  refine sw_getR (pc := 13) C kfX10_13 sh37 ff10_3 dX10_pushOf_13 ?_
  refine sw_iloadn (pc := 16) 1 1 C dX10_pushOf_16 rfl ?_
  refine sw_iald (pc := 17) C sh39 dX10_pushOf_17 ?_
  refine sw_imul (pc := 18) C dX10_pushOf_18 ?_
  exact sw_reti (pc := 19) C M dX10_pushOf_19
set_option maxRecDepth 100000 in
set_option maxHeartbeats 4000000 in
theorem mX10_ofTooth   (a0 : Int32) (a1 : Int32) : sw_Ki yX10_ofTooth cX10_ofTooth 3 (some .int) 3 (fun ad => [.ref (ad 37), .int a0, .int a1]) (fX10_ofTooth a0 a1) := by
  refine sw_enteri (by decide) (fun ad => Nat.le_of_ble_eq_true rfl) (fun X ad t σ C hn M => ?_)
  change sw_J X ad t 0 [(0, .ref (ad 37)), (1, .int a0), (2, .int a1)] [] σ _
  replace C : sw_C X ad cX10_ofTooth RX10 3 := C
  unfold fX10_ofTooth
  refine sw_aloadn (pc := 0) 0 0 C dX10_ofTooth_0 rfl ?_
  refine sw_iloadn (pc := 1) 1 1 C dX10_ofTooth_1 rfl ?_
  refine sw_callVi (pc := 2) C (mX10_noTooth a0) sgX10_noTooth mlX10_151 dX10_ofTooth_2 (by decide) [.int a0] [] sh37 rfl rfl rfl rfl (Nat.le_of_ble_eq_true rfl) (fun r1 σ2 => ?_)
  refine sw_if_eq (pc := 5) 10 C dX10_ofTooth_5 (by decide) ?_ ?_
  · refine sw_iloadn (pc := 10) 2 2 C dX10_ofTooth_10 rfl ?_
    refine sw_ite (fun h3 => ?_) (fun h3 => ?_)
    · refine sw_tabIn (pc := 11) (off := 41) 52 C dX10_ofTooth_11 (by rw [h3]; decide) (by rw [h3]; decide) (by rw [h3]; rfl) (by decide) ?_
      refine sw_aloadn (pc := 52) 0 0 C dX10_ofTooth_52 rfl ?_
      refine sw_getR (pc := 53) C kfX10_7 sh37 ff10_2 dX10_ofTooth_53 ?_
      refine sw_iloadn (pc := 56) 1 1 C dX10_ofTooth_56 rfl ?_
      refine sw_iald (pc := 57) C sh38 dX10_ofTooth_57 ?_
      exact sw_reti (pc := 58) C M dX10_ofTooth_58
    · skip
      refine sw_ite (fun h4 => ?_) (fun h4 => ?_)
      · refine sw_tabIn (pc := 11) (off := 48) 59 C dX10_ofTooth_11 (by rw [h4]; decide) (by rw [h4]; decide) (by rw [h4]; rfl) (by decide) ?_
        refine sw_aloadn (pc := 59) 0 0 C dX10_ofTooth_59 rfl ?_
        refine sw_getR (pc := 60) C kfX10_13 sh37 ff10_3 dX10_ofTooth_60 ?_
        refine sw_iloadn (pc := 63) 1 1 C dX10_ofTooth_63 rfl ?_
        refine sw_iald (pc := 64) C sh39 dX10_ofTooth_64 ?_
        exact sw_reti (pc := 65) C M dX10_ofTooth_65
      · skip
        refine sw_ite (fun h5 => ?_) (fun h5 => ?_)
        · refine sw_tabIn (pc := 11) (off := 55) 66 C dX10_ofTooth_11 (by rw [h5]; decide) (by rw [h5]; decide) (by rw [h5]; rfl) (by decide) ?_
          refine sw_aloadn (pc := 66) 0 0 C dX10_ofTooth_66 rfl ?_
          refine sw_getR (pc := 67) C kfX10_16 sh37 ff10_4 dX10_ofTooth_67 ?_
          refine sw_iloadn (pc := 70) 1 1 C dX10_ofTooth_70 rfl ?_
          refine sw_iald (pc := 71) C sh40 dX10_ofTooth_71 ?_
          exact sw_reti (pc := 72) C M dX10_ofTooth_72
        · skip
          refine sw_ite (fun h6 => ?_) (fun h6 => ?_)
          · refine sw_tabIn (pc := 11) (off := 62) 73 C dX10_ofTooth_11 (by rw [h6]; decide) (by rw [h6]; decide) (by rw [h6]; rfl) (by decide) ?_
            refine sw_aloadn (pc := 73) 0 0 C dX10_ofTooth_73 rfl ?_
            refine sw_getR (pc := 74) C kfX10_19 sh37 ff10_5 dX10_ofTooth_74 ?_
            refine sw_iloadn (pc := 77) 1 1 C dX10_ofTooth_77 rfl ?_
            refine sw_iald (pc := 78) C sh41 dX10_ofTooth_78 ?_
            exact sw_reti (pc := 79) C M dX10_ofTooth_79
          · skip
            refine sw_ite (fun h7 => ?_) (fun h7 => ?_)
            · refine sw_tabIn (pc := 11) (off := 69) 80 C dX10_ofTooth_11 (by rw [h7]; decide) (by rw [h7]; decide) (by rw [h7]; rfl) (by decide) ?_
              refine sw_aloadn (pc := 80) 0 0 C dX10_ofTooth_80 rfl ?_
              refine sw_getR (pc := 81) C kfX10_22 sh37 ff10_6 dX10_ofTooth_81 ?_
              refine sw_iloadn (pc := 84) 1 1 C dX10_ofTooth_84 rfl ?_
              refine sw_iald (pc := 85) C sh42 dX10_ofTooth_85 ?_
              exact sw_reti (pc := 86) C M dX10_ofTooth_86
            · skip
              refine sw_ite (fun h8 => ?_) (fun h8 => ?_)
              · refine sw_tabIn (pc := 11) (off := 76) 87 C dX10_ofTooth_11 (by rw [h8]; decide) (by rw [h8]; decide) (by rw [h8]; rfl) (by decide) ?_
                refine sw_aloadn (pc := 87) 0 0 C dX10_ofTooth_87 rfl ?_
                refine sw_iloadn (pc := 88) 1 1 C dX10_ofTooth_88 rfl ?_
                refine sw_callVi (pc := 89) C (mX10_takesOf a0) sgX10_takesOf mlX10_148 dX10_ofTooth_89 (by decide) [.int a0] [] sh37 rfl rfl rfl rfl (Nat.le_of_ble_eq_true rfl) (fun r9 σ10 => ?_)
                exact sw_reti (pc := 92) C M dX10_ofTooth_92
              · skip
                refine sw_ite (fun h11 => ?_) (fun h11 => ?_)
                · refine sw_tabIn (pc := 11) (off := 82) 93 C dX10_ofTooth_11 (by rw [h11]; decide) (by rw [h11]; decide) (by rw [h11]; rfl) (by decide) ?_
                  refine sw_aloadn (pc := 93) 0 0 C dX10_ofTooth_93 rfl ?_
                  refine sw_iloadn (pc := 94) 1 1 C dX10_ofTooth_94 rfl ?_
                  refine sw_callVi (pc := 95) C (mX10_pushOf a0) sgX10_pushOf mlX10_154 dX10_ofTooth_95 (by decide) [.int a0] [] sh37 rfl rfl rfl rfl (Nat.le_of_ble_eq_true rfl) (fun r12 σ13 => ?_)
                  exact sw_reti (pc := 98) C M dX10_ofTooth_98
                · skip
                  refine sw_tabOut (pc := 11) 99 C dX10_ofTooth_11 (by have qh3 := lv_neT (a := 0) h3 (by decide); have qh4 := lv_neT (a := 1) h4 (by decide); have qh5 := lv_neT (a := 2) h5 (by decide); have qh6 := lv_neT (a := 3) h6 (by decide); have qh7 := lv_neT (a := 4) h7 (by decide); have qh8 := lv_neT (a := 5) h8 (by decide); have qh11 := lv_neT (a := 6) h11 (by decide); omega) (by decide) ?_
                  refine sw_bipush (pc := 99) (v := (-2)) C dX10_ofTooth_99 (by decide) ?_
                  exact sw_reti (pc := 101) C M dX10_ofTooth_101
  · refine sw_iconst (pc := 8) (v := (-1)) C dX10_ofTooth_8 (by decide) ?_
    exact sw_reti (pc := 9) C M dX10_ofTooth_9
set_option maxRecDepth 100000 in
set_option maxHeartbeats 4000000 in
theorem jX10_change_B33 {X : sw_X} {ad : Nat → Nat} {t : Int32 × sw_St} (C : sw_C X ad cX10_change RX10 1) (hn : sw_nL X = 5) (M : sw_Mi X ad (some .int) t)   (v1 : Int32) (v2 : Int32) (v3 : Int32) (s0 : Int32) (σ : sw_St) : sw_J X ad t 33 [(0, .ref (ad 37)), (1, .int v1), (2, .int v2), (3, .int v3)] [.int s0] σ (fX10_change_B33  v1 v2 v3 s0 σ) := by
  unfold fX10_change_B33
  refine sw_istore (pc := 33) [(4, .int s0), (0, .ref (ad 37)), (1, .int v1), (2, .int v2), (3, .int v3)] C dX10_change_33 (by rw [hn]; decide) rfl ?_
  refine sw_iloadn (pc := 35) 2 3 C dX10_change_35 rfl ?_
  refine sw_if_ne (pc := 36) 49 C dX10_change_36 (by decide) ?_ ?_
  · refine sw_iloadn (pc := 49) 2 3 C dX10_change_49 rfl ?_
    refine sw_iconst (pc := 50) (v := 1) C dX10_change_50 (by decide) ?_
    refine sw_icmp_ne (pc := 51) 64 C dX10_change_51 (by decide) ?_ ?_
    · refine sw_aloadn (pc := 64) 0 1 C dX10_change_64 rfl ?_
      refine sw_getR (pc := 65) C kfX10_22 sh37 ff10_6 dX10_change_65 ?_
      refine sw_iloadn (pc := 68) 1 2 C dX10_change_68 rfl ?_
      refine sw_iloadn (pc := 69) 3 4 C dX10_change_69 rfl ?_
      refine sw_iastL (pc := 70) C sh42 dX10_change_70 (fun σ1 => ?_)
      refine sw_iload (pc := 71) 0 C dX10_change_71 rfl ?_
      exact sw_reti (pc := 73) C M dX10_change_73
    · refine sw_aloadn (pc := 54) 0 1 C dX10_change_54 rfl ?_
      refine sw_getR (pc := 55) C kfX10_19 sh37 ff10_5 dX10_change_55 ?_
      refine sw_iloadn (pc := 58) 1 2 C dX10_change_58 rfl ?_
      refine sw_iloadn (pc := 59) 3 4 C dX10_change_59 rfl ?_
      refine sw_iastL (pc := 60) C sh41 dX10_change_60 (fun σ2 => ?_)
      refine sw_goto (pc := 61) 71 C dX10_change_61 (by decide) ?_
      refine sw_iload (pc := 71) 0 C dX10_change_71 rfl ?_
      exact sw_reti (pc := 73) C M dX10_change_73
  · refine sw_aloadn (pc := 39) 0 1 C dX10_change_39 rfl ?_
    refine sw_getR (pc := 40) C kfX10_16 sh37 ff10_4 dX10_change_40 ?_
    refine sw_iloadn (pc := 43) 1 2 C dX10_change_43 rfl ?_
    refine sw_iloadn (pc := 44) 3 4 C dX10_change_44 rfl ?_
    refine sw_iastL (pc := 45) C sh40 dX10_change_45 (fun σ3 => ?_)
    refine sw_goto (pc := 46) 71 C dX10_change_46 (by decide) ?_
    refine sw_iload (pc := 71) 0 C dX10_change_71 rfl ?_
    exact sw_reti (pc := 73) C M dX10_change_73
set_option maxRecDepth 100000 in
set_option maxHeartbeats 4000000 in
theorem mX10_change   (a0 : Int32) (a1 : Int32) (a2 : Int32) : sw_Ki yX10_change cX10_change 5 (some .int) 1 (fun ad => [.ref (ad 37), .int a0, .int a1, .int a2]) (fX10_change a0 a1 a2) := by
  refine sw_enteri (by decide) (fun ad => Nat.le_of_ble_eq_true rfl) (fun X ad t σ C hn M => ?_)
  change sw_J X ad t 0 [(0, .ref (ad 37)), (1, .int a0), (2, .int a1), (3, .int a2)] [] σ _
  replace C : sw_C X ad cX10_change RX10 1 := C
  unfold fX10_change
  refine sw_iloadn (pc := 0) 2 2 C dX10_change_0 rfl ?_
  refine sw_if_ne (pc := 1) 13 C dX10_change_1 (by decide) ?_ ?_
  · refine sw_iloadn (pc := 13) 2 2 C dX10_change_13 rfl ?_
    refine sw_iconst (pc := 14) (v := 1) C dX10_change_14 (by decide) ?_
    refine sw_icmp_ne (pc := 15) 27 C dX10_change_15 (by decide) ?_ ?_
    · refine sw_aloadn (pc := 27) 0 0 C dX10_change_27 rfl ?_
      refine sw_getR (pc := 28) C kfX10_22 sh37 ff10_6 dX10_change_28 ?_
      refine sw_iloadn (pc := 31) 1 1 C dX10_change_31 rfl ?_
      refine sw_iald (pc := 32) C sh42 dX10_change_32 ?_
      exact jX10_change_B33 C hn M  _ _ _ _ _
    · refine sw_aloadn (pc := 18) 0 0 C dX10_change_18 rfl ?_
      refine sw_getR (pc := 19) C kfX10_19 sh37 ff10_5 dX10_change_19 ?_
      refine sw_iloadn (pc := 22) 1 1 C dX10_change_22 rfl ?_
      refine sw_iald (pc := 23) C sh41 dX10_change_23 ?_
      refine sw_goto (pc := 24) 33 C dX10_change_24 (by decide) ?_
      exact jX10_change_B33 C hn M  _ _ _ _ _
  · refine sw_aloadn (pc := 4) 0 0 C dX10_change_4 rfl ?_
    refine sw_getR (pc := 5) C kfX10_16 sh37 ff10_4 dX10_change_5 ?_
    refine sw_iloadn (pc := 8) 1 1 C dX10_change_8 rfl ?_
    refine sw_iald (pc := 9) C sh40 dX10_change_9 ?_
    refine sw_goto (pc := 10) 33 C dX10_change_10 (by decide) ?_
    exact jX10_change_B33 C hn M  _ _ _ _ _
