set_option maxRecDepth 100000 in
set_option maxHeartbeats 4000000 in
theorem mX9_ofTooth   (a0 : Int32) (a1 : Int32) : sw_Ki yX9_ofTooth cX9_ofTooth 3 (some .int) 3 (fun ad => [.ref (ad 0), .int a0, .int a1]) (fX9_ofTooth a0 a1) := by
  refine sw_enteri (by decide) (fun ad => Nat.le_of_ble_eq_true rfl) (fun X ad t σ C hn M => ?_)
  change sw_J X ad t 0 [(0, .ref (ad 0)), (1, .int a0), (2, .int a1)] [] σ _
  replace C : sw_C X ad cX9_ofTooth RX9 3 := C
  unfold fX9_ofTooth
  refine sw_aloadn (pc := 0) 0 0 C dX9_ofTooth_0 rfl ?_
  refine sw_getR (pc := 1) C kfX9_21 sh0 ff9_1 dX9_ofTooth_1 ?_
  refine sw_iloadn (pc := 4) 1 1 C dX9_ofTooth_4 rfl ?_
  refine sw_callVi (pc := 5) C (mX6_has saw5 a0) sgX6_has mlX9_107 dX9_ofTooth_5 (by decide) [.int a0] [] saw5.1 rfl rfl rfl rfl (Nat.le_of_ble_eq_true rfl) (fun r1 σ2 => ?_)
  refine sw_if_ne (pc := 8) 13 C dX9_ofTooth_8 (by decide) ?_ ?_
  · refine sw_iloadn (pc := 13) 2 2 C dX9_ofTooth_13 rfl ?_
    refine sw_ite (fun h3 => ?_) (fun h3 => ?_)
    · refine sw_tabIn (pc := 14) (off := 42) 56 C dX9_ofTooth_14 (by rw [h3]; decide) (by rw [h3]; decide) (by rw [h3]; rfl) (by decide) ?_
      refine sw_aloadn (pc := 56) 0 0 C dX9_ofTooth_56 rfl ?_
      refine sw_getR (pc := 57) C kfX9_21 sh0 ff9_1 dX9_ofTooth_57 ?_
      refine sw_iloadn (pc := 60) 1 1 C dX9_ofTooth_60 rfl ?_
      refine sw_callVi (pc := 61) C (mX6_kindOf saw5 a0) sgX6_kindOf mlX9_111 dX9_ofTooth_61 (by decide) [.int a0] [] saw5.1 rfl rfl rfl rfl (Nat.le_of_ble_eq_true rfl) (fun r4 σ5 => ?_)
      exact sw_reti (pc := 64) C M dX9_ofTooth_64
    · skip
      refine sw_ite (fun h6 => ?_) (fun h6 => ?_)
      · refine sw_tabIn (pc := 14) (off := 51) 65 C dX9_ofTooth_14 (by rw [h6]; decide) (by rw [h6]; decide) (by rw [h6]; rfl) (by decide) ?_
        refine sw_aloadn (pc := 65) 0 0 C dX9_ofTooth_65 rfl ?_
        refine sw_getR (pc := 66) C kfX9_21 sh0 ff9_1 dX9_ofTooth_66 ?_
        refine sw_iloadn (pc := 69) 1 1 C dX9_ofTooth_69 rfl ?_
        refine sw_callVi (pc := 70) C (mX6_sideOf saw5 a0) sgX6_sideOf mlX9_115 dX9_ofTooth_70 (by decide) [.int a0] [] saw5.1 rfl rfl rfl rfl (Nat.le_of_ble_eq_true rfl) (fun r7 σ8 => ?_)
        exact sw_reti (pc := 73) C M dX9_ofTooth_73
      · skip
        refine sw_ite (fun h9 => ?_) (fun h9 => ?_)
        · refine sw_tabIn (pc := 14) (off := 60) 74 C dX9_ofTooth_14 (by rw [h9]; decide) (by rw [h9]; decide) (by rw [h9]; rfl) (by decide) ?_
          refine sw_aloadn (pc := 74) 0 0 C dX9_ofTooth_74 rfl ?_
          refine sw_getR (pc := 75) C kfX9_21 sh0 ff9_1 dX9_ofTooth_75 ?_
          refine sw_iloadn (pc := 78) 1 1 C dX9_ofTooth_78 rfl ?_
          refine sw_iconst (pc := 79) (v := 0) C dX9_ofTooth_79 (by decide) ?_
          refine sw_callVi (pc := 80) C (mX6_sizeOf saw5 a0 0) sgX6_sizeOf mlX9_118 dX9_ofTooth_80 (by decide) [.int a0, .int 0] [] saw5.1 rfl rfl rfl rfl (Nat.le_of_ble_eq_true rfl) (fun r10 σ11 => ?_)
          exact sw_reti (pc := 83) C M dX9_ofTooth_83
        · skip
          refine sw_ite (fun h12 => ?_) (fun h12 => ?_)
          · refine sw_tabIn (pc := 14) (off := 70) 84 C dX9_ofTooth_14 (by rw [h12]; decide) (by rw [h12]; decide) (by rw [h12]; rfl) (by decide) ?_
            refine sw_aloadn (pc := 84) 0 0 C dX9_ofTooth_84 rfl ?_
            refine sw_getR (pc := 85) C kfX9_21 sh0 ff9_1 dX9_ofTooth_85 ?_
            refine sw_iloadn (pc := 88) 1 1 C dX9_ofTooth_88 rfl ?_
            refine sw_iconst (pc := 89) (v := 1) C dX9_ofTooth_89 (by decide) ?_
            refine sw_callVi (pc := 90) C (mX6_sizeOf saw5 a0 1) sgX6_sizeOf mlX9_118 dX9_ofTooth_90 (by decide) [.int a0, .int 1] [] saw5.1 rfl rfl rfl rfl (Nat.le_of_ble_eq_true rfl) (fun r13 σ14 => ?_)
            exact sw_reti (pc := 93) C M dX9_ofTooth_93
          · skip
            refine sw_ite (fun h15 => ?_) (fun h15 => ?_)
            · refine sw_tabIn (pc := 14) (off := 80) 94 C dX9_ofTooth_14 (by rw [h15]; decide) (by rw [h15]; decide) (by rw [h15]; rfl) (by decide) ?_
              refine sw_aloadn (pc := 94) 0 0 C dX9_ofTooth_94 rfl ?_
              refine sw_getR (pc := 95) C kfX9_21 sh0 ff9_1 dX9_ofTooth_95 ?_
              refine sw_iloadn (pc := 98) 1 1 C dX9_ofTooth_98 rfl ?_
              refine sw_iconst (pc := 99) (v := 2) C dX9_ofTooth_99 (by decide) ?_
              refine sw_callVi (pc := 100) C (mX6_sizeOf saw5 a0 2) sgX6_sizeOf mlX9_118 dX9_ofTooth_100 (by decide) [.int a0, .int 2] [] saw5.1 rfl rfl rfl rfl (Nat.le_of_ble_eq_true rfl) (fun r16 σ17 => ?_)
              exact sw_reti (pc := 103) C M dX9_ofTooth_103
            · skip
              refine sw_ite (fun h18 => ?_) (fun h18 => ?_)
              · refine sw_tabIn (pc := 14) (off := 90) 104 C dX9_ofTooth_14 (by rw [h18]; decide) (by rw [h18]; decide) (by rw [h18]; rfl) (by decide) ?_
                refine sw_aloadn (pc := 104) 0 0 C dX9_ofTooth_104 rfl ?_
                refine sw_getR (pc := 105) C kfX9_21 sh0 ff9_1 dX9_ofTooth_105 ?_
                refine sw_iloadn (pc := 108) 1 1 C dX9_ofTooth_108 rfl ?_
                refine sw_callVi (pc := 109) C (mX6_takes saw5 a0) sgX6_takes mlX9_122 dX9_ofTooth_109 (by decide) [.int a0] [] saw5.1 rfl rfl rfl rfl (Nat.le_of_ble_eq_true rfl) (fun r19 σ20 => ?_)
                exact sw_reti (pc := 112) C M dX9_ofTooth_112
              · skip
                refine sw_ite (fun h21 => ?_) (fun h21 => ?_)
                · refine sw_tabIn (pc := 14) (off := 99) 113 C dX9_ofTooth_14 (by rw [h21]; decide) (by rw [h21]; decide) (by rw [h21]; rfl) (by decide) ?_
                  refine sw_aloadn (pc := 113) 0 0 C dX9_ofTooth_113 rfl ?_
                  refine sw_getR (pc := 114) C kfX9_21 sh0 ff9_1 dX9_ofTooth_114 ?_
                  refine sw_iloadn (pc := 117) 1 1 C dX9_ofTooth_117 rfl ?_
                  refine sw_callVi (pc := 118) C (mX6_pushes saw5 a0) sgX6_pushes mlX9_125 dX9_ofTooth_118 (by decide) [.int a0] [] saw5.1 rfl rfl rfl rfl (Nat.le_of_ble_eq_true rfl) (fun r22 σ23 => ?_)
                  exact sw_reti (pc := 121) C M dX9_ofTooth_121
                · skip
                  refine sw_tabOut (pc := 14) 122 C dX9_ofTooth_14 (by have qh3 := lv_neT (a := 0) h3 (by decide); have qh6 := lv_neT (a := 1) h6 (by decide); have qh9 := lv_neT (a := 2) h9 (by decide); have qh12 := lv_neT (a := 3) h12 (by decide); have qh15 := lv_neT (a := 4) h15 (by decide); have qh18 := lv_neT (a := 5) h18 (by decide); have qh21 := lv_neT (a := 6) h21 (by decide); omega) (by decide) ?_
                  refine sw_bipush (pc := 122) (v := (-2)) C dX9_ofTooth_122 (by decide) ?_
                  exact sw_reti (pc := 124) C M dX9_ofTooth_124
  · refine sw_iconst (pc := 11) (v := (-1)) C dX9_ofTooth_11 (by decide) ?_
    exact sw_reti (pc := 12) C M dX9_ofTooth_12
set_option maxRecDepth 100000 in
set_option maxHeartbeats 4000000 in
theorem mX9_isWithin   (a0 : Int32) (a1 : Int32) (a2 : Int32) : sw_Ki yX9_isWithin cX9_isWithin 3 (some .boolean) 1 (fun ad => [.int a0, .int a1, .int a2]) (fX9_isWithin a0 a1 a2) := by
  refine sw_enteri (by decide) (fun ad => Nat.le_of_ble_eq_true rfl) (fun X ad t σ C hn M => ?_)
  change sw_J X ad t 0 [(0, .int a0), (1, .int a1), (2, .int a2)] [] σ _
  replace C : sw_C X ad cX9_isWithin RX9 1 := C
  unfold fX9_isWithin
  refine sw_iloadn (pc := 0) 0 0 C dX9_isWithin_0 rfl ?_
  refine sw_iloadn (pc := 1) 1 1 C dX9_isWithin_1 rfl ?_
  refine sw_icmp_lt (pc := 2) 14 C dX9_isWithin_2 (by decide) ?_ ?_
  · refine sw_iconst (pc := 14) (v := 0) C dX9_isWithin_14 (by decide) ?_
    exact sw_retiz (pc := 15) rfl C M dX9_isWithin_15
  · refine sw_iloadn (pc := 5) 0 0 C dX9_isWithin_5 rfl ?_
    refine sw_iloadn (pc := 6) 2 2 C dX9_isWithin_6 rfl ?_
    refine sw_icmp_gt (pc := 7) 14 C dX9_isWithin_7 (by decide) ?_ ?_
    · refine sw_iconst (pc := 14) (v := 0) C dX9_isWithin_14 (by decide) ?_
      exact sw_retiz (pc := 15) rfl C M dX9_isWithin_15
    · refine sw_iconst (pc := 10) (v := 1) C dX9_isWithin_10 (by decide) ?_
      refine sw_goto (pc := 11) 15 C dX9_isWithin_11 (by decide) ?_
      exact sw_retiz (pc := 15) rfl C M dX9_isWithin_15
set_option maxRecDepth 100000 in
set_option maxHeartbeats 4000000 in
theorem mX9_set   (a0 : Int32) (a1 : Int32) (a2 : Int32) : sw_Ki yX9_set cX9_set 5 (some .int) 3 (fun ad => [.ref (ad 0), .int a0, .int a1, .int a2]) (fX9_set a0 a1 a2) := by
  refine sw_enteri (by decide) (fun ad => Nat.le_of_ble_eq_true rfl) (fun X ad t σ C hn M => ?_)
  change sw_J X ad t 0 [(0, .ref (ad 0)), (1, .int a0), (2, .int a1), (3, .int a2)] [] σ _
  replace C : sw_C X ad cX9_set RX9 3 := C
  unfold fX9_set
  refine sw_aloadn (pc := 0) 0 0 C dX9_set_0 rfl ?_
  refine sw_getR (pc := 1) C kfX9_21 sh0 ff9_1 dX9_set_1 ?_
  refine sw_iloadn (pc := 4) 1 1 C dX9_set_4 rfl ?_
  refine sw_callVi (pc := 5) C (mX6_has saw5 a0) sgX6_has mlX9_107 dX9_set_5 (by decide) [.int a0] [] saw5.1 rfl rfl rfl rfl (Nat.le_of_ble_eq_true rfl) (fun r1 σ2 => ?_)
  refine sw_if_ne (pc := 8) 13 C dX9_set_8 (by decide) ?_ ?_
  · refine sw_iloadn (pc := 13) 2 2 C dX9_set_13 rfl ?_
    refine sw_callSi (pc := 14) C (mX6_isSize a1) sgX6_isSize mlX9_128 dX9_set_14 (by decide) [.int a1] [] rfl rfl rfl (Nat.le_of_ble_eq_true rfl) (fun r3 σ4 => ?_)
    refine sw_if_eq (pc := 17) 30 C dX9_set_17 (by decide) ?_ ?_
    · refine sw_bipush (pc := 30) (v := (-2)) C dX9_set_30 (by decide) ?_
      exact sw_reti (pc := 32) C M dX9_set_32
    · refine sw_iloadn (pc := 20) 3 3 C dX9_set_20 rfl ?_
      refine sw_iconst (pc := 21) (v := 0) C dX9_set_21 (by decide) ?_
      refine sw_bipush (pc := 22) (v := 9) C dX9_set_22 (by decide) ?_
      refine sw_callSi (pc := 24) C (mX9_isWithin a2 0 9) sgX9_isWithin mlX9_131 dX9_set_24 (by decide) [.int a2, .int 0, .int 9] [] rfl rfl rfl (Nat.le_of_ble_eq_true rfl) (fun r5 σ6 => ?_)
      refine sw_if_ne (pc := 27) 33 C dX9_set_27 (by decide) ?_ ?_
      · refine sw_aloadn (pc := 33) 0 0 C dX9_set_33 rfl ?_
        refine sw_getR (pc := 34) C kfX9_21 sh0 ff9_1 dX9_set_34 ?_
        refine sw_iloadn (pc := 37) 1 1 C dX9_set_37 rfl ?_
        refine sw_iloadn (pc := 38) 2 2 C dX9_set_38 rfl ?_
        refine sw_callVi (pc := 39) C (mX6_sizeOf saw5 a0 a1) sgX6_sizeOf mlX9_118 dX9_set_39 (by decide) [.int a0, .int a1] [] saw5.1 rfl rfl rfl rfl (Nat.le_of_ble_eq_true rfl) (fun r7 σ8 => ?_)
        refine sw_istore (pc := 42) [(4, .int r7), (0, .ref (ad 0)), (1, .int a0), (2, .int a1), (3, .int a2)] C dX9_set_42 (by rw [hn]; decide) rfl ?_
        refine sw_aloadn (pc := 44) 0 1 C dX9_set_44 rfl ?_
        refine sw_getR (pc := 45) C kfX9_21 sh0 ff9_1 dX9_set_45 ?_
        refine sw_iloadn (pc := 48) 1 2 C dX9_set_48 rfl ?_
        refine sw_iloadn (pc := 49) 2 3 C dX9_set_49 rfl ?_
        refine sw_iloadn (pc := 50) 3 4 C dX9_set_50 rfl ?_
        refine sw_callVv (pc := 51) C (mX6_change saw5 a0 a1 a2) sgX6_change mlX9_135 dX9_set_51 (by decide) [.int a0, .int a1, .int a2] [] saw5.1 rfl rfl rfl rfl (Nat.le_of_ble_eq_true rfl) (fun r9 σ10 => ?_)
        refine sw_iload (pc := 54) 0 C dX9_set_54 rfl ?_
        exact sw_reti (pc := 56) C M dX9_set_56
      · refine sw_bipush (pc := 30) (v := (-2)) C dX9_set_30 (by decide) ?_
        exact sw_reti (pc := 32) C M dX9_set_32
  · refine sw_iconst (pc := 11) (v := (-1)) C dX9_set_11 (by decide) ?_
    exact sw_reti (pc := 12) C M dX9_set_12
set_option maxRecDepth 100000 in
set_option maxHeartbeats 4000000 in
theorem mX9_ofSaw   (a0 : Int32) : sw_Ki yX9_ofSaw cX9_ofSaw 2 (some .int) 3 (fun ad => [.ref (ad 0), .int a0]) (fX9_ofSaw a0) := by
  refine sw_enteri (by decide) (fun ad => Nat.le_of_ble_eq_true rfl) (fun X ad t σ C hn M => ?_)
  change sw_J X ad t 0 [(0, .ref (ad 0)), (1, .int a0)] [] σ _
  replace C : sw_C X ad cX9_ofSaw RX9 3 := C
  unfold fX9_ofSaw
  refine sw_iloadn (pc := 0) 1 1 C dX9_ofSaw_0 rfl ?_
  refine sw_iconst (pc := 1) (v := 0) C dX9_ofSaw_1 (by decide) ?_
  refine sw_iconst (pc := 2) (v := 2) C dX9_ofSaw_2 (by decide) ?_
  refine sw_callSi (pc := 3) C (mX9_isWithin a0 0 2) sgX9_isWithin mlX9_131 dX9_ofSaw_3 (by decide) [.int a0, .int 0, .int 2] [] rfl rfl rfl (Nat.le_of_ble_eq_true rfl) (fun r1 σ2 => ?_)
  refine sw_if_ne (pc := 6) 12 C dX9_ofSaw_6 (by decide) ?_ ?_
  · refine sw_aloadn (pc := 12) 0 0 C dX9_ofSaw_12 rfl ?_
    refine sw_getR (pc := 13) C kfX9_21 sh0 ff9_1 dX9_ofSaw_13 ?_
    refine sw_getI (pc := 16) C kfX9_106 saw5.1 rfl dX9_ofSaw_16 ?_
    refine sw_if_ne (pc := 19) 25 C dX9_ofSaw_19 (by decide) ?_ ?_
    · refine sw_iloadn (pc := 25) 1 1 C dX9_ofSaw_25 rfl ?_
      refine sw_ite (fun h3 => ?_) (fun h3 => ?_)
      · refine sw_look (pc := 26) (off := 26) 52 C dX9_ofSaw_26 (by decide) (by rw [h3]; rfl) (by decide) ?_
        refine sw_aloadn (pc := 52) 0 0 C dX9_ofSaw_52 rfl ?_
        refine sw_getR (pc := 53) C kfX9_21 sh0 ff9_1 dX9_ofSaw_53 ?_
        refine sw_callVi (pc := 56) C (mX6_push saw5) sgX6_push mlX9_139 dX9_ofSaw_56 (by decide) [] [] saw5.1 rfl rfl rfl rfl (Nat.le_of_ble_eq_true rfl) (fun r4 σ5 => ?_)
        exact sw_reti (pc := 59) C M dX9_ofSaw_59
      · skip
        refine sw_ite (fun h6 => ?_) (fun h6 => ?_)
        · refine sw_look (pc := 26) (off := 34) 60 C dX9_ofSaw_26 (by decide) (by rw [h6]; rfl) (by decide) ?_
          refine sw_aloadn (pc := 60) 0 0 C dX9_ofSaw_60 rfl ?_
          refine sw_getR (pc := 61) C kfX9_21 sh0 ff9_1 dX9_ofSaw_61 ?_
          refine sw_callVi (pc := 64) C (mX6_kerf saw5) sgX6_kerf mlX9_143 dX9_ofSaw_64 (by decide) [] [] saw5.1 rfl rfl rfl rfl (Nat.le_of_ble_eq_true rfl) (fun r7 σ8 => ?_)
          exact sw_reti (pc := 67) C M dX9_ofSaw_67
        · skip
          refine sw_look (pc := 26) (off := 42) 68 C dX9_ofSaw_26 (by decide) (by show Op.lookupswitch.offset [(0, 26), (1, 34)] _ _ = _; rw [lv_osw h3 (by decide)]; rw [lv_osw h6 (by decide)]; rfl) (by decide) ?_
          refine sw_aloadn (pc := 68) 0 0 C dX9_ofSaw_68 rfl ?_
          refine sw_getR (pc := 69) C kfX9_21 sh0 ff9_1 dX9_ofSaw_69 ?_
          refine sw_callVi (pc := 72) C (mX6_taken saw5) sgX6_taken mlX9_146 dX9_ofSaw_72 (by decide) [] [] saw5.1 rfl rfl rfl rfl (Nat.le_of_ble_eq_true rfl) (fun r9 σ10 => ?_)
          exact sw_reti (pc := 75) C M dX9_ofSaw_75
    · refine sw_bipush (pc := 22) (v := (-3)) C dX9_ofSaw_22 (by decide) ?_
      exact sw_reti (pc := 24) C M dX9_ofSaw_24
  · refine sw_bipush (pc := 9) (v := (-2)) C dX9_ofSaw_9 (by decide) ?_
    exact sw_reti (pc := 11) C M dX9_ofSaw_11
set_option maxRecDepth 100000 in
set_option maxHeartbeats 4000000 in
theorem mX9_board   (a0 : Int32) (a1 : Int32) (a2 : Int32) (a3 : Int32) : sw_Ki yX9_board cX9_board 7 (some .int) 6 (fun ad => [.ref (ad 0), .int a0, .int a1, .int a2, .int a3]) (fX9_board a0 a1 a2 a3) := by
  refine sw_enteri (by decide) (fun ad => Nat.le_of_ble_eq_true rfl) (fun X ad t σ C hn M => ?_)
  change sw_J X ad t 0 [(0, .ref (ad 0)), (1, .int a0), (2, .int a1), (3, .int a2), (4, .int a3)] [] σ _
  replace C : sw_C X ad cX9_board RX9 6 := C
  unfold fX9_board
  refine sw_aloadn (pc := 0) 0 0 C dX9_board_0 rfl ?_
  refine sw_iloadn (pc := 1) 1 1 C dX9_board_1 rfl ?_
  refine sw_iloadn (pc := 2) 2 2 C dX9_board_2 rfl ?_
  refine sw_iloadn (pc := 3) 3 3 C dX9_board_3 rfl ?_
  refine sw_iload (pc := 4) 4 C dX9_board_4 rfl ?_
  refine sw_callVi (pc := 6) C (mX9_refusalOfCells a0 a1 a2 a3) sgX9_refusalOfCells mlX9_90 dX9_board_6 (by decide) [.int a0, .int a1, .int a2, .int a3] [] sh0 rfl rfl rfl rfl (Nat.le_of_ble_eq_true rfl) (fun r1 σ2 => ?_)
  refine sw_istore (pc := 9) [(5, .int r1), (0, .ref (ad 0)), (1, .int a0), (2, .int a1), (3, .int a2), (4, .int a3)] C dX9_board_9 (by rw [hn]; decide) rfl ?_
  refine sw_iload (pc := 11) 0 C dX9_board_11 rfl ?_
  refine sw_if_eq (pc := 13) 19 C dX9_board_13 (by decide) ?_ ?_
  · refine sw_aloadn (pc := 19) 0 1 C dX9_board_19 rfl ?_
    refine sw_getR (pc := 20) C kfX9_12 sh0 ff9_0 dX9_board_20 ?_
    refine sw_iloadn (pc := 23) 1 2 C dX9_board_23 rfl ?_
    refine sw_iloadn (pc := 24) 3 4 C dX9_board_24 rfl ?_
    refine sw_iload (pc := 25) 5 C dX9_board_25 rfl ?_
    refine sw_callSi (pc := 27) C (mX0_firstFault a0 a2 a3) sgX0_firstFault mlX9_149 dX9_board_27 (by decide) [.ref (ad 1), .int a0, .int a2, .int a3] [] rfl rfl rfl (Nat.le_of_ble_eq_true rfl) (fun r3 σ4 => ?_)
    refine sw_istore (pc := 30) [(6, .int r3), (5, .int r1), (0, .ref (ad 0)), (1, .int a0), (2, .int a1), (3, .int a2), (4, .int a3)] C dX9_board_30 (by rw [hn]; decide) rfl ?_
    refine sw_iload (pc := 32) 0 C dX9_board_32 rfl ?_
    refine sw_iconst (pc := 34) (v := (-1)) C dX9_board_34 (by decide) ?_
    refine sw_icmp_eq (pc := 35) 44 C dX9_board_35 (by decide) ?_ ?_
    · refine sw_aloadn (pc := 44) 0 2 C dX9_board_44 rfl ?_
      refine sw_getR (pc := 45) C kfX9_34 sh0 ff9_4 dX9_board_45 ?_
      refine sw_aloadn (pc := 48) 0 2 C dX9_board_48 rfl ?_
      refine sw_getR (pc := 49) C kfX9_12 sh0 ff9_0 dX9_board_49 ?_
      refine sw_iloadn (pc := 52) 1 3 C dX9_board_52 rfl ?_
      refine sw_iloadn (pc := 53) 3 5 C dX9_board_53 rfl ?_
      refine sw_iload (pc := 54) 6 C dX9_board_54 rfl ?_
      refine sw_callVv (pc := 56) C (mX0_read a0 a2 a3) sgX0_read mlX9_152 dX9_board_56 (by decide) [.ref (ad 1), .int a0, .int a2, .int a3] [] sh17 rfl rfl rfl rfl (Nat.le_of_ble_eq_true rfl) (fun r5 σ6 => ?_)
      refine sw_aloadn (pc := 59) 0 2 C dX9_board_59 rfl ?_
      refine sw_getR (pc := 60) C kfX9_65 sh0 ff9_9 dX9_board_60 ?_
      refine sw_iconst (pc := 63) (v := 0) C dX9_board_63 (by decide) ?_
      refine sw_putL (pc := 64) C kpX9_105 sh30 rfl dX9_board_64 (fun σ7 => ?_)
      refine sw_aloadn (pc := 67) 0 2 C dX9_board_67 rfl ?_
      refine sw_getR (pc := 68) C kfX9_34 sh0 ff9_4 dX9_board_68 ?_
      refine sw_getI (pc := 71) C kfX9_155 sh17 rfl dX9_board_71 ?_
      exact sw_reti (pc := 74) C M dX9_board_74
    · refine sw_bipush (pc := 38) (v := (-100)) C dX9_board_38 (by decide) ?_
      refine sw_iload (pc := 40) 0 C dX9_board_40 rfl ?_
      refine sw_isub (pc := 42) C dX9_board_42 ?_
      exact sw_reti (pc := 43) C M dX9_board_43
  · refine sw_iload (pc := 16) 0 C dX9_board_16 rfl ?_
    exact sw_reti (pc := 18) C M dX9_board_18
set_option maxRecDepth 100000 in
set_option maxHeartbeats 4000000 in
theorem mX9_ofLine   (a0 : Int32) (a1 : Int32) : sw_Ki yX9_ofLine cX9_ofLine 3 (some .int) 3 (fun ad => [.ref (ad 0), .int a0, .int a1]) (fX9_ofLine a0 a1) := by
  refine sw_enteri (by decide) (fun ad => Nat.le_of_ble_eq_true rfl) (fun X ad t σ C hn M => ?_)
  change sw_J X ad t 0 [(0, .ref (ad 0)), (1, .int a0), (2, .int a1)] [] σ _
  replace C : sw_C X ad cX9_ofLine RX9 3 := C
  unfold fX9_ofLine
  refine sw_aloadn (pc := 0) 0 0 C dX9_ofLine_0 rfl ?_
  refine sw_getR (pc := 1) C kfX9_34 sh0 ff9_4 dX9_ofLine_1 ?_
  refine sw_iloadn (pc := 4) 1 1 C dX9_ofLine_4 rfl ?_
  refine sw_callVi (pc := 5) C (mX0_has a0) sgX0_has mlX9_156 dX9_ofLine_5 (by decide) [.int a0] [] sh17 rfl rfl rfl rfl (Nat.le_of_ble_eq_true rfl) (fun r1 σ2 => ?_)
  refine sw_if_ne (pc := 8) 13 C dX9_ofLine_8 (by decide) ?_ ?_
  · refine sw_iloadn (pc := 13) 2 2 C dX9_ofLine_13 rfl ?_
    refine sw_ite (fun h3 => ?_) (fun h3 => ?_)
    · refine sw_tabIn (pc := 14) (off := 26) 40 C dX9_ofLine_14 (by rw [h3]; decide) (by rw [h3]; decide) (by rw [h3]; rfl) (by decide) ?_
      refine sw_aloadn (pc := 40) 0 0 C dX9_ofLine_40 rfl ?_
      refine sw_getR (pc := 41) C kfX9_34 sh0 ff9_4 dX9_ofLine_41 ?_
      refine sw_iloadn (pc := 44) 1 1 C dX9_ofLine_44 rfl ?_
      refine sw_callVi (pc := 45) C (mX0_hardOf a0) sgX0_hardOf mlX9_157 dX9_ofLine_45 (by decide) [.int a0] [] sh17 rfl rfl rfl rfl (Nat.le_of_ble_eq_true rfl) (fun r4 σ5 => ?_)
      exact sw_reti (pc := 48) C M dX9_ofLine_48
    · skip
      refine sw_ite (fun h6 => ?_) (fun h6 => ?_)
      · refine sw_tabIn (pc := 14) (off := 35) 49 C dX9_ofLine_14 (by rw [h6]; decide) (by rw [h6]; decide) (by rw [h6]; rfl) (by decide) ?_
        refine sw_aloadn (pc := 49) 0 0 C dX9_ofLine_49 rfl ?_
        refine sw_getR (pc := 50) C kfX9_34 sh0 ff9_4 dX9_ofLine_50 ?_
        refine sw_iloadn (pc := 53) 1 1 C dX9_ofLine_53 rfl ?_
        refine sw_callVi (pc := 54) C (mX0_grainOf a0) sgX0_grainOf mlX9_160 dX9_ofLine_54 (by decide) [.int a0] [] sh17 rfl rfl rfl rfl (Nat.le_of_ble_eq_true rfl) (fun r7 σ8 => ?_)
        exact sw_reti (pc := 57) C M dX9_ofLine_57
      · skip
        refine sw_ite (fun h9 => ?_) (fun h9 => ?_)
        · refine sw_tabIn (pc := 14) (off := 44) 58 C dX9_ofLine_14 (by rw [h9]; decide) (by rw [h9]; decide) (by rw [h9]; rfl) (by decide) ?_
          refine sw_aloadn (pc := 58) 0 0 C dX9_ofLine_58 rfl ?_
          refine sw_getR (pc := 59) C kfX9_34 sh0 ff9_4 dX9_ofLine_59 ?_
          refine sw_iloadn (pc := 62) 1 1 C dX9_ofLine_62 rfl ?_
          refine sw_callVi (pc := 63) C (mX0_closesOf a0) sgX0_closesOf mlX9_163 dX9_ofLine_63 (by decide) [.int a0] [] sh17 rfl rfl rfl rfl (Nat.le_of_ble_eq_true rfl) (fun r10 σ11 => ?_)
          exact sw_reti (pc := 66) C M dX9_ofLine_66
        · skip
          refine sw_tabOut (pc := 14) 67 C dX9_ofLine_14 (by have qh3 := lv_neT (a := 0) h3 (by decide); have qh6 := lv_neT (a := 1) h6 (by decide); have qh9 := lv_neT (a := 2) h9 (by decide); omega) (by decide) ?_
          refine sw_bipush (pc := 67) (v := (-2)) C dX9_ofLine_67 (by decide) ?_
          exact sw_reti (pc := 69) C M dX9_ofLine_69
  · refine sw_iconst (pc := 11) (v := (-1)) C dX9_ofLine_11 (by decide) ?_
    exact sw_reti (pc := 12) C M dX9_ofLine_12
set_option maxRecDepth 100000 in
set_option maxHeartbeats 4000000 in
theorem mX9_hand   (a0 : Int32) (a1 : Int32) (a2 : Int32) : sw_Ki yX9_hand cX9_hand 4 (some .int) 2 (fun ad => [.ref (ad 0), .int a0, .int a1, .int a2]) (fX9_hand a0 a1 a2) := by
  refine sw_enteri (by decide) (fun ad => Nat.le_of_ble_eq_true rfl) (fun X ad t σ C hn M => ?_)
  change sw_J X ad t 0 [(0, .ref (ad 0)), (1, .int a0), (2, .int a1), (3, .int a2)] [] σ _
  replace C : sw_C X ad cX9_hand RX9 2 := C
  unfold fX9_hand
  refine sw_iloadn (pc := 0) 1 1 C dX9_hand_0 rfl ?_
  refine sw_bipush (pc := 1) (v := (-9)) C dX9_hand_1 (by decide) ?_
  refine sw_bipush (pc := 3) (v := 9) C dX9_hand_3 (by decide) ?_
  refine sw_callSi (pc := 5) C (mX9_isWithin a0 (-9) 9) sgX9_isWithin mlX9_131 dX9_hand_5 (by decide) [.int a0, .int (-9), .int 9] [] rfl rfl rfl (Nat.le_of_ble_eq_true rfl) (fun r1 σ2 => ?_)
  refine sw_if_eq (pc := 8) 30 C dX9_hand_8 (by decide) ?_ ?_
  · refine sw_bipush (pc := 30) (v := (-2)) C dX9_hand_30 (by decide) ?_
    exact sw_reti (pc := 32) C M dX9_hand_32
  · refine sw_iloadn (pc := 11) 2 2 C dX9_hand_11 rfl ?_
    refine sw_iconst (pc := 12) (v := 0) C dX9_hand_12 (by decide) ?_
    refine sw_bipush (pc := 13) (v := 9) C dX9_hand_13 (by decide) ?_
    refine sw_callSi (pc := 15) C (mX9_isWithin a1 0 9) sgX9_isWithin mlX9_131 dX9_hand_15 (by decide) [.int a1, .int 0, .int 9] [] rfl rfl rfl (Nat.le_of_ble_eq_true rfl) (fun r3 σ4 => ?_)
    refine sw_if_eq (pc := 18) 30 C dX9_hand_18 (by decide) ?_ ?_
    · refine sw_bipush (pc := 30) (v := (-2)) C dX9_hand_30 (by decide) ?_
      exact sw_reti (pc := 32) C M dX9_hand_32
    · refine sw_iloadn (pc := 21) 3 3 C dX9_hand_21 rfl ?_
      refine sw_iconst (pc := 22) (v := 0) C dX9_hand_22 (by decide) ?_
      refine sw_iconst (pc := 23) (v := 5) C dX9_hand_23 (by decide) ?_
      refine sw_callSi (pc := 24) C (mX9_isWithin a2 0 5) sgX9_isWithin mlX9_131 dX9_hand_24 (by decide) [.int a2, .int 0, .int 5] [] rfl rfl rfl (Nat.le_of_ble_eq_true rfl) (fun r5 σ6 => ?_)
      refine sw_if_ne (pc := 27) 33 C dX9_hand_27 (by decide) ?_ ?_
      · refine sw_aloadn (pc := 33) 0 0 C dX9_hand_33 rfl ?_
        refine sw_getR (pc := 34) C kfX9_41 sh0 ff9_5 dX9_hand_34 ?_
        refine sw_iloadn (pc := 37) 1 1 C dX9_hand_37 rfl ?_
        refine sw_putL (pc := 38) C kpX9_166 sh21 rfl dX9_hand_38 (fun σ7 => ?_)
        refine sw_aloadn (pc := 41) 0 0 C dX9_hand_41 rfl ?_
        refine sw_getR (pc := 42) C kfX9_41 sh0 ff9_5 dX9_hand_42 ?_
        refine sw_iloadn (pc := 45) 2 2 C dX9_hand_45 rfl ?_
        refine sw_putL (pc := 46) C kpX9_169 sh21 rfl dX9_hand_46 (fun σ8 => ?_)
        refine sw_aloadn (pc := 49) 0 0 C dX9_hand_49 rfl ?_
        refine sw_getR (pc := 50) C kfX9_41 sh0 ff9_5 dX9_hand_50 ?_
        refine sw_iloadn (pc := 53) 3 3 C dX9_hand_53 rfl ?_
        refine sw_putL (pc := 54) C kpX9_172 sh21 rfl dX9_hand_54 (fun σ9 => ?_)
        refine sw_iconst (pc := 57) (v := 1) C dX9_hand_57 (by decide) ?_
        exact sw_reti (pc := 58) C M dX9_hand_58
      · refine sw_bipush (pc := 30) (v := (-2)) C dX9_hand_30 (by decide) ?_
        exact sw_reti (pc := 32) C M dX9_hand_32
set_option maxRecDepth 100000 in
set_option maxHeartbeats 4000000 in
theorem mX9_ofHand   (a0 : Int32) : sw_Ki yX9_ofHand cX9_ofHand 2 (some .int) 1 (fun ad => [.ref (ad 0), .int a0]) (fX9_ofHand a0) := by
  refine sw_enteri (by decide) (fun ad => Nat.le_of_ble_eq_true rfl) (fun X ad t σ C hn M => ?_)
  change sw_J X ad t 0 [(0, .ref (ad 0)), (1, .int a0)] [] σ _
  replace C : sw_C X ad cX9_ofHand RX9 1 := C
  unfold fX9_ofHand
  refine sw_iloadn (pc := 0) 1 1 C dX9_ofHand_0 rfl ?_
  refine sw_ite (fun h1 => ?_) (fun h1 => ?_)
  · refine sw_tabIn (pc := 1) (off := 27) 28 C dX9_ofHand_1 (by rw [h1]; decide) (by rw [h1]; decide) (by rw [h1]; rfl) (by decide) ?_
    refine sw_aloadn (pc := 28) 0 0 C dX9_ofHand_28 rfl ?_
    refine sw_getR (pc := 29) C kfX9_41 sh0 ff9_5 dX9_ofHand_29 ?_
    refine sw_getI (pc := 32) C kfX9_166 sh21 rfl dX9_ofHand_32 ?_
    exact sw_reti (pc := 35) C M dX9_ofHand_35
  · skip
    refine sw_ite (fun h2 => ?_) (fun h2 => ?_)
    · refine sw_tabIn (pc := 1) (off := 35) 36 C dX9_ofHand_1 (by rw [h2]; decide) (by rw [h2]; decide) (by rw [h2]; rfl) (by decide) ?_
      refine sw_aloadn (pc := 36) 0 0 C dX9_ofHand_36 rfl ?_
      refine sw_getR (pc := 37) C kfX9_41 sh0 ff9_5 dX9_ofHand_37 ?_
      refine sw_getI (pc := 40) C kfX9_169 sh21 rfl dX9_ofHand_40 ?_
      exact sw_reti (pc := 43) C M dX9_ofHand_43
    · skip
      refine sw_ite (fun h3 => ?_) (fun h3 => ?_)
      · refine sw_tabIn (pc := 1) (off := 43) 44 C dX9_ofHand_1 (by rw [h3]; decide) (by rw [h3]; decide) (by rw [h3]; rfl) (by decide) ?_
        refine sw_aloadn (pc := 44) 0 0 C dX9_ofHand_44 rfl ?_
        refine sw_getR (pc := 45) C kfX9_41 sh0 ff9_5 dX9_ofHand_45 ?_
        refine sw_getI (pc := 48) C kfX9_172 sh21 rfl dX9_ofHand_48 ?_
        exact sw_reti (pc := 51) C M dX9_ofHand_51
      · skip
        refine sw_tabOut (pc := 1) 52 C dX9_ofHand_1 (by have qh1 := lv_neT (a := 0) h1 (by decide); have qh2 := lv_neT (a := 1) h2 (by decide); have qh3 := lv_neT (a := 2) h3 (by decide); omega) (by decide) ?_
        refine sw_bipush (pc := 52) (v := (-2)) C dX9_ofHand_52 (by decide) ?_
        exact sw_reti (pc := 54) C M dX9_ofHand_54
set_option maxRecDepth 100000 in
set_option maxHeartbeats 4000000 in
theorem mX9_fence   (a0 : Int32) : sw_Ki yX9_fence cX9_fence 3 (some .int) 2 (fun ad => [.ref (ad 0), .int a0]) (fX9_fence a0) := by
  refine sw_enteri (by decide) (fun ad => Nat.le_of_ble_eq_true rfl) (fun X ad t σ C hn M => ?_)
  change sw_J X ad t 0 [(0, .ref (ad 0)), (1, .int a0)] [] σ _
  replace C : sw_C X ad cX9_fence RX9 2 := C
  unfold fX9_fence
  refine sw_iloadn (pc := 0) 1 1 C dX9_fence_0 rfl ?_
  refine sw_iconst (pc := 1) (v := 0) C dX9_fence_1 (by decide) ?_
  refine sw_bipush (pc := 2) (v := 99) C dX9_fence_2 (by decide) ?_
  refine sw_callSi (pc := 4) C (mX9_isWithin a0 0 99) sgX9_isWithin mlX9_131 dX9_fence_4 (by decide) [.int a0, .int 0, .int 99] [] rfl rfl rfl (Nat.le_of_ble_eq_true rfl) (fun r1 σ2 => ?_)
  refine sw_if_ne (pc := 7) 13 C dX9_fence_7 (by decide) ?_ ?_
  · refine sw_aloadn (pc := 13) 0 0 C dX9_fence_13 rfl ?_
    refine sw_getR (pc := 14) C kfX9_41 sh0 ff9_5 dX9_fence_14 ?_
    refine sw_getI (pc := 17) C kfX9_175 sh21 rfl dX9_fence_17 ?_
    refine sw_leti (fun x3 => ?_)
    refine sw_istoren (pc := 20) 2 [(2, .int x3), (0, .ref (ad 0)), (1, .int a0)] C dX9_fence_20 (by rw [hn]; decide) rfl ?_
    refine sw_aloadn (pc := 21) 0 1 C dX9_fence_21 rfl ?_
    refine sw_getR (pc := 22) C kfX9_41 sh0 ff9_5 dX9_fence_22 ?_
    refine sw_iloadn (pc := 25) 1 2 C dX9_fence_25 rfl ?_
    refine sw_putL (pc := 26) C kpX9_175 sh21 rfl dX9_fence_26 (fun σ4 => ?_)
    refine sw_iloadn (pc := 29) 2 0 C dX9_fence_29 rfl ?_
    exact sw_reti (pc := 30) C M dX9_fence_30
  · refine sw_bipush (pc := 10) (v := (-2)) C dX9_fence_10 (by decide) ?_
    exact sw_reti (pc := 12) C M dX9_fence_12
set_option maxRecDepth 100000 in
set_option maxHeartbeats 4000000 in
theorem mX9_lacksSawOrBoard    : sw_Ki yX9_lacksSawOrBoard cX9_lacksSawOrBoard 1 (some .boolean) 1 (fun ad => [.ref (ad 0)]) fX9_lacksSawOrBoard := by
  refine sw_enteri (by decide) (fun ad => Nat.le_of_ble_eq_true rfl) (fun X ad t σ C hn M => ?_)
  change sw_J X ad t 0 [(0, .ref (ad 0))] [] σ _
  replace C : sw_C X ad cX9_lacksSawOrBoard RX9 1 := C
  unfold fX9_lacksSawOrBoard
  refine sw_aloadn (pc := 0) 0 0 C dX9_lacksSawOrBoard_0 rfl ?_
  refine sw_getR (pc := 1) C kfX9_21 sh0 ff9_1 dX9_lacksSawOrBoard_1 ?_
  refine sw_getI (pc := 4) C kfX9_106 saw5.1 rfl dX9_lacksSawOrBoard_4 ?_
  refine sw_if_eq (pc := 7) 20 C dX9_lacksSawOrBoard_7 (by decide) ?_ ?_
  · refine sw_iconst (pc := 20) (v := 1) C dX9_lacksSawOrBoard_20 (by decide) ?_
    refine sw_goto (pc := 21) 25 C dX9_lacksSawOrBoard_21 (by decide) ?_
    exact sw_retiz (pc := 25) rfl C M dX9_lacksSawOrBoard_25
  · refine sw_aloadn (pc := 10) 0 0 C dX9_lacksSawOrBoard_10 rfl ?_
    refine sw_getR (pc := 11) C kfX9_34 sh0 ff9_4 dX9_lacksSawOrBoard_11 ?_
    refine sw_getI (pc := 14) C kfX9_155 sh17 rfl dX9_lacksSawOrBoard_14 ?_
    refine sw_if_ne (pc := 17) 24 C dX9_lacksSawOrBoard_17 (by decide) ?_ ?_
    · refine sw_iconst (pc := 24) (v := 0) C dX9_lacksSawOrBoard_24 (by decide) ?_
      exact sw_retiz (pc := 25) rfl C M dX9_lacksSawOrBoard_25
    · refine sw_iconst (pc := 20) (v := 1) C dX9_lacksSawOrBoard_20 (by decide) ?_
      refine sw_goto (pc := 21) 25 C dX9_lacksSawOrBoard_21 (by decide) ?_
      exact sw_retiz (pc := 25) rfl C M dX9_lacksSawOrBoard_25
set_option maxRecDepth 100000 in
set_option maxHeartbeats 4000000 in
theorem mX9_cutAsItIs    : sw_Kv yX9_cutAsItIs cX9_cutAsItIs 1 none 4 (fun ad => [.ref (ad 0)]) fX9_cutAsItIs := by
  refine sw_enterv (by decide) (fun ad => Nat.le_of_ble_eq_true rfl) (fun X ad t σ C hn M => ?_)
  change sw_J X ad t 0 [(0, .ref (ad 0))] [] σ _
  replace C : sw_C X ad cX9_cutAsItIs RX9 4 := C
  unfold fX9_cutAsItIs
  refine sw_aloadn (pc := 0) 0 0 C dX9_cutAsItIs_0 rfl ?_
  refine sw_getR (pc := 1) C kfX9_51 sh0 ff9_7 dX9_cutAsItIs_1 ?_
  refine sw_aloadn (pc := 4) 0 0 C dX9_cutAsItIs_4 rfl ?_
  refine sw_getR (pc := 5) C kfX9_21 sh0 ff9_1 dX9_cutAsItIs_5 ?_
  refine sw_aloadn (pc := 8) 0 0 C dX9_cutAsItIs_8 rfl ?_
  refine sw_getR (pc := 9) C kfX9_34 sh0 ff9_4 dX9_cutAsItIs_9 ?_
  refine sw_aloadn (pc := 12) 0 0 C dX9_cutAsItIs_12 rfl ?_
  refine sw_getR (pc := 13) C kfX9_41 sh0 ff9_5 dX9_cutAsItIs_13 ?_
  refine sw_callVv (pc := 16) C (mX1_go saw5 sh21) sgX1_go mlX9_329 dX9_cutAsItIs_16 (by decide) [.ref (ad 5), .ref (ad 17), .ref (ad 21)] [] sh23 rfl rfl rfl rfl (Nat.le_of_ble_eq_true rfl) (fun r1 σ2 => ?_)
  exact sw_retv (pc := 19) C M dX9_cutAsItIs_19
set_option maxRecDepth 100000 in
set_option maxHeartbeats 4000000 in
theorem mX9_countStrokes    : sw_Ki yX9_countStrokes cX9_countStrokes 1 (some .int) 5 (fun ad => [.ref (ad 0)]) fX9_countStrokes := by
  refine sw_enteri (by decide) (fun ad => Nat.le_of_ble_eq_true rfl) (fun X ad t σ C hn M => ?_)
  change sw_J X ad t 0 [(0, .ref (ad 0))] [] σ _
  replace C : sw_C X ad cX9_countStrokes RX9 5 := C
  unfold fX9_countStrokes
  refine sw_aloadn (pc := 0) 0 0 C dX9_countStrokes_0 rfl ?_
  refine sw_callVi (pc := 1) C mX9_lacksSawOrBoard sgX9_lacksSawOrBoard mlX9_189 dX9_countStrokes_1 (by decide) [] [] sh0 rfl rfl rfl rfl (Nat.le_of_ble_eq_true rfl) (fun r1 σ2 => ?_)
  refine sw_if_eq (pc := 4) 9 C dX9_countStrokes_4 (by decide) ?_ ?_
  · refine sw_aloadn (pc := 9) 0 0 C dX9_countStrokes_9 rfl ?_
    refine sw_callVv (pc := 10) C mX9_cutAsItIs sgX9_cutAsItIs mlX9_193 dX9_countStrokes_10 (by decide) [] [] sh0 rfl rfl rfl rfl (Nat.le_of_ble_eq_true rfl) (fun r3 σ4 => ?_)
    refine sw_aloadn (pc := 13) 0 0 C dX9_countStrokes_13 rfl ?_
    refine sw_getR (pc := 14) C kfX9_51 sh0 ff9_7 dX9_countStrokes_14 ?_
    refine sw_getI (pc := 17) C kfX9_333 sh23 rfl dX9_countStrokes_17 ?_
    exact sw_reti (pc := 20) C M dX9_countStrokes_20
  · refine sw_iconst (pc := 7) (v := 0) C dX9_countStrokes_7 (by decide) ?_
    exact sw_reti (pc := 8) C M dX9_countStrokes_8
set_option maxRecDepth 100000 in
set_option maxHeartbeats 4000000 in
theorem mX9_refusalOfStroke   (a0 : Int32) : sw_Ki yX9_refusalOfStroke cX9_refusalOfStroke 2 (some .int) 6 (fun ad => [.ref (ad 0), .int a0]) (fX9_refusalOfStroke a0) := by
  refine sw_enteri (by decide) (fun ad => Nat.le_of_ble_eq_true rfl) (fun X ad t σ C hn M => ?_)
  change sw_J X ad t 0 [(0, .ref (ad 0)), (1, .int a0)] [] σ _
  replace C : sw_C X ad cX9_refusalOfStroke RX9 6 := C
  unfold fX9_refusalOfStroke
  refine sw_aloadn (pc := 0) 0 0 C dX9_refusalOfStroke_0 rfl ?_
  refine sw_getR (pc := 1) C kfX9_34 sh0 ff9_4 dX9_refusalOfStroke_1 ?_
  refine sw_iloadn (pc := 4) 1 1 C dX9_refusalOfStroke_4 rfl ?_
  refine sw_callVi (pc := 5) C (mX0_has a0) sgX0_has mlX9_156 dX9_refusalOfStroke_5 (by decide) [.int a0] [] sh17 rfl rfl rfl rfl (Nat.le_of_ble_eq_true rfl) (fun r1 σ2 => ?_)
  refine sw_if_ne (pc := 8) 13 C dX9_refusalOfStroke_8 (by decide) ?_ ?_
  · refine sw_iloadn (pc := 13) 1 1 C dX9_refusalOfStroke_13 rfl ?_
    refine sw_aloadn (pc := 14) 0 0 C dX9_refusalOfStroke_14 rfl ?_
    refine sw_callVi (pc := 15) C mX9_countStrokes sgX9_countStrokes mlX9_326 dX9_refusalOfStroke_15 (by decide) [] [.int a0] sh0 rfl rfl rfl rfl (Nat.le_of_ble_eq_true rfl) (fun r3 σ4 => ?_)
    refine sw_icmp_ge (pc := 18) 25 C dX9_refusalOfStroke_18 (by decide) ?_ ?_
    · refine sw_bipush (pc := 25) (v := (-3)) C dX9_refusalOfStroke_25 (by decide) ?_
      exact sw_reti (pc := 27) C M dX9_refusalOfStroke_27
    · refine sw_iconst (pc := 21) (v := 0) C dX9_refusalOfStroke_21 (by decide) ?_
      refine sw_goto (pc := 22) 27 C dX9_refusalOfStroke_22 (by decide) ?_
      exact sw_reti (pc := 27) C M dX9_refusalOfStroke_27
  · refine sw_iconst (pc := 11) (v := (-1)) C dX9_refusalOfStroke_11 (by decide) ?_
    exact sw_reti (pc := 12) C M dX9_refusalOfStroke_12
set_option maxRecDepth 100000 in
set_option maxHeartbeats 4000000 in
theorem mX9_where   (a0 : Int32) : sw_Kl yX9_where cX9_where 2 (some .long) 7 (fun ad => [.ref (ad 0), .int a0]) (fX9_where a0) := by
  refine sw_enterl (by decide) (fun ad => Nat.le_of_ble_eq_true rfl) (fun X ad t σ C hn M => ?_)
  change sw_J X ad t 0 [(0, .ref (ad 0)), (1, .int a0)] [] σ _
  replace C : sw_C X ad cX9_where RX9 7 := C
  unfold fX9_where
  refine sw_aloadn (pc := 0) 0 0 C dX9_where_0 rfl ?_
  refine sw_iloadn (pc := 1) 1 1 C dX9_where_1 rfl ?_
  refine sw_callVi (pc := 2) C (mX9_refusalOfStroke a0) sgX9_refusalOfStroke mlX9_178 dX9_where_2 (by decide) [.int a0] [] sh0 rfl rfl rfl rfl (Nat.le_of_ble_eq_true rfl) (fun r1 σ2 => ?_)
  refine sw_if_ne (pc := 5) 20 C dX9_where_5 (by decide) ?_ ?_
  · refine sw_ldc2 (pc := 20) C dX9_where_20 klX9_184 ?_
    exact sw_retl (pc := 23) C M dX9_where_23
  · refine sw_aloadn (pc := 8) 0 0 C dX9_where_8 rfl ?_
    refine sw_getR (pc := 9) C kfX9_51 sh0 ff9_7 dX9_where_9 ?_
    refine sw_iloadn (pc := 12) 1 1 C dX9_where_12 rfl ?_
    refine sw_callVi (pc := 13) C (mX1_placeBehind a0) sgX1_placeBehind mlX9_181 dX9_where_13 (by decide) [.int a0] [] sh23 rfl rfl rfl rfl (Nat.le_of_ble_eq_true rfl) (fun r3 σ4 => ?_)
    refine sw_i2l (pc := 16) C dX9_where_16 ?_
    refine sw_goto (pc := 17) 23 C dX9_where_17 (by decide) ?_
    exact sw_retl (pc := 23) C M dX9_where_23
set_option maxRecDepth 100000 in
set_option maxHeartbeats 4000000 in
theorem mX9_heading   (a0 : Int32) : sw_Kl yX9_heading cX9_heading 2 (some .long) 7 (fun ad => [.ref (ad 0), .int a0]) (fX9_heading a0) := by
  refine sw_enterl (by decide) (fun ad => Nat.le_of_ble_eq_true rfl) (fun X ad t σ C hn M => ?_)
  change sw_J X ad t 0 [(0, .ref (ad 0)), (1, .int a0)] [] σ _
  replace C : sw_C X ad cX9_heading RX9 7 := C
  unfold fX9_heading
  refine sw_aloadn (pc := 0) 0 0 C dX9_heading_0 rfl ?_
  refine sw_iloadn (pc := 1) 1 1 C dX9_heading_1 rfl ?_
  refine sw_callVi (pc := 2) C (mX9_refusalOfStroke a0) sgX9_refusalOfStroke mlX9_178 dX9_heading_2 (by decide) [.int a0] [] sh0 rfl rfl rfl rfl (Nat.le_of_ble_eq_true rfl) (fun r1 σ2 => ?_)
  refine sw_if_ne (pc := 5) 20 C dX9_heading_5 (by decide) ?_ ?_
  · refine sw_ldc2 (pc := 20) C dX9_heading_20 klX9_184 ?_
    exact sw_retl (pc := 23) C M dX9_heading_23
  · refine sw_aloadn (pc := 8) 0 0 C dX9_heading_8 rfl ?_
    refine sw_getR (pc := 9) C kfX9_51 sh0 ff9_7 dX9_heading_9 ?_
    refine sw_iloadn (pc := 12) 1 1 C dX9_heading_12 rfl ?_
    refine sw_callVi (pc := 13) C (mX1_headingBehind a0) sgX1_headingBehind mlX9_186 dX9_heading_13 (by decide) [.int a0] [] sh23 rfl rfl rfl rfl (Nat.le_of_ble_eq_true rfl) (fun r3 σ4 => ?_)
    refine sw_i2l (pc := 16) C dX9_heading_16 ?_
    refine sw_goto (pc := 17) 23 C dX9_heading_17 (by decide) ?_
    exact sw_retl (pc := 23) C M dX9_heading_23
set_option maxRecDepth 100000 in
set_option maxHeartbeats 4000000 in
theorem mX9_off    : sw_Ki yX9_off cX9_off 1 (some .int) 5 (fun ad => [.ref (ad 0)]) fX9_off := by
  refine sw_enteri (by decide) (fun ad => Nat.le_of_ble_eq_true rfl) (fun X ad t σ C hn M => ?_)
  change sw_J X ad t 0 [(0, .ref (ad 0))] [] σ _
  replace C : sw_C X ad cX9_off RX9 5 := C
  unfold fX9_off
  refine sw_aloadn (pc := 0) 0 0 C dX9_off_0 rfl ?_
  refine sw_callVi (pc := 1) C mX9_lacksSawOrBoard sgX9_lacksSawOrBoard mlX9_189 dX9_off_1 (by decide) [] [] sh0 rfl rfl rfl rfl (Nat.le_of_ble_eq_true rfl) (fun r1 σ2 => ?_)
  refine sw_if_eq (pc := 4) 10 C dX9_off_4 (by decide) ?_ ?_
  · refine sw_aloadn (pc := 10) 0 0 C dX9_off_10 rfl ?_
    refine sw_callVv (pc := 11) C mX9_cutAsItIs sgX9_cutAsItIs mlX9_193 dX9_off_11 (by decide) [] [] sh0 rfl rfl rfl rfl (Nat.le_of_ble_eq_true rfl) (fun r3 σ4 => ?_)
    refine sw_aloadn (pc := 14) 0 0 C dX9_off_14 rfl ?_
    refine sw_getR (pc := 15) C kfX9_51 sh0 ff9_7 dX9_off_15 ?_
    refine sw_getI (pc := 18) C kfX9_196 sh23 rfl dX9_off_18 ?_
    exact sw_reti (pc := 21) C M dX9_off_21
  · refine sw_bipush (pc := 7) (v := (-3)) C dX9_off_7 (by decide) ?_
    exact sw_reti (pc := 9) C M dX9_off_9
set_option maxRecDepth 100000 in
set_option maxHeartbeats 4000000 in
theorem mX9_pinched    : sw_Ki yX9_pinched cX9_pinched 1 (some .int) 5 (fun ad => [.ref (ad 0)]) fX9_pinched := by
  refine sw_enteri (by decide) (fun ad => Nat.le_of_ble_eq_true rfl) (fun X ad t σ C hn M => ?_)
  change sw_J X ad t 0 [(0, .ref (ad 0))] [] σ _
  replace C : sw_C X ad cX9_pinched RX9 5 := C
  unfold fX9_pinched
  refine sw_aloadn (pc := 0) 0 0 C dX9_pinched_0 rfl ?_
  refine sw_callVi (pc := 1) C mX9_lacksSawOrBoard sgX9_lacksSawOrBoard mlX9_189 dX9_pinched_1 (by decide) [] [] sh0 rfl rfl rfl rfl (Nat.le_of_ble_eq_true rfl) (fun r1 σ2 => ?_)
  refine sw_if_eq (pc := 4) 10 C dX9_pinched_4 (by decide) ?_ ?_
  · refine sw_aloadn (pc := 10) 0 0 C dX9_pinched_10 rfl ?_
    refine sw_callVv (pc := 11) C mX9_cutAsItIs sgX9_cutAsItIs mlX9_193 dX9_pinched_11 (by decide) [] [] sh0 rfl rfl rfl rfl (Nat.le_of_ble_eq_true rfl) (fun r3 σ4 => ?_)
    refine sw_aloadn (pc := 14) 0 0 C dX9_pinched_14 rfl ?_
    refine sw_getR (pc := 15) C kfX9_51 sh0 ff9_7 dX9_pinched_15 ?_
    refine sw_getI (pc := 18) C kfX9_199 sh23 rfl dX9_pinched_18 ?_
    exact sw_reti (pc := 21) C M dX9_pinched_21
  · refine sw_bipush (pc := 7) (v := (-3)) C dX9_pinched_7 (by decide) ?_
    exact sw_reti (pc := 9) C M dX9_pinched_9
set_option maxRecDepth 100000 in
set_option maxHeartbeats 4000000 in
theorem mX9_marks   (a0 : Int32) : sw_Ki yX9_marks cX9_marks 3 (some .int) 7 (fun ad => [.ref (ad 0), .int a0]) (fX9_marks a0) := by
  refine sw_enteri (by decide) (fun ad => Nat.le_of_ble_eq_true rfl) (fun X ad t σ C hn M => ?_)
  change sw_J X ad t 0 [(0, .ref (ad 0)), (1, .int a0)] [] σ _
  replace C : sw_C X ad cX9_marks RX9 7 := C
  unfold fX9_marks
  refine sw_aloadn (pc := 0) 0 0 C dX9_marks_0 rfl ?_
  refine sw_iloadn (pc := 1) 1 1 C dX9_marks_1 rfl ?_
  refine sw_callVi (pc := 2) C (mX9_refusalOfStroke a0) sgX9_refusalOfStroke mlX9_178 dX9_marks_2 (by decide) [.int a0] [] sh0 rfl rfl rfl rfl (Nat.le_of_ble_eq_true rfl) (fun r1 σ2 => ?_)
  refine sw_istoren (pc := 5) 2 [(2, .int r1), (0, .ref (ad 0)), (1, .int a0)] C dX9_marks_5 (by rw [hn]; decide) rfl ?_
  refine sw_iloadn (pc := 6) 2 0 C dX9_marks_6 rfl ?_
  refine sw_if_ne (pc := 7) 20 C dX9_marks_7 (by decide) ?_ ?_
  · refine sw_iloadn (pc := 20) 2 0 C dX9_marks_20 rfl ?_
    exact sw_reti (pc := 21) C M dX9_marks_21
  · refine sw_aloadn (pc := 10) 0 1 C dX9_marks_10 rfl ?_
    refine sw_getR (pc := 11) C kfX9_21 sh0 ff9_1 dX9_marks_11 ?_
    refine sw_callVi (pc := 14) C (mX6_countMarks saw5) sgX6_countMarks mlX9_202 dX9_marks_14 (by decide) [] [] saw5.1 rfl rfl rfl rfl (Nat.le_of_ble_eq_true rfl) (fun r3 σ4 => ?_)
    refine sw_goto (pc := 17) 21 C dX9_marks_17 (by decide) ?_
    exact sw_reti (pc := 21) C M dX9_marks_21
set_option maxRecDepth 100000 in
set_option maxHeartbeats 4000000 in
theorem mX9_which   (a0 : Int32) (a1 : Int32) : sw_Ki yX9_which cX9_which 4 (some .int) 7 (fun ad => [.ref (ad 0), .int a0, .int a1]) (fX9_which a0 a1) := by
  refine sw_enteri (by decide) (fun ad => Nat.le_of_ble_eq_true rfl) (fun X ad t σ C hn M => ?_)
  change sw_J X ad t 0 [(0, .ref (ad 0)), (1, .int a0), (2, .int a1)] [] σ _
  replace C : sw_C X ad cX9_which RX9 7 := C
  unfold fX9_which
  refine sw_aloadn (pc := 0) 0 0 C dX9_which_0 rfl ?_
  refine sw_iloadn (pc := 1) 1 1 C dX9_which_1 rfl ?_
  refine sw_callVi (pc := 2) C (mX9_refusalOfStroke a0) sgX9_refusalOfStroke mlX9_178 dX9_which_2 (by decide) [.int a0] [] sh0 rfl rfl rfl rfl (Nat.le_of_ble_eq_true rfl) (fun r1 σ2 => ?_)
  refine sw_istoren (pc := 5) 3 [(3, .int r1), (0, .ref (ad 0)), (1, .int a0), (2, .int a1)] C dX9_which_5 (by rw [hn]; decide) rfl ?_
  refine sw_iloadn (pc := 6) 3 0 C dX9_which_6 rfl ?_
  refine sw_if_ne (pc := 7) 29 C dX9_which_7 (by decide) ?_ ?_
  · refine sw_iloadn (pc := 29) 3 0 C dX9_which_29 rfl ?_
    exact sw_reti (pc := 30) C M dX9_which_30
  · refine sw_aloadn (pc := 10) 0 1 C dX9_which_10 rfl ?_
    refine sw_getR (pc := 11) C kfX9_21 sh0 ff9_1 dX9_which_11 ?_
    refine sw_aloadn (pc := 14) 0 1 C dX9_which_14 rfl ?_
    refine sw_getR (pc := 15) C kfX9_51 sh0 ff9_7 dX9_which_15 ?_
    refine sw_iloadn (pc := 18) 1 2 C dX9_which_18 rfl ?_
    refine sw_callVi (pc := 19) C (mX1_placeBehind a0) sgX1_placeBehind mlX9_181 dX9_which_19 (by decide) [.int a0] [.ref (ad 5)] sh23 rfl rfl rfl rfl (Nat.le_of_ble_eq_true rfl) (fun r3 σ4 => ?_)
    refine sw_iloadn (pc := 22) 2 3 C dX9_which_22 rfl ?_
    refine sw_callVi (pc := 23) C (mX6_whichLeave saw5 r3 a1) sgX6_whichLeave mlX9_205 dX9_which_23 (by decide) [.int r3, .int a1] [] saw5.1 rfl rfl rfl rfl (Nat.le_of_ble_eq_true rfl) (fun r5 σ6 => ?_)
    refine sw_goto (pc := 26) 30 C dX9_which_26 (by decide) ?_
    exact sw_reti (pc := 30) C M dX9_which_30
set_option maxRecDepth 100000 in
set_option maxHeartbeats 4000000 in
theorem mX9_offByLean   (a0 : Int32) : sw_Ki yX9_offByLean cX9_offByLean 2 (some .int) 4 (fun ad => [.ref (ad 0), .int a0]) (fX9_offByLean a0) := by
  refine sw_enteri (by decide) (fun ad => Nat.le_of_ble_eq_true rfl) (fun X ad t σ C hn M => ?_)
  change sw_J X ad t 0 [(0, .ref (ad 0)), (1, .int a0)] [] σ _
  replace C : sw_C X ad cX9_offByLean RX9 4 := C
  unfold fX9_offByLean
  refine sw_aloadn (pc := 0) 0 0 C dX9_offByLean_0 rfl ?_
  refine sw_getR (pc := 1) C kfX9_45 sh0 ff9_6 dX9_offByLean_1 ?_
  refine sw_aloadn (pc := 4) 0 0 C dX9_offByLean_4 rfl ?_
  refine sw_getR (pc := 5) C kfX9_41 sh0 ff9_5 dX9_offByLean_5 ?_
  refine sw_callVv (pc := 8) C (mX3_become sh22 sh21) sgX3_become mlX9_336 dX9_offByLean_8 (by decide) [.ref (ad 21)] [] sh22 rfl rfl rfl rfl (Nat.le_of_ble_eq_true rfl) (fun r1 σ2 => ?_)
  refine sw_aloadn (pc := 11) 0 0 C dX9_offByLean_11 rfl ?_
  refine sw_getR (pc := 12) C kfX9_45 sh0 ff9_6 dX9_offByLean_12 ?_
  refine sw_iloadn (pc := 15) 1 1 C dX9_offByLean_15 rfl ?_
  refine sw_putL (pc := 16) C kpX9_166 sh22 rfl dX9_offByLean_16 (fun σ3 => ?_)
  refine sw_aloadn (pc := 19) 0 0 C dX9_offByLean_19 rfl ?_
  refine sw_getR (pc := 20) C kfX9_51 sh0 ff9_7 dX9_offByLean_20 ?_
  refine sw_aloadn (pc := 23) 0 0 C dX9_offByLean_23 rfl ?_
  refine sw_getR (pc := 24) C kfX9_21 sh0 ff9_1 dX9_offByLean_24 ?_
  refine sw_aloadn (pc := 27) 0 0 C dX9_offByLean_27 rfl ?_
  refine sw_getR (pc := 28) C kfX9_34 sh0 ff9_4 dX9_offByLean_28 ?_
  refine sw_aloadn (pc := 31) 0 0 C dX9_offByLean_31 rfl ?_
  refine sw_getR (pc := 32) C kfX9_45 sh0 ff9_6 dX9_offByLean_32 ?_
  refine sw_callVv (pc := 35) C (mX1_go saw5 sh22) sgX1_go mlX9_329 dX9_offByLean_35 (by decide) [.ref (ad 5), .ref (ad 17), .ref (ad 22)] [] sh23 rfl rfl rfl rfl (Nat.le_of_ble_eq_true rfl) (fun r4 σ5 => ?_)
  refine sw_aloadn (pc := 38) 0 0 C dX9_offByLean_38 rfl ?_
  refine sw_getR (pc := 39) C kfX9_51 sh0 ff9_7 dX9_offByLean_39 ?_
  refine sw_getI (pc := 42) C kfX9_196 sh23 rfl dX9_offByLean_42 ?_
  exact sw_reti (pc := 45) C M dX9_offByLean_45
set_option maxRecDepth 100000 in
set_option maxHeartbeats 4000000 in
theorem jX9_straightestLean_B49 {X : sw_X} {ad : Nat → Nat} {t : Int32 × sw_St} (C : sw_C X ad cX9_straightestLean RX9 5) (hn : sw_nL X = 6) (M : sw_Mi X ad (some .int) t)   {K10 : Int32 → Int32 → Int32 → sw_St → Option (Int32 × sw_St)} (hK10 : ∀ (z1 : Int32) (z2 : Int32) (z3 : Int32) (τ : sw_St), sw_J X ad t 10 [(0, .ref (ad 0)), (1, .int z1), (2, .int z2), (3, .int z3)] [] τ (K10 z1 z2 z3 τ)) {K19 : Int32 → Int32 → Int32 → Int32 → sw_St → Option (Int32 × sw_St)} (hK19 : ∀ (z1 : Int32) (z2 : Int32) (z3 : Int32) (z4 : Int32) (τ : sw_St), sw_J X ad t 19 [(0, .ref (ad 0)), (1, .int z1), (2, .int z2), (3, .int z3), (4, .int z4)] [] τ (K19 z1 z2 z3 z4 τ)) (v1 : Int32) (v2 : Int32) (v3 : Int32) (v4 : Int32) (σ : sw_St) : sw_J X ad t 49 [(0, .ref (ad 0)), (1, .int v1), (2, .int v2), (3, .int v3), (4, .int v4)] [] σ (fX9_straightestLean_B49 K10 K19 v1 v2 v3 v4 σ) := by
  unfold fX9_straightestLean_B49
  refine sw_iinc (pc := 49) (v4 + 2) 4 [(4, .int (v4 + 2)), (0, .ref (ad 0)), (1, .int v1), (2, .int v2), (3, .int v3)] C dX9_straightestLean_49 (by rw [hn]; decide) rfl rfl rfl ?_
  refine sw_goto (pc := 52) 19 C dX9_straightestLean_52 (by decide) ?_
  refine sw_lpick (pc := 19) (L' := [(0, .ref (ad 0)), (1, .int v1), (2, .int v2), (3, .int v3), (4, .int (v4 + 2))]) [1, 2, 3, 4, 0] rfl ?_
  exact hK19 _ _ _ _ _
set_option maxRecDepth 100000 in
set_option maxHeartbeats 4000000 in
theorem jX9_straightestLean_L19 {X : sw_X} {ad : Nat → Nat} {t : Int32 × sw_St} (C : sw_C X ad cX9_straightestLean RX9 5) (hn : sw_nL X = 6) (M : sw_Mi X ad (some .int) t)   {K10 : Int32 → Int32 → Int32 → sw_St → Option (Int32 × sw_St)} (hK10 : ∀ (z1 : Int32) (z2 : Int32) (z3 : Int32) (τ : sw_St), sw_J X ad t 10 [(0, .ref (ad 0)), (1, .int z1), (2, .int z2), (3, .int z3)] [] τ (K10 z1 z2 z3 τ)) : ∀ (n : Nat) (v1 : Int32) (v2 : Int32) (v3 : Int32) (v4 : Int32) (σ : sw_St), sw_J X ad t 19 [(0, .ref (ad 0)), (1, .int v1), (2, .int v2), (3, .int v3), (4, .int v4)] [] σ (fX9_straightestLean_L19 K10 n v1 v2 v3 v4 σ) := by
  intro n
  induction n with
  | zero => exact fun _ _ _ _ _ => sw_none
  | succ n ih =>
    intro v1 v2 v3 v4 σ
    unfold fX9_straightestLean_L19
    refine sw_iload (pc := 19) 4 C dX9_straightestLean_19 rfl ?_
    refine sw_iconst (pc := 21) (v := 1) C dX9_straightestLean_21 (by decide) ?_
    refine sw_icmp_gt (pc := 22) 55 C dX9_straightestLean_22 (by decide) ?_ ?_
    · refine sw_iinc (pc := 55) (v3 + 1) 3 [(3, .int (v3 + 1)), (0, .ref (ad 0)), (1, .int v1), (2, .int v2), (4, .int v4)] C dX9_straightestLean_55 (by rw [hn]; decide) rfl rfl rfl ?_
      refine sw_goto (pc := 58) 10 C dX9_straightestLean_58 (by decide) ?_
      refine sw_lpick (pc := 10) (L' := [(0, .ref (ad 0)), (1, .int v1), (2, .int v2), (3, .int (v3 + 1))]) [1, 2, 3, 0] rfl ?_
      exact hK10 _ _ _ _
    · refine sw_aloadn (pc := 25) 0 0 C dX9_straightestLean_25 rfl ?_
      refine sw_iload (pc := 26) 4 C dX9_straightestLean_26 rfl ?_
      refine sw_iloadn (pc := 28) 3 3 C dX9_straightestLean_28 rfl ?_
      refine sw_imul (pc := 29) C dX9_straightestLean_29 ?_
      refine sw_callVi (pc := 30) C (mX9_offByLean (v4 * v3)) sgX9_offByLean mlX9_214 dX9_straightestLean_30 (by decide) [.int (v4 * v3)] [] sh0 rfl rfl rfl rfl (Nat.le_of_ble_eq_true rfl) (fun r3 σ4 => ?_)
      refine sw_istore (pc := 33) [(5, .int r3), (0, .ref (ad 0)), (1, .int v1), (2, .int v2), (3, .int v3), (4, .int v4)] C dX9_straightestLean_33 (by rw [hn]; decide) rfl ?_
      refine sw_iload (pc := 35) 0 C dX9_straightestLean_35 rfl ?_
      refine sw_iloadn (pc := 37) 2 3 C dX9_straightestLean_37 rfl ?_
      refine sw_icmp_ge (pc := 38) 49 C dX9_straightestLean_38 (by decide) ?_ ?_
      · refine sw_lpick (pc := 49) (L' := [(0, .ref (ad 0)), (1, .int v1), (2, .int v2), (3, .int v3), (4, .int v4)]) [1, 2, 3, 4, 5] rfl ?_
        exact jX9_straightestLean_B49 C hn M hK10 ih _ _ _ _ _
      · refine sw_iload (pc := 41) 0 C dX9_straightestLean_41 rfl ?_
        refine sw_istoren (pc := 43) 2 [(2, .int r3), (5, .int r3), (0, .ref (ad 0)), (1, .int v1), (3, .int v3), (4, .int v4)] C dX9_straightestLean_43 (by rw [hn]; decide) rfl ?_
        refine sw_iload (pc := 44) 5 C dX9_straightestLean_44 rfl ?_
        refine sw_iloadn (pc := 46) 3 4 C dX9_straightestLean_46 rfl ?_
        refine sw_imul (pc := 47) C dX9_straightestLean_47 ?_
        refine sw_leti (fun x5 => ?_)
        refine sw_istoren (pc := 48) 1 [(1, .int x5), (2, .int r3), (5, .int r3), (0, .ref (ad 0)), (3, .int v3), (4, .int v4)] C dX9_straightestLean_48 (by rw [hn]; decide) rfl ?_
        refine sw_lpick (pc := 49) (L' := [(0, .ref (ad 0)), (1, .int x5), (2, .int r3), (3, .int v3), (4, .int v4)]) [3, 0, 1, 4, 5] rfl ?_
        exact jX9_straightestLean_B49 C hn M hK10 ih _ _ _ _ _
set_option maxRecDepth 100000 in
set_option maxHeartbeats 4000000 in
theorem jX9_straightestLean_L10 {X : sw_X} {ad : Nat → Nat} {t : Int32 × sw_St} (C : sw_C X ad cX9_straightestLean RX9 5) (hn : sw_nL X = 6) (M : sw_Mi X ad (some .int) t)   : ∀ (n : Nat) (v1 : Int32) (v2 : Int32) (v3 : Int32) (σ : sw_St), sw_J X ad t 10 [(0, .ref (ad 0)), (1, .int v1), (2, .int v2), (3, .int v3)] [] σ (fX9_straightestLean_L10  n v1 v2 v3 σ) := by
  intro n
  induction n with
  | zero => exact fun _ _ _ _ => sw_none
  | succ n ih =>
    intro v1 v2 v3 σ
    unfold fX9_straightestLean_L10
    refine sw_iloadn (pc := 10) 3 3 C dX9_straightestLean_10 rfl ?_
    refine sw_bipush (pc := 11) (v := 9) C dX9_straightestLean_11 (by decide) ?_
    refine sw_icmp_gt (pc := 13) 61 C dX9_straightestLean_13 (by decide) ?_ ?_
    · refine sw_iloadn (pc := 61) 1 1 C dX9_straightestLean_61 rfl ?_
      exact sw_reti (pc := 62) C M dX9_straightestLean_62
    · refine sw_iconst (pc := 16) (v := (-1)) C dX9_straightestLean_16 (by decide) ?_
      refine sw_istore (pc := 17) [(4, .int (-1)), (0, .ref (ad 0)), (1, .int v1), (2, .int v2), (3, .int v3)] C dX9_straightestLean_17 (by rw [hn]; decide) rfl ?_
      refine sw_lpick (pc := 19) (L' := [(0, .ref (ad 0)), (1, .int v1), (2, .int v2), (3, .int v3), (4, .int (-1))]) [1, 2, 3, 4, 0] rfl ?_
      exact jX9_straightestLean_L19 C hn M ih _ _ _ _ _ _
set_option maxRecDepth 100000 in
set_option maxHeartbeats 4000000 in
theorem mX9_straightestLean    : sw_Ki yX9_straightestLean cX9_straightestLean 6 (some .int) 5 (fun ad => [.ref (ad 0)]) fX9_straightestLean := by
  refine sw_enteri (by decide) (fun ad => Nat.le_of_ble_eq_true rfl) (fun X ad t σ C hn M => ?_)
  change sw_J X ad t 0 [(0, .ref (ad 0))] [] σ _
  replace C : sw_C X ad cX9_straightestLean RX9 5 := C
  unfold fX9_straightestLean
  refine sw_iconst (pc := 0) (v := 0) C dX9_straightestLean_0 (by decide) ?_
  refine sw_istoren (pc := 1) 1 [(1, .int 0), (0, .ref (ad 0))] C dX9_straightestLean_1 (by rw [hn]; decide) rfl ?_
  refine sw_aloadn (pc := 2) 0 1 C dX9_straightestLean_2 rfl ?_
  refine sw_iconst (pc := 3) (v := 0) C dX9_straightestLean_3 (by decide) ?_
  refine sw_callVi (pc := 4) C (mX9_offByLean 0) sgX9_offByLean mlX9_214 dX9_straightestLean_4 (by decide) [.int 0] [] sh0 rfl rfl rfl rfl (Nat.le_of_ble_eq_true rfl) (fun r1 σ2 => ?_)
  refine sw_istoren (pc := 7) 2 [(2, .int r1), (1, .int 0), (0, .ref (ad 0))] C dX9_straightestLean_7 (by rw [hn]; decide) rfl ?_
  refine sw_iconst (pc := 8) (v := 1) C dX9_straightestLean_8 (by decide) ?_
  refine sw_istoren (pc := 9) 3 [(3, .int 1), (2, .int r1), (1, .int 0), (0, .ref (ad 0))] C dX9_straightestLean_9 (by rw [hn]; decide) rfl ?_
  refine sw_lpick (pc := 10) (L' := [(0, .ref (ad 0)), (1, .int 0), (2, .int r1), (3, .int 1)]) [3, 2, 1, 0] rfl ?_
  exact jX9_straightestLean_L10 C hn M  _ _ _ _ _
set_option maxRecDepth 100000 in
set_option maxHeartbeats 4000000 in
theorem mX9_offBySteers   (a0 : Int32) : sw_Ki yX9_offBySteers cX9_offBySteers 2 (some .int) 4 (fun ad => [.ref (ad 0), .int a0]) (fX9_offBySteers a0) := by
  refine sw_enteri (by decide) (fun ad => Nat.le_of_ble_eq_true rfl) (fun X ad t σ C hn M => ?_)
  change sw_J X ad t 0 [(0, .ref (ad 0)), (1, .int a0)] [] σ _
  replace C : sw_C X ad cX9_offBySteers RX9 4 := C
  unfold fX9_offBySteers
  refine sw_aloadn (pc := 0) 0 0 C dX9_offBySteers_0 rfl ?_
  refine sw_getR (pc := 1) C kfX9_45 sh0 ff9_6 dX9_offBySteers_1 ?_
  refine sw_aloadn (pc := 4) 0 0 C dX9_offBySteers_4 rfl ?_
  refine sw_getR (pc := 5) C kfX9_41 sh0 ff9_5 dX9_offBySteers_5 ?_
  refine sw_callVv (pc := 8) C (mX3_become sh22 sh21) sgX3_become mlX9_336 dX9_offBySteers_8 (by decide) [.ref (ad 21)] [] sh22 rfl rfl rfl rfl (Nat.le_of_ble_eq_true rfl) (fun r1 σ2 => ?_)
  refine sw_aloadn (pc := 11) 0 0 C dX9_offBySteers_11 rfl ?_
  refine sw_getR (pc := 12) C kfX9_45 sh0 ff9_6 dX9_offBySteers_12 ?_
  refine sw_iloadn (pc := 15) 1 1 C dX9_offBySteers_15 rfl ?_
  refine sw_putL (pc := 16) C kpX9_169 sh22 rfl dX9_offBySteers_16 (fun σ3 => ?_)
  refine sw_aloadn (pc := 19) 0 0 C dX9_offBySteers_19 rfl ?_
  refine sw_getR (pc := 20) C kfX9_51 sh0 ff9_7 dX9_offBySteers_20 ?_
  refine sw_aloadn (pc := 23) 0 0 C dX9_offBySteers_23 rfl ?_
  refine sw_getR (pc := 24) C kfX9_21 sh0 ff9_1 dX9_offBySteers_24 ?_
  refine sw_aloadn (pc := 27) 0 0 C dX9_offBySteers_27 rfl ?_
  refine sw_getR (pc := 28) C kfX9_34 sh0 ff9_4 dX9_offBySteers_28 ?_
  refine sw_aloadn (pc := 31) 0 0 C dX9_offBySteers_31 rfl ?_
  refine sw_getR (pc := 32) C kfX9_45 sh0 ff9_6 dX9_offBySteers_32 ?_
  refine sw_callVv (pc := 35) C (mX1_go saw5 sh22) sgX1_go mlX9_329 dX9_offBySteers_35 (by decide) [.ref (ad 5), .ref (ad 17), .ref (ad 22)] [] sh23 rfl rfl rfl rfl (Nat.le_of_ble_eq_true rfl) (fun r4 σ5 => ?_)
  refine sw_aloadn (pc := 38) 0 0 C dX9_offBySteers_38 rfl ?_
  refine sw_getR (pc := 39) C kfX9_51 sh0 ff9_7 dX9_offBySteers_39 ?_
  refine sw_getI (pc := 42) C kfX9_196 sh23 rfl dX9_offBySteers_42 ?_
  exact sw_reti (pc := 45) C M dX9_offBySteers_45
set_option maxRecDepth 100000 in
set_option maxHeartbeats 4000000 in
theorem jX9_straightestSteers_B34 {X : sw_X} {ad : Nat → Nat} {t : Int32 × sw_St} (C : sw_C X ad cX9_straightestSteers RX9 5) (hn : sw_nL X = 5) (M : sw_Mi X ad (some .int) t)   {K10 : Int32 → Int32 → Int32 → sw_St → Option (Int32 × sw_St)} (hK10 : ∀ (z1 : Int32) (z2 : Int32) (z3 : Int32) (τ : sw_St), sw_J X ad t 10 [(0, .ref (ad 0)), (1, .int z1), (2, .int z2), (3, .int z3)] [] τ (K10 z1 z2 z3 τ)) (v1 : Int32) (v2 : Int32) (v3 : Int32) (σ : sw_St) : sw_J X ad t 34 [(0, .ref (ad 0)), (1, .int v1), (2, .int v2), (3, .int v3)] [] σ (fX9_straightestSteers_B34 K10 v1 v2 v3 σ) := by
  unfold fX9_straightestSteers_B34
  refine sw_iinc (pc := 34) (v3 + 1) 3 [(3, .int (v3 + 1)), (0, .ref (ad 0)), (1, .int v1), (2, .int v2)] C dX9_straightestSteers_34 (by rw [hn]; decide) rfl rfl rfl ?_
  refine sw_goto (pc := 37) 10 C dX9_straightestSteers_37 (by decide) ?_
  refine sw_lpick (pc := 10) (L' := [(0, .ref (ad 0)), (1, .int v1), (2, .int v2), (3, .int (v3 + 1))]) [1, 2, 3, 0] rfl ?_
  exact hK10 _ _ _ _
set_option maxRecDepth 100000 in
set_option maxHeartbeats 4000000 in
theorem jX9_straightestSteers_L10 {X : sw_X} {ad : Nat → Nat} {t : Int32 × sw_St} (C : sw_C X ad cX9_straightestSteers RX9 5) (hn : sw_nL X = 5) (M : sw_Mi X ad (some .int) t)   : ∀ (n : Nat) (v1 : Int32) (v2 : Int32) (v3 : Int32) (σ : sw_St), sw_J X ad t 10 [(0, .ref (ad 0)), (1, .int v1), (2, .int v2), (3, .int v3)] [] σ (fX9_straightestSteers_L10  n v1 v2 v3 σ) := by
  intro n
  induction n with
  | zero => exact fun _ _ _ _ => sw_none
  | succ n ih =>
    intro v1 v2 v3 σ
    unfold fX9_straightestSteers_L10
    refine sw_iloadn (pc := 10) 3 3 C dX9_straightestSteers_10 rfl ?_
    refine sw_bipush (pc := 11) (v := 9) C dX9_straightestSteers_11 (by decide) ?_
    refine sw_icmp_gt (pc := 13) 40 C dX9_straightestSteers_13 (by decide) ?_ ?_
    · refine sw_iloadn (pc := 40) 1 1 C dX9_straightestSteers_40 rfl ?_
      exact sw_reti (pc := 41) C M dX9_straightestSteers_41
    · refine sw_aloadn (pc := 16) 0 0 C dX9_straightestSteers_16 rfl ?_
      refine sw_iloadn (pc := 17) 3 3 C dX9_straightestSteers_17 rfl ?_
      refine sw_callVi (pc := 18) C (mX9_offBySteers v3) sgX9_offBySteers mlX9_217 dX9_straightestSteers_18 (by decide) [.int v3] [] sh0 rfl rfl rfl rfl (Nat.le_of_ble_eq_true rfl) (fun r3 σ4 => ?_)
      refine sw_istore (pc := 21) [(4, .int r3), (0, .ref (ad 0)), (1, .int v1), (2, .int v2), (3, .int v3)] C dX9_straightestSteers_21 (by rw [hn]; decide) rfl ?_
      refine sw_iload (pc := 23) 0 C dX9_straightestSteers_23 rfl ?_
      refine sw_iloadn (pc := 25) 2 3 C dX9_straightestSteers_25 rfl ?_
      refine sw_icmp_ge (pc := 26) 34 C dX9_straightestSteers_26 (by decide) ?_ ?_
      · refine sw_lpick (pc := 34) (L' := [(0, .ref (ad 0)), (1, .int v1), (2, .int v2), (3, .int v3)]) [1, 2, 3, 4] rfl ?_
        exact jX9_straightestSteers_B34 C hn M ih _ _ _ _
      · refine sw_iload (pc := 29) 0 C dX9_straightestSteers_29 rfl ?_
        refine sw_istoren (pc := 31) 2 [(2, .int r3), (4, .int r3), (0, .ref (ad 0)), (1, .int v1), (3, .int v3)] C dX9_straightestSteers_31 (by rw [hn]; decide) rfl ?_
        refine sw_iloadn (pc := 32) 3 4 C dX9_straightestSteers_32 rfl ?_
        refine sw_istoren (pc := 33) 1 [(1, .int v3), (2, .int r3), (4, .int r3), (0, .ref (ad 0)), (3, .int v3)] C dX9_straightestSteers_33 (by rw [hn]; decide) rfl ?_
        refine sw_lpick (pc := 34) (L' := [(0, .ref (ad 0)), (1, .int v3), (2, .int r3), (3, .int v3)]) [3, 0, 1, 4] rfl ?_
        exact jX9_straightestSteers_B34 C hn M ih _ _ _ _
set_option maxRecDepth 100000 in
set_option maxHeartbeats 4000000 in
theorem mX9_straightestSteers    : sw_Ki yX9_straightestSteers cX9_straightestSteers 5 (some .int) 5 (fun ad => [.ref (ad 0)]) fX9_straightestSteers := by
  refine sw_enteri (by decide) (fun ad => Nat.le_of_ble_eq_true rfl) (fun X ad t σ C hn M => ?_)
  change sw_J X ad t 0 [(0, .ref (ad 0))] [] σ _
  replace C : sw_C X ad cX9_straightestSteers RX9 5 := C
  unfold fX9_straightestSteers
  refine sw_iconst (pc := 0) (v := 0) C dX9_straightestSteers_0 (by decide) ?_
  refine sw_istoren (pc := 1) 1 [(1, .int 0), (0, .ref (ad 0))] C dX9_straightestSteers_1 (by rw [hn]; decide) rfl ?_
  refine sw_aloadn (pc := 2) 0 1 C dX9_straightestSteers_2 rfl ?_
  refine sw_iconst (pc := 3) (v := 0) C dX9_straightestSteers_3 (by decide) ?_
  refine sw_callVi (pc := 4) C (mX9_offBySteers 0) sgX9_offBySteers mlX9_217 dX9_straightestSteers_4 (by decide) [.int 0] [] sh0 rfl rfl rfl rfl (Nat.le_of_ble_eq_true rfl) (fun r1 σ2 => ?_)
  refine sw_istoren (pc := 7) 2 [(2, .int r1), (1, .int 0), (0, .ref (ad 0))] C dX9_straightestSteers_7 (by rw [hn]; decide) rfl ?_
  refine sw_iconst (pc := 8) (v := 1) C dX9_straightestSteers_8 (by decide) ?_
  refine sw_istoren (pc := 9) 3 [(3, .int 1), (2, .int r1), (1, .int 0), (0, .ref (ad 0))] C dX9_straightestSteers_9 (by rw [hn]; decide) rfl ?_
  refine sw_lpick (pc := 10) (L' := [(0, .ref (ad 0)), (1, .int 0), (2, .int r1), (3, .int 1)]) [3, 2, 1, 0] rfl ?_
  exact jX9_straightestSteers_L10 C hn M  _ _ _ _ _
set_option maxRecDepth 100000 in
set_option maxHeartbeats 4000000 in
theorem mX9_straightest   (a0 : Int32) : sw_Ki yX9_straightest cX9_straightest 2 (some .int) 6 (fun ad => [.ref (ad 0), .int a0]) (fX9_straightest a0) := by
  refine sw_enteri (by decide) (fun ad => Nat.le_of_ble_eq_true rfl) (fun X ad t σ C hn M => ?_)
  change sw_J X ad t 0 [(0, .ref (ad 0)), (1, .int a0)] [] σ _
  replace C : sw_C X ad cX9_straightest RX9 6 := C
  unfold fX9_straightest
  refine sw_iloadn (pc := 0) 1 1 C dX9_straightest_0 rfl ?_
  refine sw_iconst (pc := 1) (v := 0) C dX9_straightest_1 (by decide) ?_
  refine sw_iconst (pc := 2) (v := 3) C dX9_straightest_2 (by decide) ?_
  refine sw_callSi (pc := 3) C (mX9_isWithin a0 0 3) sgX9_isWithin mlX9_131 dX9_straightest_3 (by decide) [.int a0, .int 0, .int 3] [] rfl rfl rfl (Nat.le_of_ble_eq_true rfl) (fun r1 σ2 => ?_)
  refine sw_if_ne (pc := 6) 12 C dX9_straightest_6 (by decide) ?_ ?_
  · refine sw_aloadn (pc := 12) 0 0 C dX9_straightest_12 rfl ?_
    refine sw_callVi (pc := 13) C mX9_lacksSawOrBoard sgX9_lacksSawOrBoard mlX9_189 dX9_straightest_13 (by decide) [] [] sh0 rfl rfl rfl rfl (Nat.le_of_ble_eq_true rfl) (fun r3 σ4 => ?_)
    refine sw_if_eq (pc := 16) 22 C dX9_straightest_16 (by decide) ?_ ?_
    · refine sw_iloadn (pc := 22) 1 1 C dX9_straightest_22 rfl ?_
      refine sw_ite (fun h5 => ?_) (fun h5 => ?_)
      · refine sw_tabIn (pc := 23) (off := 25) 48 C dX9_straightest_23 (by rw [h5]; decide) (by rw [h5]; decide) (by rw [h5]; rfl) (by decide) ?_
        refine sw_aloadn (pc := 48) 0 0 C dX9_straightest_48 rfl ?_
        refine sw_callVi (pc := 49) C mX9_straightestLean sgX9_straightestLean mlX9_208 dX9_straightest_49 (by decide) [] [] sh0 rfl rfl rfl rfl (Nat.le_of_ble_eq_true rfl) (fun r6 σ7 => ?_)
        exact sw_reti (pc := 52) C M dX9_straightest_52
      · skip
        refine sw_ite (fun h8 => ?_) (fun h8 => ?_)
        · refine sw_tabIn (pc := 23) (off := 30) 53 C dX9_straightest_23 (by rw [h8]; decide) (by rw [h8]; decide) (by rw [h8]; rfl) (by decide) ?_
          refine sw_aloadn (pc := 53) 0 0 C dX9_straightest_53 rfl ?_
          refine sw_callVi (pc := 54) C mX9_straightestSteers sgX9_straightestSteers mlX9_211 dX9_straightest_54 (by decide) [] [] sh0 rfl rfl rfl rfl (Nat.le_of_ble_eq_true rfl) (fun r9 σ10 => ?_)
          exact sw_reti (pc := 57) C M dX9_straightest_57
        · skip
          refine sw_ite (fun h11 => ?_) (fun h11 => ?_)
          · refine sw_tabIn (pc := 23) (off := 35) 58 C dX9_straightest_23 (by rw [h11]; decide) (by rw [h11]; decide) (by rw [h11]; rfl) (by decide) ?_
            refine sw_aloadn (pc := 58) 0 0 C dX9_straightest_58 rfl ?_
            refine sw_aloadn (pc := 59) 0 0 C dX9_straightest_59 rfl ?_
            refine sw_callVi (pc := 60) C mX9_straightestLean sgX9_straightestLean mlX9_208 dX9_straightest_60 (by decide) [] [.ref (ad 0)] sh0 rfl rfl rfl rfl (Nat.le_of_ble_eq_true rfl) (fun r12 σ13 => ?_)
            refine sw_callVi (pc := 63) C (mX9_offByLean r12) sgX9_offByLean mlX9_214 dX9_straightest_63 (by decide) [.int r12] [] sh0 rfl rfl rfl rfl (Nat.le_of_ble_eq_true rfl) (fun r14 σ15 => ?_)
            exact sw_reti (pc := 66) C M dX9_straightest_66
          · skip
            refine sw_tabOut (pc := 23) 67 C dX9_straightest_23 (by have qh5 := lv_neT (a := 0) h5 (by decide); have qh8 := lv_neT (a := 1) h8 (by decide); have qh11 := lv_neT (a := 2) h11 (by decide); omega) (by decide) ?_
            refine sw_aloadn (pc := 67) 0 0 C dX9_straightest_67 rfl ?_
            refine sw_aloadn (pc := 68) 0 0 C dX9_straightest_68 rfl ?_
            refine sw_callVi (pc := 69) C mX9_straightestSteers sgX9_straightestSteers mlX9_211 dX9_straightest_69 (by decide) [] [.ref (ad 0)] sh0 rfl rfl rfl rfl (Nat.le_of_ble_eq_true rfl) (fun r16 σ17 => ?_)
            refine sw_callVi (pc := 72) C (mX9_offBySteers r16) sgX9_offBySteers mlX9_217 dX9_straightest_72 (by decide) [.int r16] [] sh0 rfl rfl rfl rfl (Nat.le_of_ble_eq_true rfl) (fun r18 σ19 => ?_)
            exact sw_reti (pc := 75) C M dX9_straightest_75
    · refine sw_bipush (pc := 19) (v := (-3)) C dX9_straightest_19 (by decide) ?_
      exact sw_reti (pc := 21) C M dX9_straightest_21
  · refine sw_bipush (pc := 9) (v := (-2)) C dX9_straightest_9 (by decide) ?_
    exact sw_reti (pc := 11) C M dX9_straightest_11
set_option maxRecDepth 100000 in
set_option maxHeartbeats 4000000 in
theorem mX9_flaw   (a0 : Int32) (a1 : Int32) (a2 : Int32) : sw_Ki yX9_flaw cX9_flaw 4 (some .int) 2 (fun ad => [.ref (ad 0), .int a0, .int a1, .int a2]) (fX9_flaw a0 a1 a2) := by
  refine sw_enteri (by decide) (fun ad => Nat.le_of_ble_eq_true rfl) (fun X ad t σ C hn M => ?_)
  change sw_J X ad t 0 [(0, .ref (ad 0)), (1, .int a0), (2, .int a1), (3, .int a2)] [] σ _
  replace C : sw_C X ad cX9_flaw RX9 2 := C
  unfold fX9_flaw
  refine sw_aloadn (pc := 0) 0 0 C dX9_flaw_0 rfl ?_
  refine sw_getR (pc := 1) C kfX9_21 sh0 ff9_1 dX9_flaw_1 ?_
  refine sw_iloadn (pc := 4) 1 1 C dX9_flaw_4 rfl ?_
  refine sw_callVi (pc := 5) C (mX6_has saw5 a0) sgX6_has mlX9_107 dX9_flaw_5 (by decide) [.int a0] [] saw5.1 rfl rfl rfl rfl (Nat.le_of_ble_eq_true rfl) (fun r1 σ2 => ?_)
  refine sw_if_ne (pc := 8) 13 C dX9_flaw_8 (by decide) ?_ ?_
  · refine sw_iloadn (pc := 13) 2 2 C dX9_flaw_13 rfl ?_
    refine sw_callSi (pc := 14) C (mX6_isSize a1) sgX6_isSize mlX9_128 dX9_flaw_14 (by decide) [.int a1] [] rfl rfl rfl (Nat.le_of_ble_eq_true rfl) (fun r3 σ4 => ?_)
    refine sw_if_eq (pc := 17) 30 C dX9_flaw_17 (by decide) ?_ ?_
    · refine sw_bipush (pc := 30) (v := (-2)) C dX9_flaw_30 (by decide) ?_
      exact sw_reti (pc := 32) C M dX9_flaw_32
    · refine sw_iloadn (pc := 20) 3 3 C dX9_flaw_20 rfl ?_
      refine sw_iconst (pc := 21) (v := 0) C dX9_flaw_21 (by decide) ?_
      refine sw_bipush (pc := 22) (v := 9) C dX9_flaw_22 (by decide) ?_
      refine sw_callSi (pc := 24) C (mX9_isWithin a2 0 9) sgX9_isWithin mlX9_131 dX9_flaw_24 (by decide) [.int a2, .int 0, .int 9] [] rfl rfl rfl (Nat.le_of_ble_eq_true rfl) (fun r5 σ6 => ?_)
      refine sw_if_ne (pc := 27) 33 C dX9_flaw_27 (by decide) ?_ ?_
      · refine sw_aloadn (pc := 33) 0 0 C dX9_flaw_33 rfl ?_
        refine sw_getR (pc := 34) C kfX9_58 sh0 ff9_8 dX9_flaw_34 ?_
        refine sw_iloadn (pc := 37) 1 1 C dX9_flaw_37 rfl ?_
        refine sw_iloadn (pc := 38) 2 2 C dX9_flaw_38 rfl ?_
        refine sw_iloadn (pc := 39) 3 3 C dX9_flaw_39 rfl ?_
        refine sw_callVi (pc := 40) C (mX2_add a0 a1 a2) sgX2_add mlX9_220 dX9_flaw_40 (by decide) [.int a0, .int a1, .int a2] [] sh26 rfl rfl rfl rfl (Nat.le_of_ble_eq_true rfl) (fun r7 σ8 => ?_)
        exact sw_reti (pc := 43) C M dX9_flaw_43
      · refine sw_bipush (pc := 30) (v := (-2)) C dX9_flaw_30 (by decide) ?_
        exact sw_reti (pc := 32) C M dX9_flaw_32
  · refine sw_iconst (pc := 11) (v := (-1)) C dX9_flaw_11 (by decide) ?_
    exact sw_reti (pc := 12) C M dX9_flaw_12
set_option maxRecDepth 100000 in
set_option maxHeartbeats 4000000 in
theorem mX9_ofFlaw   (a0 : Int32) (a1 : Int32) : sw_Ki yX9_ofFlaw cX9_ofFlaw 3 (some .int) 3 (fun ad => [.ref (ad 0), .int a0, .int a1]) (fX9_ofFlaw a0 a1) := by
  refine sw_enteri (by decide) (fun ad => Nat.le_of_ble_eq_true rfl) (fun X ad t σ C hn M => ?_)
  change sw_J X ad t 0 [(0, .ref (ad 0)), (1, .int a0), (2, .int a1)] [] σ _
  replace C : sw_C X ad cX9_ofFlaw RX9 3 := C
  unfold fX9_ofFlaw
  refine sw_aloadn (pc := 0) 0 0 C dX9_ofFlaw_0 rfl ?_
  refine sw_getR (pc := 1) C kfX9_58 sh0 ff9_8 dX9_ofFlaw_1 ?_
  refine sw_iloadn (pc := 4) 1 1 C dX9_ofFlaw_4 rfl ?_
  refine sw_callVi (pc := 5) C (mX2_has a0) sgX2_has mlX9_224 dX9_ofFlaw_5 (by decide) [.int a0] [] sh26 rfl rfl rfl rfl (Nat.le_of_ble_eq_true rfl) (fun r1 σ2 => ?_)
  refine sw_if_ne (pc := 8) 13 C dX9_ofFlaw_8 (by decide) ?_ ?_
  · refine sw_iloadn (pc := 13) 2 2 C dX9_ofFlaw_13 rfl ?_
    refine sw_ite (fun h3 => ?_) (fun h3 => ?_)
    · refine sw_tabIn (pc := 14) (off := 26) 40 C dX9_ofFlaw_14 (by rw [h3]; decide) (by rw [h3]; decide) (by rw [h3]; rfl) (by decide) ?_
      refine sw_aloadn (pc := 40) 0 0 C dX9_ofFlaw_40 rfl ?_
      refine sw_getR (pc := 41) C kfX9_58 sh0 ff9_8 dX9_ofFlaw_41 ?_
      refine sw_iloadn (pc := 44) 1 1 C dX9_ofFlaw_44 rfl ?_
      refine sw_callVi (pc := 45) C (mX2_toothOf a0) sgX2_toothOf mlX9_225 dX9_ofFlaw_45 (by decide) [.int a0] [] sh26 rfl rfl rfl rfl (Nat.le_of_ble_eq_true rfl) (fun r4 σ5 => ?_)
      exact sw_reti (pc := 48) C M dX9_ofFlaw_48
    · skip
      refine sw_ite (fun h6 => ?_) (fun h6 => ?_)
      · refine sw_tabIn (pc := 14) (off := 35) 49 C dX9_ofFlaw_14 (by rw [h6]; decide) (by rw [h6]; decide) (by rw [h6]; rfl) (by decide) ?_
        refine sw_aloadn (pc := 49) 0 0 C dX9_ofFlaw_49 rfl ?_
        refine sw_getR (pc := 50) C kfX9_58 sh0 ff9_8 dX9_ofFlaw_50 ?_
        refine sw_iloadn (pc := 53) 1 1 C dX9_ofFlaw_53 rfl ?_
        refine sw_callVi (pc := 54) C (mX2_whatOf a0) sgX2_whatOf mlX9_228 dX9_ofFlaw_54 (by decide) [.int a0] [] sh26 rfl rfl rfl rfl (Nat.le_of_ble_eq_true rfl) (fun r7 σ8 => ?_)
        exact sw_reti (pc := 57) C M dX9_ofFlaw_57
      · skip
        refine sw_ite (fun h9 => ?_) (fun h9 => ?_)
        · refine sw_tabIn (pc := 14) (off := 44) 58 C dX9_ofFlaw_14 (by rw [h9]; decide) (by rw [h9]; decide) (by rw [h9]; rfl) (by decide) ?_
          refine sw_aloadn (pc := 58) 0 0 C dX9_ofFlaw_58 rfl ?_
          refine sw_getR (pc := 59) C kfX9_58 sh0 ff9_8 dX9_ofFlaw_59 ?_
          refine sw_iloadn (pc := 62) 1 1 C dX9_ofFlaw_62 rfl ?_
          refine sw_callVi (pc := 63) C (mX2_valueOf a0) sgX2_valueOf mlX9_231 dX9_ofFlaw_63 (by decide) [.int a0] [] sh26 rfl rfl rfl rfl (Nat.le_of_ble_eq_true rfl) (fun r10 σ11 => ?_)
          exact sw_reti (pc := 66) C M dX9_ofFlaw_66
        · skip
          refine sw_tabOut (pc := 14) 67 C dX9_ofFlaw_14 (by have qh3 := lv_neT (a := 0) h3 (by decide); have qh6 := lv_neT (a := 1) h6 (by decide); have qh9 := lv_neT (a := 2) h9 (by decide); omega) (by decide) ?_
          refine sw_bipush (pc := 67) (v := (-2)) C dX9_ofFlaw_67 (by decide) ?_
          exact sw_reti (pc := 69) C M dX9_ofFlaw_69
  · refine sw_iconst (pc := 11) (v := (-1)) C dX9_ofFlaw_11 (by decide) ?_
    exact sw_reti (pc := 12) C M dX9_ofFlaw_12
set_option maxRecDepth 100000 in
set_option maxHeartbeats 4000000 in
theorem mX9_reading   (a0 : Int32) (a1 : Int32) : sw_Ki yX9_reading cX9_reading 3 (some .int) 2 (fun ad => [.ref (ad 0), .int a0, .int a1]) (fX9_reading a0 a1) := by
  refine sw_enteri (by decide) (fun ad => Nat.le_of_ble_eq_true rfl) (fun X ad t σ C hn M => ?_)
  change sw_J X ad t 0 [(0, .ref (ad 0)), (1, .int a0), (2, .int a1)] [] σ _
  replace C : sw_C X ad cX9_reading RX9 2 := C
  unfold fX9_reading
  refine sw_aloadn (pc := 0) 0 0 C dX9_reading_0 rfl ?_
  refine sw_getR (pc := 1) C kfX9_34 sh0 ff9_4 dX9_reading_1 ?_
  refine sw_iloadn (pc := 4) 1 1 C dX9_reading_4 rfl ?_
  refine sw_callVi (pc := 5) C (mX0_has a0) sgX0_has mlX9_156 dX9_reading_5 (by decide) [.int a0] [] sh17 rfl rfl rfl rfl (Nat.le_of_ble_eq_true rfl) (fun r1 σ2 => ?_)
  refine sw_if_ne (pc := 8) 13 C dX9_reading_8 (by decide) ?_ ?_
  · refine sw_aloadn (pc := 13) 0 0 C dX9_reading_13 rfl ?_
    refine sw_getR (pc := 14) C kfX9_65 sh0 ff9_9 dX9_reading_14 ?_
    refine sw_iloadn (pc := 17) 1 1 C dX9_reading_17 rfl ?_
    refine sw_iloadn (pc := 18) 2 2 C dX9_reading_18 rfl ?_
    refine sw_callVi (pc := 19) C (mX5_add a0 a1) sgX5_add mlX9_234 dX9_reading_19 (by decide) [.int a0, .int a1] [] sh30 rfl rfl rfl rfl (Nat.le_of_ble_eq_true rfl) (fun r3 σ4 => ?_)
    exact sw_reti (pc := 22) C M dX9_reading_22
  · refine sw_iconst (pc := 11) (v := (-1)) C dX9_reading_11 (by decide) ?_
    exact sw_reti (pc := 12) C M dX9_reading_12
set_option maxRecDepth 100000 in
set_option maxHeartbeats 4000000 in
theorem mX9_back   (a0 : Int32) : sw_Ki yX9_back cX9_back 2 (some .int) 2 (fun ad => [.ref (ad 0), .int a0]) (fX9_back a0) := by
  refine sw_enteri (by decide) (fun ad => Nat.le_of_ble_eq_true rfl) (fun X ad t σ C hn M => ?_)
  change sw_J X ad t 0 [(0, .ref (ad 0)), (1, .int a0)] [] σ _
  replace C : sw_C X ad cX9_back RX9 2 := C
  unfold fX9_back
  refine sw_iloadn (pc := 0) 1 1 C dX9_back_0 rfl ?_
  refine sw_iconst (pc := 1) (v := 0) C dX9_back_1 (by decide) ?_
  refine sw_aloadn (pc := 2) 0 0 C dX9_back_2 rfl ?_
  refine sw_getR (pc := 3) C kfX9_65 sh0 ff9_9 dX9_back_3 ?_
  refine sw_getI (pc := 6) C kfX9_105 sh30 rfl dX9_back_6 ?_
  refine sw_callSi (pc := 9) C (mX9_isWithin a0 0 (σ 30 0)) sgX9_isWithin mlX9_131 dX9_back_9 (by decide) [.int a0, .int 0, .int (σ 30 0)] [] rfl rfl rfl (Nat.le_of_ble_eq_true rfl) (fun r1 σ2 => ?_)
  refine sw_if_ne (pc := 12) 18 C dX9_back_12 (by decide) ?_ ?_
  · refine sw_aloadn (pc := 18) 0 0 C dX9_back_18 rfl ?_
    refine sw_getR (pc := 19) C kfX9_65 sh0 ff9_9 dX9_back_19 ?_
    refine sw_dup (pc := 22) C dX9_back_22 rfl ?_
    refine sw_getI (pc := 23) C kfX9_105 sh30 rfl dX9_back_23 ?_
    refine sw_iloadn (pc := 26) 1 1 C dX9_back_26 rfl ?_
    refine sw_isub (pc := 27) C dX9_back_27 ?_
    refine sw_putL (pc := 28) C kpX9_105 sh30 rfl dX9_back_28 (fun σ3 => ?_)
    refine sw_aloadn (pc := 31) 0 0 C dX9_back_31 rfl ?_
    refine sw_getR (pc := 32) C kfX9_65 sh0 ff9_9 dX9_back_32 ?_
    refine sw_getI (pc := 35) C kfX9_105 sh30 rfl dX9_back_35 ?_
    exact sw_reti (pc := 38) C M dX9_back_38
  · refine sw_bipush (pc := 15) (v := (-2)) C dX9_back_15 (by decide) ?_
    exact sw_reti (pc := 17) C M dX9_back_17
set_option maxRecDepth 100000 in
set_option maxHeartbeats 4000000 in
theorem mJ6_bitCount_0f7a4   (a0 : Int32) : sw_Ki yJ6_bitCount_0f7a4 cJ6_bitCount_0f7a4 1 (some .int) 1 (fun ad => [.int a0]) (fJ6_bitCount_0f7a4 a0) := by
  refine sw_enteri (by decide) (fun ad => Nat.le_of_ble_eq_true rfl) (fun X ad t σ C hn M => ?_)
  change sw_J X ad t 0 [(0, .int a0)] [] σ _
  replace C : sw_C X ad cJ6_bitCount_0f7a4 RJ6 1 := C
  unfold fJ6_bitCount_0f7a4
  refine sw_iloadn (pc := 0) 0 0 C dJ6_bitCount_0f7a4_0 rfl ?_
  refine sw_iloadn (pc := 1) 0 0 C dJ6_bitCount_0f7a4_1 rfl ?_
  refine sw_iconst (pc := 2) (v := 1) C dJ6_bitCount_0f7a4_2 (by decide) ?_
  refine sw_iushr (pc := 3) C dJ6_bitCount_0f7a4_3 ?_
  refine sw_ldcw (pc := 4) C dJ6_bitCount_0f7a4_4 kcJ6_265 ?_
  refine sw_iand (pc := 7) C dJ6_bitCount_0f7a4_7 ?_
  refine sw_isub (pc := 8) C dJ6_bitCount_0f7a4_8 ?_
  refine sw_leti (fun x1 => ?_)
  refine sw_istoren (pc := 9) 0 [(0, .int x1)] C dJ6_bitCount_0f7a4_9 (by rw [hn]; decide) rfl ?_
  refine sw_iloadn (pc := 10) 0 0 C dJ6_bitCount_0f7a4_10 rfl ?_
  refine sw_ldcw (pc := 11) C dJ6_bitCount_0f7a4_11 kcJ6_266 ?_
  refine sw_iand (pc := 14) C dJ6_bitCount_0f7a4_14 ?_
  refine sw_iloadn (pc := 15) 0 0 C dJ6_bitCount_0f7a4_15 rfl ?_
  refine sw_iconst (pc := 16) (v := 2) C dJ6_bitCount_0f7a4_16 (by decide) ?_
  refine sw_iushr (pc := 17) C dJ6_bitCount_0f7a4_17 ?_
  refine sw_ldcw (pc := 18) C dJ6_bitCount_0f7a4_18 kcJ6_266 ?_
  refine sw_iand (pc := 21) C dJ6_bitCount_0f7a4_21 ?_
  refine sw_iadd (pc := 22) C dJ6_bitCount_0f7a4_22 ?_
  refine sw_leti (fun x2 => ?_)
  refine sw_istoren (pc := 23) 0 [(0, .int x2)] C dJ6_bitCount_0f7a4_23 (by rw [hn]; decide) rfl ?_
  refine sw_iloadn (pc := 24) 0 0 C dJ6_bitCount_0f7a4_24 rfl ?_
  refine sw_iloadn (pc := 25) 0 0 C dJ6_bitCount_0f7a4_25 rfl ?_
  refine sw_iconst (pc := 26) (v := 4) C dJ6_bitCount_0f7a4_26 (by decide) ?_
  refine sw_iushr (pc := 27) C dJ6_bitCount_0f7a4_27 ?_
  refine sw_iadd (pc := 28) C dJ6_bitCount_0f7a4_28 ?_
  refine sw_ldcw (pc := 29) C dJ6_bitCount_0f7a4_29 kcJ6_267 ?_
  refine sw_iand (pc := 32) C dJ6_bitCount_0f7a4_32 ?_
  refine sw_leti (fun x3 => ?_)
  refine sw_istoren (pc := 33) 0 [(0, .int x3)] C dJ6_bitCount_0f7a4_33 (by rw [hn]; decide) rfl ?_
  refine sw_iloadn (pc := 34) 0 0 C dJ6_bitCount_0f7a4_34 rfl ?_
  refine sw_iloadn (pc := 35) 0 0 C dJ6_bitCount_0f7a4_35 rfl ?_
  refine sw_bipush (pc := 36) (v := 8) C dJ6_bitCount_0f7a4_36 (by decide) ?_
  refine sw_iushr (pc := 38) C dJ6_bitCount_0f7a4_38 ?_
  refine sw_iadd (pc := 39) C dJ6_bitCount_0f7a4_39 ?_
  refine sw_leti (fun x4 => ?_)
  refine sw_istoren (pc := 40) 0 [(0, .int x4)] C dJ6_bitCount_0f7a4_40 (by rw [hn]; decide) rfl ?_
  refine sw_iloadn (pc := 41) 0 0 C dJ6_bitCount_0f7a4_41 rfl ?_
  refine sw_iloadn (pc := 42) 0 0 C dJ6_bitCount_0f7a4_42 rfl ?_
  refine sw_bipush (pc := 43) (v := 16) C dJ6_bitCount_0f7a4_43 (by decide) ?_
  refine sw_iushr (pc := 45) C dJ6_bitCount_0f7a4_45 ?_
  refine sw_iadd (pc := 46) C dJ6_bitCount_0f7a4_46 ?_
  refine sw_leti (fun x5 => ?_)
  refine sw_istoren (pc := 47) 0 [(0, .int x5)] C dJ6_bitCount_0f7a4_47 (by rw [hn]; decide) rfl ?_
  refine sw_iloadn (pc := 48) 0 0 C dJ6_bitCount_0f7a4_48 rfl ?_
  refine sw_bipush (pc := 49) (v := 63) C dJ6_bitCount_0f7a4_49 (by decide) ?_
  refine sw_iand (pc := 51) C dJ6_bitCount_0f7a4_51 ?_
  exact sw_reti (pc := 52) C M dJ6_bitCount_0f7a4_52
set_option maxRecDepth 100000 in
set_option maxHeartbeats 4000000 in
theorem mX9_fits   (a0 : Int32) : sw_Ki yX9_fits cX9_fits 2 (some .boolean) 4 (fun ad => [.ref (ad 0), .int a0]) (fX9_fits a0) := by
  refine sw_enteri (by decide) (fun ad => Nat.le_of_ble_eq_true rfl) (fun X ad t σ C hn M => ?_)
  change sw_J X ad t 0 [(0, .ref (ad 0)), (1, .int a0)] [] σ _
  replace C : sw_C X ad cX9_fits RX9 4 := C
  unfold fX9_fits
  refine sw_aloadn (pc := 0) 0 0 C dX9_fits_0 rfl ?_
  refine sw_getR (pc := 1) C kfX9_25 sh0 ff9_2 dX9_fits_1 ?_
  refine sw_aloadn (pc := 4) 0 0 C dX9_fits_4 rfl ?_
  refine sw_getR (pc := 5) C kfX9_21 sh0 ff9_1 dX9_fits_5 ?_
  refine sw_callVv (pc := 8) C (mX6_become saw9 saw5) sgX6_become mlX9_98 dX9_fits_8 (by decide) [.ref (ad 5)] [] saw9.1 rfl rfl rfl rfl (Nat.le_of_ble_eq_true rfl) (fun r1 σ2 => ?_)
  refine sw_aloadn (pc := 11) 0 0 C dX9_fits_11 rfl ?_
  refine sw_getR (pc := 12) C kfX9_58 sh0 ff9_8 dX9_fits_12 ?_
  refine sw_aloadn (pc := 15) 0 0 C dX9_fits_15 rfl ?_
  refine sw_getR (pc := 16) C kfX9_25 sh0 ff9_2 dX9_fits_16 ?_
  refine sw_iloadn (pc := 19) 1 1 C dX9_fits_19 rfl ?_
  refine sw_callVv (pc := 20) C (mX2_applyTo saw9 a0) sgX2_applyTo mlX9_339 dX9_fits_20 (by decide) [.ref (ad 9), .int a0] [] sh26 rfl rfl rfl rfl (Nat.le_of_ble_eq_true rfl) (fun r3 σ4 => ?_)
  refine sw_aloadn (pc := 23) 0 0 C dX9_fits_23 rfl ?_
  refine sw_getR (pc := 24) C kfX9_51 sh0 ff9_7 dX9_fits_24 ?_
  refine sw_aloadn (pc := 27) 0 0 C dX9_fits_27 rfl ?_
  refine sw_getR (pc := 28) C kfX9_25 sh0 ff9_2 dX9_fits_28 ?_
  refine sw_aloadn (pc := 31) 0 0 C dX9_fits_31 rfl ?_
  refine sw_getR (pc := 32) C kfX9_34 sh0 ff9_4 dX9_fits_32 ?_
  refine sw_aloadn (pc := 35) 0 0 C dX9_fits_35 rfl ?_
  refine sw_getR (pc := 36) C kfX9_41 sh0 ff9_5 dX9_fits_36 ?_
  refine sw_callVv (pc := 39) C (mX1_go saw9 sh21) sgX1_go mlX9_329 dX9_fits_39 (by decide) [.ref (ad 9), .ref (ad 17), .ref (ad 21)] [] sh23 rfl rfl rfl rfl (Nat.le_of_ble_eq_true rfl) (fun r5 σ6 => ?_)
  refine sw_aloadn (pc := 42) 0 0 C dX9_fits_42 rfl ?_
  refine sw_getR (pc := 43) C kfX9_65 sh0 ff9_9 dX9_fits_43 ?_
  refine sw_aloadn (pc := 46) 0 0 C dX9_fits_46 rfl ?_
  refine sw_getR (pc := 47) C kfX9_51 sh0 ff9_7 dX9_fits_47 ?_
  refine sw_callVi (pc := 50) C mX5_areSo sgX5_areSo mlX9_343 dX9_fits_50 (by decide) [.ref (ad 23)] [] sh30 rfl rfl rfl rfl (Nat.le_of_ble_eq_true rfl) (fun r7 σ8 => ?_)
  exact sw_retizg (pc := 53) C M dX9_fits_53
set_option maxRecDepth 100000 in
set_option maxHeartbeats 4000000 in
theorem jX9_countFitting_B62 {X : sw_X} {ad : Nat → Nat} {t : Int32 × sw_St} (C : sw_C X ad cX9_countFitting RX9 5) (hn : sw_nL X = 6) (M : sw_Mi X ad (some .int) t)   {K15 : Int32 → Int32 → Int32 → Int32 → sw_St → Option (Int32 × sw_St)} (hK15 : ∀ (z1 : Int32) (z2 : Int32) (z3 : Int32) (z4 : Int32) (τ : sw_St), sw_J X ad t 15 [(0, .ref (ad 0)), (1, .int z1), (2, .int z2), (3, .int z3), (4, .int z4)] [] τ (K15 z1 z2 z3 z4 τ)) (v1 : Int32) (v2 : Int32) (v3 : Int32) (v4 : Int32) (σ : sw_St) : sw_J X ad t 62 [(0, .ref (ad 0)), (1, .int v1), (2, .int v2), (3, .int v3), (4, .int v4)] [] σ (fX9_countFitting_B62 K15 v1 v2 v3 v4 σ) := by
  unfold fX9_countFitting_B62
  refine sw_iinc (pc := 62) (v4 + 1) 4 [(4, .int (v4 + 1)), (0, .ref (ad 0)), (1, .int v1), (2, .int v2), (3, .int v3)] C dX9_countFitting_62 (by rw [hn]; decide) rfl rfl rfl ?_
  refine sw_goto (pc := 65) 15 C dX9_countFitting_65 (by decide) ?_
  refine sw_lpick (pc := 15) (L' := [(0, .ref (ad 0)), (1, .int v1), (2, .int v2), (3, .int v3), (4, .int (v4 + 1))]) [1, 2, 3, 4, 0] rfl ?_
  exact hK15 _ _ _ _ _
set_option maxRecDepth 100000 in
set_option maxHeartbeats 4000000 in
theorem jX9_countFitting_B43 {X : sw_X} {ad : Nat → Nat} {t : Int32 × sw_St} (C : sw_C X ad cX9_countFitting RX9 5) (hn : sw_nL X = 6) (M : sw_Mi X ad (some .int) t)   {K15 : Int32 → Int32 → Int32 → Int32 → sw_St → Option (Int32 × sw_St)} (hK15 : ∀ (z1 : Int32) (z2 : Int32) (z3 : Int32) (z4 : Int32) (τ : sw_St), sw_J X ad t 15 [(0, .ref (ad 0)), (1, .int z1), (2, .int z2), (3, .int z3), (4, .int z4)] [] τ (K15 z1 z2 z3 z4 τ)) (v1 : Int32) (v2 : Int32) (v3 : Int32) (v4 : Int32) (s0 : Int32) (σ : sw_St) : sw_J X ad t 43 [(0, .ref (ad 0)), (1, .int v1), (2, .int v2), (3, .int v3), (4, .int v4)] [.int s0] σ (fX9_countFitting_B43 K15 v1 v2 v3 v4 s0 σ) := by
  unfold fX9_countFitting_B43
  refine sw_istore (pc := 43) [(5, .int s0), (0, .ref (ad 0)), (1, .int v1), (2, .int v2), (3, .int v3), (4, .int v4)] C dX9_countFitting_43 (by rw [hn]; decide) rfl ?_
  refine sw_iload (pc := 45) 0 C dX9_countFitting_45 rfl ?_
  refine sw_if_eq (pc := 47) 62 C dX9_countFitting_47 (by decide) ?_ ?_
  · refine sw_lpick (pc := 62) (L' := [(0, .ref (ad 0)), (1, .int v1), (2, .int v2), (3, .int v3), (4, .int v4)]) [1, 2, 3, 4, 5] rfl ?_
    exact jX9_countFitting_B62 C hn M hK15 _ _ _ _ _
  · refine sw_aloadn (pc := 50) 0 1 C dX9_countFitting_50 rfl ?_
    refine sw_iload (pc := 51) 5 C dX9_countFitting_51 rfl ?_
    refine sw_callVi (pc := 53) C (mX9_fits v4) sgX9_fits mlX9_352 dX9_countFitting_53 (by decide) [.int v4] [] sh0 rfl rfl rfl rfl (Nat.le_of_ble_eq_true rfl) (fun r4 σ5 => ?_)
    refine sw_if_eq (pc := 56) 62 C dX9_countFitting_56 (by decide) ?_ ?_
    · refine sw_lpick (pc := 62) (L' := [(0, .ref (ad 0)), (1, .int v1), (2, .int v2), (3, .int v3), (4, .int v4)]) [1, 2, 3, 4, 5] rfl ?_
      exact jX9_countFitting_B62 C hn M hK15 _ _ _ _ _
    · refine sw_iinc (pc := 59) (v3 + 1) 4 [(3, .int (v3 + 1)), (5, .int s0), (0, .ref (ad 0)), (1, .int v1), (2, .int v2), (4, .int v4)] C dX9_countFitting_59 (by rw [hn]; decide) rfl rfl rfl ?_
      refine sw_lpick (pc := 62) (L' := [(0, .ref (ad 0)), (1, .int v1), (2, .int v2), (3, .int (v3 + 1)), (4, .int v4)]) [2, 3, 4, 0, 5] rfl ?_
      exact jX9_countFitting_B62 C hn M hK15 _ _ _ _ _
set_option maxRecDepth 100000 in
set_option maxHeartbeats 4000000 in
theorem jX9_countFitting_B42 {X : sw_X} {ad : Nat → Nat} {t : Int32 × sw_St} (C : sw_C X ad cX9_countFitting RX9 5) (hn : sw_nL X = 6) (M : sw_Mi X ad (some .int) t)   {K15 : Int32 → Int32 → Int32 → Int32 → sw_St → Option (Int32 × sw_St)} (hK15 : ∀ (z1 : Int32) (z2 : Int32) (z3 : Int32) (z4 : Int32) (τ : sw_St), sw_J X ad t 15 [(0, .ref (ad 0)), (1, .int z1), (2, .int z2), (3, .int z3), (4, .int z4)] [] τ (K15 z1 z2 z3 z4 τ)) (v1 : Int32) (v2 : Int32) (v3 : Int32) (v4 : Int32) (σ : sw_St) : sw_J X ad t 42 [(0, .ref (ad 0)), (1, .int v1), (2, .int v2), (3, .int v3), (4, .int v4)] [] σ (fX9_countFitting_B42 K15 v1 v2 v3 v4 σ) := by
  unfold fX9_countFitting_B42
  refine sw_iconst (pc := 42) (v := 0) C dX9_countFitting_42 (by decide) ?_
  exact jX9_countFitting_B43 C hn M hK15 _ _ _ _ _ _
set_option maxRecDepth 100000 in
set_option maxHeartbeats 4000000 in
theorem jX9_countFitting_L15 {X : sw_X} {ad : Nat → Nat} {t : Int32 × sw_St} (C : sw_C X ad cX9_countFitting RX9 5) (hn : sw_nL X = 6) (M : sw_Mi X ad (some .int) t)   : ∀ (n : Nat) (v1 : Int32) (v2 : Int32) (v3 : Int32) (v4 : Int32) (σ : sw_St), sw_J X ad t 15 [(0, .ref (ad 0)), (1, .int v1), (2, .int v2), (3, .int v3), (4, .int v4)] [] σ (fX9_countFitting_L15  n v1 v2 v3 v4 σ) := by
  intro n
  induction n with
  | zero => exact fun _ _ _ _ _ => sw_none
  | succ n ih =>
    intro v1 v2 v3 v4 σ
    unfold fX9_countFitting_L15
    refine sw_iload (pc := 15) 4 C dX9_countFitting_15 rfl ?_
    refine sw_iloadn (pc := 17) 2 2 C dX9_countFitting_17 rfl ?_
    refine sw_icmp_ge (pc := 18) 68 C dX9_countFitting_18 (by decide) ?_ ?_
    · refine sw_iloadn (pc := 68) 3 3 C dX9_countFitting_68 rfl ?_
      exact sw_reti (pc := 69) C M dX9_countFitting_69
    · refine sw_iload (pc := 21) 4 C dX9_countFitting_21 rfl ?_
      refine sw_callSi (pc := 23) C (mJ6_bitCount_0f7a4 v4) sgJ6_bitCount_0f7a4 mlX9_347 dX9_countFitting_23 (by decide) [.int v4] [] rfl rfl rfl (Nat.le_of_ble_eq_true rfl) (fun r2 σ3 => ?_)
      refine sw_iconst (pc := 26) (v := 2) C dX9_countFitting_26 (by decide) ?_
      refine sw_icmp_gt (pc := 27) 42 C dX9_countFitting_27 (by decide) ?_ ?_
      · exact jX9_countFitting_B42 C hn M ih _ _ _ _ _
      · refine sw_iload (pc := 30) 4 C dX9_countFitting_30 rfl ?_
        refine sw_iloadn (pc := 32) 1 1 C dX9_countFitting_32 rfl ?_
        refine sw_iand (pc := 33) C dX9_countFitting_33 ?_
        refine sw_iloadn (pc := 34) 1 1 C dX9_countFitting_34 rfl ?_
        refine sw_icmp_ne (pc := 35) 42 C dX9_countFitting_35 (by decide) ?_ ?_
        · exact jX9_countFitting_B42 C hn M ih _ _ _ _ _
        · refine sw_iconst (pc := 38) (v := 1) C dX9_countFitting_38 (by decide) ?_
          refine sw_goto (pc := 39) 43 C dX9_countFitting_39 (by decide) ?_
          exact jX9_countFitting_B43 C hn M ih _ _ _ _ _ _
set_option maxRecDepth 100000 in
set_option maxHeartbeats 4000000 in
theorem mX9_countFitting   (a0 : Int32) : sw_Ki yX9_countFitting cX9_countFitting 6 (some .int) 5 (fun ad => [.ref (ad 0), .int a0]) (fX9_countFitting a0) := by
  refine sw_enteri (by decide) (fun ad => Nat.le_of_ble_eq_true rfl) (fun X ad t σ C hn M => ?_)
  change sw_J X ad t 0 [(0, .ref (ad 0)), (1, .int a0)] [] σ _
  replace C : sw_C X ad cX9_countFitting RX9 5 := C
  unfold fX9_countFitting
  refine sw_iconst (pc := 0) (v := 1) C dX9_countFitting_0 (by decide) ?_
  refine sw_aloadn (pc := 1) 0 0 C dX9_countFitting_1 rfl ?_
  refine sw_getR (pc := 2) C kfX9_58 sh0 ff9_8 dX9_countFitting_2 ?_
  refine sw_getI (pc := 5) C kfX9_102 sh26 rfl dX9_countFitting_5 ?_
  refine sw_ishl (pc := 8) C dX9_countFitting_8 ?_
  refine sw_leti (fun x1 => ?_)
  refine sw_istoren (pc := 9) 2 [(2, .int x1), (0, .ref (ad 0)), (1, .int a0)] C dX9_countFitting_9 (by rw [hn]; decide) rfl ?_
  refine sw_iconst (pc := 10) (v := 0) C dX9_countFitting_10 (by decide) ?_
  refine sw_istoren (pc := 11) 3 [(3, .int 0), (2, .int x1), (0, .ref (ad 0)), (1, .int a0)] C dX9_countFitting_11 (by rw [hn]; decide) rfl ?_
  refine sw_iconst (pc := 12) (v := 0) C dX9_countFitting_12 (by decide) ?_
  refine sw_istore (pc := 13) [(4, .int 0), (3, .int 0), (2, .int x1), (0, .ref (ad 0)), (1, .int a0)] C dX9_countFitting_13 (by rw [hn]; decide) rfl ?_
  refine sw_lpick (pc := 15) (L' := [(0, .ref (ad 0)), (1, .int a0), (2, .int x1), (3, .int 0), (4, .int 0)]) [3, 4, 2, 1, 0] rfl ?_
  exact jX9_countFitting_L15 C hn M  _ _ _ _ _ _
set_option maxRecDepth 100000 in
set_option maxHeartbeats 4000000 in
theorem jX9_firstOfFewest_B42 {X : sw_X} {ad : Nat → Nat} {t : Int32 × sw_St} (C : sw_C X ad cX9_firstOfFewest RX9 5) (hn : sw_nL X = 4) (M : sw_Mi X ad (some .int) t)   {K12 : Int32 → Int32 → sw_St → Option (Int32 × sw_St)} (hK12 : ∀ (z1 : Int32) (z2 : Int32) (τ : sw_St), sw_J X ad t 12 [(0, .ref (ad 0)), (1, .int z1), (2, .int z2)] [] τ (K12 z1 z2 τ)) {K19 : Int32 → Int32 → Int32 → sw_St → Option (Int32 × sw_St)} (hK19 : ∀ (z1 : Int32) (z2 : Int32) (z3 : Int32) (τ : sw_St), sw_J X ad t 19 [(0, .ref (ad 0)), (1, .int z1), (2, .int z2), (3, .int z3)] [] τ (K19 z1 z2 z3 τ)) (v1 : Int32) (v2 : Int32) (v3 : Int32) (σ : sw_St) : sw_J X ad t 42 [(0, .ref (ad 0)), (1, .int v1), (2, .int v2), (3, .int v3)] [] σ (fX9_firstOfFewest_B42 K12 K19 v1 v2 v3 σ) := by
  unfold fX9_firstOfFewest_B42
  refine sw_iinc (pc := 42) (v3 + 1) 3 [(3, .int (v3 + 1)), (0, .ref (ad 0)), (1, .int v1), (2, .int v2)] C dX9_firstOfFewest_42 (by rw [hn]; decide) rfl rfl rfl ?_
  refine sw_goto (pc := 45) 19 C dX9_firstOfFewest_45 (by decide) ?_
  refine sw_lpick (pc := 19) (L' := [(0, .ref (ad 0)), (1, .int v1), (2, .int v2), (3, .int (v3 + 1))]) [1, 2, 3, 0] rfl ?_
  exact hK19 _ _ _ _
set_option maxRecDepth 100000 in
set_option maxHeartbeats 4000000 in
theorem jX9_firstOfFewest_L19 {X : sw_X} {ad : Nat → Nat} {t : Int32 × sw_St} (C : sw_C X ad cX9_firstOfFewest RX9 5) (hn : sw_nL X = 4) (M : sw_Mi X ad (some .int) t)   {K12 : Int32 → Int32 → sw_St → Option (Int32 × sw_St)} (hK12 : ∀ (z1 : Int32) (z2 : Int32) (τ : sw_St), sw_J X ad t 12 [(0, .ref (ad 0)), (1, .int z1), (2, .int z2)] [] τ (K12 z1 z2 τ)) : ∀ (n : Nat) (v1 : Int32) (v2 : Int32) (v3 : Int32) (σ : sw_St), sw_J X ad t 19 [(0, .ref (ad 0)), (1, .int v1), (2, .int v2), (3, .int v3)] [] σ (fX9_firstOfFewest_L19 K12 n v1 v2 v3 σ) := by
  intro n
  induction n with
  | zero => exact fun _ _ _ _ => sw_none
  | succ n ih =>
    intro v1 v2 v3 σ
    unfold fX9_firstOfFewest_L19
    refine sw_iloadn (pc := 19) 3 3 C dX9_firstOfFewest_19 rfl ?_
    refine sw_iloadn (pc := 20) 1 1 C dX9_firstOfFewest_20 rfl ?_
    refine sw_icmp_ge (pc := 21) 48 C dX9_firstOfFewest_21 (by decide) ?_ ?_
    · refine sw_iinc (pc := 48) (v2 + 1) 2 [(2, .int (v2 + 1)), (0, .ref (ad 0)), (1, .int v1), (3, .int v3)] C dX9_firstOfFewest_48 (by rw [hn]; decide) rfl rfl rfl ?_
      refine sw_goto (pc := 51) 12 C dX9_firstOfFewest_51 (by decide) ?_
      refine sw_lpick (pc := 12) (L' := [(0, .ref (ad 0)), (1, .int v1), (2, .int (v2 + 1))]) [1, 2, 0] rfl ?_
      exact hK12 _ _ _
    · refine sw_iloadn (pc := 24) 3 3 C dX9_firstOfFewest_24 rfl ?_
      refine sw_callSi (pc := 25) C (mJ6_bitCount_0f7a4 v3) sgJ6_bitCount_0f7a4 mlX9_347 dX9_firstOfFewest_25 (by decide) [.int v3] [] rfl rfl rfl (Nat.le_of_ble_eq_true rfl) (fun r2 σ3 => ?_)
      refine sw_iloadn (pc := 28) 2 2 C dX9_firstOfFewest_28 rfl ?_
      refine sw_icmp_ne (pc := 29) 42 C dX9_firstOfFewest_29 (by decide) ?_ ?_
      · exact jX9_firstOfFewest_B42 C hn M hK12 ih _ _ _ _
      · refine sw_aloadn (pc := 32) 0 0 C dX9_firstOfFewest_32 rfl ?_
        refine sw_iloadn (pc := 33) 3 3 C dX9_firstOfFewest_33 rfl ?_
        refine sw_callVi (pc := 34) C (mX9_fits v3) sgX9_fits mlX9_352 dX9_firstOfFewest_34 (by decide) [.int v3] [] sh0 rfl rfl rfl rfl (Nat.le_of_ble_eq_true rfl) (fun r4 σ5 => ?_)
        refine sw_if_eq (pc := 37) 42 C dX9_firstOfFewest_37 (by decide) ?_ ?_
        · exact jX9_firstOfFewest_B42 C hn M hK12 ih _ _ _ _
        · refine sw_iloadn (pc := 40) 3 3 C dX9_firstOfFewest_40 rfl ?_
          exact sw_reti (pc := 41) C M dX9_firstOfFewest_41
set_option maxRecDepth 100000 in
set_option maxHeartbeats 4000000 in
theorem jX9_firstOfFewest_L12 {X : sw_X} {ad : Nat → Nat} {t : Int32 × sw_St} (C : sw_C X ad cX9_firstOfFewest RX9 5) (hn : sw_nL X = 4) (M : sw_Mi X ad (some .int) t)   : ∀ (n : Nat) (v1 : Int32) (v2 : Int32) (σ : sw_St), sw_J X ad t 12 [(0, .ref (ad 0)), (1, .int v1), (2, .int v2)] [] σ (fX9_firstOfFewest_L12  n v1 v2 σ) := by
  intro n
  induction n with
  | zero => exact fun _ _ _ => sw_none
  | succ n ih =>
    intro v1 v2 σ
    unfold fX9_firstOfFewest_L12
    refine sw_iloadn (pc := 12) 2 2 C dX9_firstOfFewest_12 rfl ?_
    refine sw_iconst (pc := 13) (v := 2) C dX9_firstOfFewest_13 (by decide) ?_
    refine sw_icmp_gt (pc := 14) 54 C dX9_firstOfFewest_14 (by decide) ?_ ?_
    · refine sw_bipush (pc := 54) (v := (-9)) C dX9_firstOfFewest_54 (by decide) ?_
      exact sw_reti (pc := 56) C M dX9_firstOfFewest_56
    · refine sw_iconst (pc := 17) (v := 0) C dX9_firstOfFewest_17 (by decide) ?_
      refine sw_istoren (pc := 18) 3 [(3, .int 0), (0, .ref (ad 0)), (1, .int v1), (2, .int v2)] C dX9_firstOfFewest_18 (by rw [hn]; decide) rfl ?_
      refine sw_lpick (pc := 19) (L' := [(0, .ref (ad 0)), (1, .int v1), (2, .int v2), (3, .int 0)]) [1, 2, 3, 0] rfl ?_
      exact jX9_firstOfFewest_L19 C hn M ih _ _ _ _ _
set_option maxRecDepth 100000 in
set_option maxHeartbeats 4000000 in
theorem mX9_firstOfFewest    : sw_Ki yX9_firstOfFewest cX9_firstOfFewest 4 (some .int) 5 (fun ad => [.ref (ad 0)]) fX9_firstOfFewest := by
  refine sw_enteri (by decide) (fun ad => Nat.le_of_ble_eq_true rfl) (fun X ad t σ C hn M => ?_)
  change sw_J X ad t 0 [(0, .ref (ad 0))] [] σ _
  replace C : sw_C X ad cX9_firstOfFewest RX9 5 := C
  unfold fX9_firstOfFewest
  refine sw_iconst (pc := 0) (v := 1) C dX9_firstOfFewest_0 (by decide) ?_
  refine sw_aloadn (pc := 1) 0 0 C dX9_firstOfFewest_1 rfl ?_
  refine sw_getR (pc := 2) C kfX9_58 sh0 ff9_8 dX9_firstOfFewest_2 ?_
  refine sw_getI (pc := 5) C kfX9_102 sh26 rfl dX9_firstOfFewest_5 ?_
  refine sw_ishl (pc := 8) C dX9_firstOfFewest_8 ?_
  refine sw_leti (fun x1 => ?_)
  refine sw_istoren (pc := 9) 1 [(1, .int x1), (0, .ref (ad 0))] C dX9_firstOfFewest_9 (by rw [hn]; decide) rfl ?_
  refine sw_iconst (pc := 10) (v := 0) C dX9_firstOfFewest_10 (by decide) ?_
  refine sw_istoren (pc := 11) 2 [(2, .int 0), (1, .int x1), (0, .ref (ad 0))] C dX9_firstOfFewest_11 (by rw [hn]; decide) rfl ?_
  refine sw_lpick (pc := 12) (L' := [(0, .ref (ad 0)), (1, .int x1), (2, .int 0)]) [2, 1, 0] rfl ?_
  exact jX9_firstOfFewest_L12 C hn M  _ _ _ _
set_option maxRecDepth 100000 in
set_option maxHeartbeats 4000000 in
theorem mX9_likely   (a0 : Int32) : sw_Ki yX9_likely cX9_likely 2 (some .int) 6 (fun ad => [.ref (ad 0), .int a0]) (fX9_likely a0) := by
  refine sw_enteri (by decide) (fun ad => Nat.le_of_ble_eq_true rfl) (fun X ad t σ C hn M => ?_)
  change sw_J X ad t 0 [(0, .ref (ad 0)), (1, .int a0)] [] σ _
  replace C : sw_C X ad cX9_likely RX9 6 := C
  unfold fX9_likely
  refine sw_iloadn (pc := 0) 1 1 C dX9_likely_0 rfl ?_
  refine sw_iconst (pc := 1) (v := 0) C dX9_likely_1 (by decide) ?_
  refine sw_iconst (pc := 2) (v := 1) C dX9_likely_2 (by decide) ?_
  refine sw_callSi (pc := 3) C (mX9_isWithin a0 0 1) sgX9_isWithin mlX9_131 dX9_likely_3 (by decide) [.int a0, .int 0, .int 1] [] rfl rfl rfl (Nat.le_of_ble_eq_true rfl) (fun r1 σ2 => ?_)
  refine sw_if_ne (pc := 6) 12 C dX9_likely_6 (by decide) ?_ ?_
  · refine sw_aloadn (pc := 12) 0 0 C dX9_likely_12 rfl ?_
    refine sw_callVi (pc := 13) C mX9_lacksSawOrBoard sgX9_lacksSawOrBoard mlX9_189 dX9_likely_13 (by decide) [] [] sh0 rfl rfl rfl rfl (Nat.le_of_ble_eq_true rfl) (fun r3 σ4 => ?_)
    refine sw_if_eq (pc := 16) 22 C dX9_likely_16 (by decide) ?_ ?_
    · refine sw_iloadn (pc := 22) 1 1 C dX9_likely_22 rfl ?_
      refine sw_if_ne (pc := 23) 34 C dX9_likely_23 (by decide) ?_ ?_
      · refine sw_aloadn (pc := 34) 0 0 C dX9_likely_34 rfl ?_
        refine sw_callVi (pc := 35) C mX9_firstOfFewest sgX9_firstOfFewest mlX9_239 dX9_likely_35 (by decide) [] [] sh0 rfl rfl rfl rfl (Nat.le_of_ble_eq_true rfl) (fun r5 σ6 => ?_)
        exact sw_reti (pc := 38) C M dX9_likely_38
      · refine sw_aloadn (pc := 26) 0 0 C dX9_likely_26 rfl ?_
        refine sw_iconst (pc := 27) (v := 0) C dX9_likely_27 (by decide) ?_
        refine sw_callVi (pc := 28) C (mX9_countFitting 0) sgX9_countFitting mlX9_236 dX9_likely_28 (by decide) [.int 0] [] sh0 rfl rfl rfl rfl (Nat.le_of_ble_eq_true rfl) (fun r7 σ8 => ?_)
        refine sw_goto (pc := 31) 38 C dX9_likely_31 (by decide) ?_
        exact sw_reti (pc := 38) C M dX9_likely_38
    · refine sw_bipush (pc := 19) (v := (-3)) C dX9_likely_19 (by decide) ?_
      exact sw_reti (pc := 21) C M dX9_likely_21
  · refine sw_bipush (pc := 9) (v := (-2)) C dX9_likely_9 (by decide) ?_
    exact sw_reti (pc := 11) C M dX9_likely_11
set_option maxRecDepth 100000 in
set_option maxHeartbeats 4000000 in
theorem mX9_each   (a0 : Int32) : sw_Ki yX9_each cX9_each 2 (some .int) 6 (fun ad => [.ref (ad 0), .int a0]) (fX9_each a0) := by
  refine sw_enteri (by decide) (fun ad => Nat.le_of_ble_eq_true rfl) (fun X ad t σ C hn M => ?_)
  change sw_J X ad t 0 [(0, .ref (ad 0)), (1, .int a0)] [] σ _
  replace C : sw_C X ad cX9_each RX9 6 := C
  unfold fX9_each
  refine sw_aloadn (pc := 0) 0 0 C dX9_each_0 rfl ?_
  refine sw_getR (pc := 1) C kfX9_58 sh0 ff9_8 dX9_each_1 ?_
  refine sw_iloadn (pc := 4) 1 1 C dX9_each_4 rfl ?_
  refine sw_callVi (pc := 5) C (mX2_has a0) sgX2_has mlX9_224 dX9_each_5 (by decide) [.int a0] [] sh26 rfl rfl rfl rfl (Nat.le_of_ble_eq_true rfl) (fun r1 σ2 => ?_)
  refine sw_if_ne (pc := 8) 13 C dX9_each_8 (by decide) ?_ ?_
  · refine sw_aloadn (pc := 13) 0 0 C dX9_each_13 rfl ?_
    refine sw_callVi (pc := 14) C mX9_lacksSawOrBoard sgX9_lacksSawOrBoard mlX9_189 dX9_each_14 (by decide) [] [] sh0 rfl rfl rfl rfl (Nat.le_of_ble_eq_true rfl) (fun r3 σ4 => ?_)
    refine sw_if_eq (pc := 17) 23 C dX9_each_17 (by decide) ?_ ?_
    · refine sw_aloadn (pc := 23) 0 0 C dX9_each_23 rfl ?_
      refine sw_iconst (pc := 24) (v := 1) C dX9_each_24 (by decide) ?_
      refine sw_iloadn (pc := 25) 1 1 C dX9_each_25 rfl ?_
      refine sw_ishl (pc := 26) C dX9_each_26 ?_
      refine sw_callVi (pc := 27) C (mX9_countFitting (1 <<< (a0 &&& 31))) sgX9_countFitting mlX9_236 dX9_each_27 (by decide) [.int (1 <<< (a0 &&& 31))] [] sh0 rfl rfl rfl rfl (Nat.le_of_ble_eq_true rfl) (fun r5 σ6 => ?_)
      exact sw_reti (pc := 30) C M dX9_each_30
    · refine sw_bipush (pc := 20) (v := (-3)) C dX9_each_20 (by decide) ?_
      exact sw_reti (pc := 22) C M dX9_each_22
  · refine sw_iconst (pc := 11) (v := (-1)) C dX9_each_11 (by decide) ?_
    exact sw_reti (pc := 12) C M dX9_each_12
set_option maxRecDepth 100000 in
set_option maxHeartbeats 4000000 in
theorem mX9_act   (a0 : Int32) (a1 : Int32) : sw_Ki yX9_act cX9_act 3 (some .int) 5 (fun ad => [.ref (ad 0), .int a0, .int a1]) (fX9_act a0 a1) := by
  refine sw_enteri (by decide) (fun ad => Nat.le_of_ble_eq_true rfl) (fun X ad t σ C hn M => ?_)
  change sw_J X ad t 0 [(0, .ref (ad 0)), (1, .int a0), (2, .int a1)] [] σ _
  replace C : sw_C X ad cX9_act RX9 5 := C
  unfold fX9_act
  refine sw_aloadn (pc := 0) 0 0 C dX9_act_0 rfl ?_
  refine sw_getR (pc := 1) C kfX9_21 sh0 ff9_1 dX9_act_1 ?_
  refine sw_iloadn (pc := 4) 1 1 C dX9_act_4 rfl ?_
  refine sw_callVi (pc := 5) C (mX6_has saw5 a0) sgX6_has mlX9_107 dX9_act_5 (by decide) [.int a0] [] saw5.1 rfl rfl rfl rfl (Nat.le_of_ble_eq_true rfl) (fun r1 σ2 => ?_)
  refine sw_if_ne (pc := 8) 13 C dX9_act_8 (by decide) ?_ ?_
  · refine sw_iloadn (pc := 13) 2 2 C dX9_act_13 rfl ?_
    refine sw_iconst (pc := 14) (v := 0) C dX9_act_14 (by decide) ?_
    refine sw_iconst (pc := 15) (v := 3) C dX9_act_15 (by decide) ?_
    refine sw_callSi (pc := 16) C (mX9_isWithin a1 0 3) sgX9_isWithin mlX9_131 dX9_act_16 (by decide) [.int a1, .int 0, .int 3] [] rfl rfl rfl (Nat.le_of_ble_eq_true rfl) (fun r3 σ4 => ?_)
    refine sw_if_ne (pc := 19) 25 C dX9_act_19 (by decide) ?_ ?_
    · refine sw_aloadn (pc := 25) 0 0 C dX9_act_25 rfl ?_
      refine sw_getR (pc := 26) C kfX9_21 sh0 ff9_1 dX9_act_26 ?_
      refine sw_iloadn (pc := 29) 1 1 C dX9_act_29 rfl ?_
      refine sw_iloadn (pc := 30) 2 2 C dX9_act_30 rfl ?_
      refine sw_callVi (pc := 31) C (mX6_mendBy saw5 a0 a1) sgX6_mendBy mlX9_242 dX9_act_31 (by decide) [.int a0, .int a1] [] saw5.1 rfl rfl rfl rfl (Nat.le_of_ble_eq_true rfl) (fun r5 σ6 => ?_)
      refine sw_if_eq (pc := 34) 41 C dX9_act_34 (by decide) ?_ ?_
      · refine sw_iconst (pc := 41) (v := 0) C dX9_act_41 (by decide) ?_
        exact sw_reti (pc := 42) C M dX9_act_42
      · refine sw_iconst (pc := 37) (v := 1) C dX9_act_37 (by decide) ?_
        refine sw_goto (pc := 38) 42 C dX9_act_38 (by decide) ?_
        exact sw_reti (pc := 42) C M dX9_act_42
    · refine sw_bipush (pc := 22) (v := (-2)) C dX9_act_22 (by decide) ?_
      exact sw_reti (pc := 24) C M dX9_act_24
  · refine sw_iconst (pc := 11) (v := (-1)) C dX9_act_11 (by decide) ?_
    exact sw_reti (pc := 12) C M dX9_act_12
set_option maxRecDepth 100000 in
set_option maxHeartbeats 4000000 in
theorem mX9_goesStraightEnough {c : Nat} (hc : sw_saw c) (a1 : Int32) : sw_Ki yX9_goesStraightEnough cX9_goesStraightEnough 3 (some .boolean) 4 (fun ad => [.ref (ad 0), .ref (ad c), .int a1]) (fX9_goesStraightEnough c a1) := by
  refine sw_enteri (by decide) (fun ad => Nat.le_of_ble_eq_true rfl) (fun X ad t σ C hn M => ?_)
  change sw_J X ad t 0 [(0, .ref (ad 0)), (1, .ref (ad c)), (2, .int a1)] [] σ _
  replace C : sw_C X ad cX9_goesStraightEnough RX9 4 := C
  unfold fX9_goesStraightEnough
  refine sw_aloadn (pc := 0) 0 0 C dX9_goesStraightEnough_0 rfl ?_
  refine sw_getR (pc := 1) C kfX9_51 sh0 ff9_7 dX9_goesStraightEnough_1 ?_
  refine sw_aloadn (pc := 4) 1 1 C dX9_goesStraightEnough_4 rfl ?_
  refine sw_aloadn (pc := 5) 0 0 C dX9_goesStraightEnough_5 rfl ?_
  refine sw_getR (pc := 6) C kfX9_34 sh0 ff9_4 dX9_goesStraightEnough_6 ?_
  refine sw_aloadn (pc := 9) 0 0 C dX9_goesStraightEnough_9 rfl ?_
  refine sw_getR (pc := 10) C kfX9_41 sh0 ff9_5 dX9_goesStraightEnough_10 ?_
  refine sw_callVv (pc := 13) C (mX1_go hc sh21) sgX1_go mlX9_329 dX9_goesStraightEnough_13 (by decide) [.ref (ad c), .ref (ad 17), .ref (ad 21)] [] sh23 rfl rfl rfl rfl (Nat.le_of_ble_eq_true rfl) (fun r1 σ2 => ?_)
  refine sw_aloadn (pc := 16) 0 0 C dX9_goesStraightEnough_16 rfl ?_
  refine sw_getR (pc := 17) C kfX9_51 sh0 ff9_7 dX9_goesStraightEnough_17 ?_
  refine sw_getI (pc := 20) C kfX9_199 sh23 rfl dX9_goesStraightEnough_20 ?_
  refine sw_bipush (pc := 23) (v := (-9)) C dX9_goesStraightEnough_23 (by decide) ?_
  refine sw_icmp_ne (pc := 25) 43 C dX9_goesStraightEnough_25 (by decide) ?_ ?_
  · refine sw_iconst (pc := 43) (v := 0) C dX9_goesStraightEnough_43 (by decide) ?_
    exact sw_retiz (pc := 44) rfl C M dX9_goesStraightEnough_44
  · refine sw_aloadn (pc := 28) 0 0 C dX9_goesStraightEnough_28 rfl ?_
    refine sw_getR (pc := 29) C kfX9_51 sh0 ff9_7 dX9_goesStraightEnough_29 ?_
    refine sw_getI (pc := 32) C kfX9_196 sh23 rfl dX9_goesStraightEnough_32 ?_
    refine sw_iloadn (pc := 35) 2 2 C dX9_goesStraightEnough_35 rfl ?_
    refine sw_icmp_gt (pc := 36) 43 C dX9_goesStraightEnough_36 (by decide) ?_ ?_
    · refine sw_iconst (pc := 43) (v := 0) C dX9_goesStraightEnough_43 (by decide) ?_
      exact sw_retiz (pc := 44) rfl C M dX9_goesStraightEnough_44
    · refine sw_iconst (pc := 39) (v := 1) C dX9_goesStraightEnough_39 (by decide) ?_
      refine sw_goto (pc := 40) 44 C dX9_goesStraightEnough_40 (by decide) ?_
      exact sw_retiz (pc := 44) rfl C M dX9_goesStraightEnough_44
set_option maxRecDepth 100000 in
set_option maxHeartbeats 4000000 in
theorem jX9_seekSecondAct_B97 {X : sw_X} {ad : Nat → Nat} {t : Unit × sw_St} (C : sw_C X ad cX9_seekSecondAct RX9 5) (hn : sw_nL X = 5) (M : sw_Mv X ad none t)   {K17 : Int32 → Int32 → Int32 → Int32 → sw_St → Option (Unit × sw_St)} (hK17 : ∀ (z1 : Int32) (z2 : Int32) (z3 : Int32) (z4 : Int32) (τ : sw_St), sw_J X ad t 17 [(0, .ref (ad 0)), (1, .int z1), (2, .int z2), (3, .int z3), (4, .int z4)] [] τ (K17 z1 z2 z3 z4 τ)) (v1 : Int32) (v2 : Int32) (v3 : Int32) (v4 : Int32) (σ : sw_St) : sw_J X ad t 97 [(0, .ref (ad 0)), (1, .int v1), (2, .int v2), (3, .int v3), (4, .int v4)] [] σ (fX9_seekSecondAct_B97 K17 v1 v2 v3 v4 σ) := by
  unfold fX9_seekSecondAct_B97
  refine sw_iinc (pc := 97) (v4 + 1) 4 [(4, .int (v4 + 1)), (0, .ref (ad 0)), (1, .int v1), (2, .int v2), (3, .int v3)] C dX9_seekSecondAct_97 (by rw [hn]; decide) rfl rfl rfl ?_
  refine sw_goto (pc := 100) 17 C dX9_seekSecondAct_100 (by decide) ?_
  refine sw_lpick (pc := 17) (L' := [(0, .ref (ad 0)), (1, .int v1), (2, .int v2), (3, .int v3), (4, .int (v4 + 1))]) [1, 2, 3, 4, 0] rfl ?_
  exact hK17 _ _ _ _ _
set_option maxRecDepth 100000 in
set_option maxHeartbeats 4000000 in
theorem jX9_seekSecondAct_L17 {X : sw_X} {ad : Nat → Nat} {t : Unit × sw_St} (C : sw_C X ad cX9_seekSecondAct RX9 5) (hn : sw_nL X = 5) (M : sw_Mv X ad none t)   : ∀ (n : Nat) (v1 : Int32) (v2 : Int32) (v3 : Int32) (v4 : Int32) (σ : sw_St), sw_J X ad t 17 [(0, .ref (ad 0)), (1, .int v1), (2, .int v2), (3, .int v3), (4, .int v4)] [] σ (fX9_seekSecondAct_L17  n v1 v2 v3 v4 σ) := by
  intro n
  induction n with
  | zero => exact fun _ _ _ _ _ => sw_none
  | succ n ih =>
    intro v1 v2 v3 v4 σ
    unfold fX9_seekSecondAct_L17
    refine sw_iload (pc := 17) 4 C dX9_seekSecondAct_17 rfl ?_
    refine sw_iloadn (pc := 19) 3 3 C dX9_seekSecondAct_19 rfl ?_
    refine sw_icmp_ge (pc := 20) 103 C dX9_seekSecondAct_20 (by decide) ?_ ?_
    · exact sw_retv (pc := 103) C M dX9_seekSecondAct_103
    · refine sw_aloadn (pc := 23) 0 0 C dX9_seekSecondAct_23 rfl ?_
      refine sw_getR (pc := 24) C kfX9_72 sh0 ff9_10 dX9_seekSecondAct_24 ?_
      refine sw_iloadn (pc := 27) 1 1 C dX9_seekSecondAct_27 rfl ?_
      refine sw_callSi (pc := 28) C (mX4_costOf v1) sgX4_costOf mlX9_365 dX9_seekSecondAct_28 (by decide) [.int v1] [.ref (ad 33)] rfl rfl rfl (Nat.le_of_ble_eq_true rfl) (fun r3 σ4 => ?_)
      refine sw_iload (pc := 31) 4 C dX9_seekSecondAct_31 rfl ?_
      refine sw_callSi (pc := 33) C (mX4_costOf v4) sgX4_costOf mlX9_365 dX9_seekSecondAct_33 (by decide) [.int v4] [.int r3, .ref (ad 33)] rfl rfl rfl (Nat.le_of_ble_eq_true rfl) (fun r5 σ6 => ?_)
      refine sw_iadd (pc := 36) C dX9_seekSecondAct_36 ?_
      refine sw_callVi (pc := 37) C (mX4_isCheaper (r3 + r5)) sgX4_isCheaper mlX9_368 dX9_seekSecondAct_37 (by decide) [.int (r3 + r5)] [] sh33 rfl rfl rfl rfl (Nat.le_of_ble_eq_true rfl) (fun r7 σ8 => ?_)
      refine sw_if_ne (pc := 40) 46 C dX9_seekSecondAct_40 (by decide) ?_ ?_
      · refine sw_aloadn (pc := 46) 0 0 C dX9_seekSecondAct_46 rfl ?_
        refine sw_getR (pc := 47) C kfX9_28 sh0 ff9_3 dX9_seekSecondAct_47 ?_
        refine sw_aloadn (pc := 50) 0 0 C dX9_seekSecondAct_50 rfl ?_
        refine sw_getR (pc := 51) C kfX9_25 sh0 ff9_2 dX9_seekSecondAct_51 ?_
        refine sw_callVv (pc := 54) C (mX6_become saw13 saw9) sgX6_become mlX9_98 dX9_seekSecondAct_54 (by decide) [.ref (ad 9)] [] saw13.1 rfl rfl rfl rfl (Nat.le_of_ble_eq_true rfl) (fun r9 σ10 => ?_)
        refine sw_aloadn (pc := 57) 0 0 C dX9_seekSecondAct_57 rfl ?_
        refine sw_getR (pc := 58) C kfX9_28 sh0 ff9_3 dX9_seekSecondAct_58 ?_
        refine sw_iload (pc := 61) 4 C dX9_seekSecondAct_61 rfl ?_
        refine sw_iconst (pc := 63) (v := 4) C dX9_seekSecondAct_63 (by decide) ?_
        refine sw_idivc (pc := 64) C dX9_seekSecondAct_64 (by decide) ?_
        refine sw_iload (pc := 65) 4 C dX9_seekSecondAct_65 rfl ?_
        refine sw_iconst (pc := 67) (v := 4) C dX9_seekSecondAct_67 (by decide) ?_
        refine sw_iremc (pc := 68) C dX9_seekSecondAct_68 (by decide) ?_
        refine sw_callVi (pc := 69) C (mX6_mendBy saw13 (v4 / 4) (v4 - v4 / 4 * 4)) sgX6_mendBy mlX9_242 dX9_seekSecondAct_69 (by decide) [.int (v4 / 4), .int (v4 - v4 / 4 * 4)] [] saw13.1 rfl rfl rfl rfl (Nat.le_of_ble_eq_true rfl) (fun r11 σ12 => ?_)
        refine sw_if_eq (pc := 72) 97 C dX9_seekSecondAct_72 (by decide) ?_ ?_
        · exact jX9_seekSecondAct_B97 C hn M ih _ _ _ _ _
        · refine sw_aloadn (pc := 75) 0 0 C dX9_seekSecondAct_75 rfl ?_
          refine sw_aloadn (pc := 76) 0 0 C dX9_seekSecondAct_76 rfl ?_
          refine sw_getR (pc := 77) C kfX9_28 sh0 ff9_3 dX9_seekSecondAct_77 ?_
          refine sw_iloadn (pc := 80) 2 2 C dX9_seekSecondAct_80 rfl ?_
          refine sw_callVi (pc := 81) C (mX9_goesStraightEnough saw13 v2) sgX9_goesStraightEnough mlX9_358 dX9_seekSecondAct_81 (by decide) [.ref (ad 13), .int v2] [] sh0 rfl rfl rfl rfl (Nat.le_of_ble_eq_true rfl) (fun r13 σ14 => ?_)
          refine sw_if_eq (pc := 84) 97 C dX9_seekSecondAct_84 (by decide) ?_ ?_
          · exact jX9_seekSecondAct_B97 C hn M ih _ _ _ _ _
          · refine sw_aloadn (pc := 87) 0 0 C dX9_seekSecondAct_87 rfl ?_
            refine sw_getR (pc := 88) C kfX9_72 sh0 ff9_10 dX9_seekSecondAct_88 ?_
            refine sw_iloadn (pc := 91) 1 1 C dX9_seekSecondAct_91 rfl ?_
            refine sw_iload (pc := 92) 4 C dX9_seekSecondAct_92 rfl ?_
            refine sw_callVv (pc := 94) C (mX4_keepTwoActs v1 v4) sgX4_keepTwoActs mlX9_378 dX9_seekSecondAct_94 (by decide) [.int v1, .int v4] [] sh33 rfl rfl rfl rfl (Nat.le_of_ble_eq_true rfl) (fun r15 σ16 => ?_)
            exact jX9_seekSecondAct_B97 C hn M ih _ _ _ _ _
      · refine sw_goto (pc := 43) 97 C dX9_seekSecondAct_43 (by decide) ?_
        exact jX9_seekSecondAct_B97 C hn M ih _ _ _ _ _
set_option maxRecDepth 100000 in
set_option maxHeartbeats 4000000 in
theorem mX9_seekSecondAct   (a0 : Int32) (a1 : Int32) : sw_Kv yX9_seekSecondAct cX9_seekSecondAct 5 none 5 (fun ad => [.ref (ad 0), .int a0, .int a1]) (fX9_seekSecondAct a0 a1) := by
  refine sw_enterv (by decide) (fun ad => Nat.le_of_ble_eq_true rfl) (fun X ad t σ C hn M => ?_)
  change sw_J X ad t 0 [(0, .ref (ad 0)), (1, .int a0), (2, .int a1)] [] σ _
  replace C : sw_C X ad cX9_seekSecondAct RX9 5 := C
  unfold fX9_seekSecondAct
  refine sw_aloadn (pc := 0) 0 0 C dX9_seekSecondAct_0 rfl ?_
  refine sw_getR (pc := 1) C kfX9_21 sh0 ff9_1 dX9_seekSecondAct_1 ?_
  refine sw_getI (pc := 4) C kfX9_106 saw5.1 rfl dX9_seekSecondAct_4 ?_
  refine sw_iconst (pc := 7) (v := 4) C dX9_seekSecondAct_7 (by decide) ?_
  refine sw_imul (pc := 8) C dX9_seekSecondAct_8 ?_
  refine sw_leti (fun x1 => ?_)
  refine sw_istoren (pc := 9) 3 [(3, .int x1), (0, .ref (ad 0)), (1, .int a0), (2, .int a1)] C dX9_seekSecondAct_9 (by rw [hn]; decide) rfl ?_
  refine sw_iloadn (pc := 10) 1 2 C dX9_seekSecondAct_10 rfl ?_
  refine sw_iloadn (pc := 11) 1 2 C dX9_seekSecondAct_11 rfl ?_
  refine sw_iconst (pc := 12) (v := 4) C dX9_seekSecondAct_12 (by decide) ?_
  refine sw_iremc (pc := 13) C dX9_seekSecondAct_13 (by decide) ?_
  refine sw_isub (pc := 14) C dX9_seekSecondAct_14 ?_
  refine sw_leti (fun x2 => ?_)
  refine sw_istore (pc := 15) [(4, .int x2), (3, .int x1), (0, .ref (ad 0)), (1, .int a0), (2, .int a1)] C dX9_seekSecondAct_15 (by rw [hn]; decide) rfl ?_
  refine sw_lpick (pc := 17) (L' := [(0, .ref (ad 0)), (1, .int a0), (2, .int a1), (3, .int x1), (4, .int x2)]) [2, 3, 4, 1, 0] rfl ?_
  exact jX9_seekSecondAct_L17 C hn M  _ _ _ _ _ _
set_option maxRecDepth 100000 in
set_option maxHeartbeats 4000000 in
theorem jX9_seekMending_B151 {X : sw_X} {ad : Nat → Nat} {t : Unit × sw_St} (C : sw_C X ad cX9_seekMending RX9 6) (hn : sw_nL X = 4) (M : sw_Mv X ad none t)   {K113 : Int32 → Int32 → Int32 → sw_St → Option (Unit × sw_St)} (hK113 : ∀ (z1 : Int32) (z2 : Int32) (z3 : Int32) (τ : sw_St), sw_J X ad t 113 [(0, .ref (ad 0)), (1, .int z1), (2, .int z2), (3, .int z3)] [] τ (K113 z1 z2 z3 τ)) (v1 : Int32) (v2 : Int32) (v3 : Int32) (σ : sw_St) : sw_J X ad t 151 [(0, .ref (ad 0)), (1, .int v1), (2, .int v2), (3, .int v3)] [] σ (fX9_seekMending_B151 K113 v1 v2 v3 σ) := by
  unfold fX9_seekMending_B151
  refine sw_iinc (pc := 151) (v3 + 1) 3 [(3, .int (v3 + 1)), (0, .ref (ad 0)), (1, .int v1), (2, .int v2)] C dX9_seekMending_151 (by rw [hn]; decide) rfl rfl rfl ?_
  refine sw_goto (pc := 154) 113 C dX9_seekMending_154 (by decide) ?_
  refine sw_lpick (pc := 113) (L' := [(0, .ref (ad 0)), (1, .int v1), (2, .int v2), (3, .int (v3 + 1))]) [1, 2, 3, 0] rfl ?_
  exact hK113 _ _ _ _
set_option maxRecDepth 100000 in
set_option maxHeartbeats 4000000 in
theorem jX9_seekMending_L113 {X : sw_X} {ad : Nat → Nat} {t : Unit × sw_St} (C : sw_C X ad cX9_seekMending RX9 6) (hn : sw_nL X = 4) (M : sw_Mv X ad none t)   : ∀ (n : Nat) (v1 : Int32) (v2 : Int32) (v3 : Int32) (σ : sw_St), sw_J X ad t 113 [(0, .ref (ad 0)), (1, .int v1), (2, .int v2), (3, .int v3)] [] σ (fX9_seekMending_L113  n v1 v2 v3 σ) := by
  intro n
  induction n with
  | zero => exact fun _ _ _ _ => sw_none
  | succ n ih =>
    intro v1 v2 v3 σ
    unfold fX9_seekMending_L113
    refine sw_iloadn (pc := 113) 3 3 C dX9_seekMending_113 rfl ?_
    refine sw_iloadn (pc := 114) 2 2 C dX9_seekMending_114 rfl ?_
    refine sw_icmp_ge (pc := 115) 157 C dX9_seekMending_115 (by decide) ?_ ?_
    · exact sw_retv (pc := 157) C M dX9_seekMending_157
    · refine sw_aloadn (pc := 118) 0 0 C dX9_seekMending_118 rfl ?_
      refine sw_getR (pc := 119) C kfX9_25 sh0 ff9_2 dX9_seekMending_119 ?_
      refine sw_aloadn (pc := 122) 0 0 C dX9_seekMending_122 rfl ?_
      refine sw_getR (pc := 123) C kfX9_21 sh0 ff9_1 dX9_seekMending_123 ?_
      refine sw_callVv (pc := 126) C (mX6_become saw9 saw5) sgX6_become mlX9_98 dX9_seekMending_126 (by decide) [.ref (ad 5)] [] saw9.1 rfl rfl rfl rfl (Nat.le_of_ble_eq_true rfl) (fun r20 σ21 => ?_)
      refine sw_aloadn (pc := 129) 0 0 C dX9_seekMending_129 rfl ?_
      refine sw_getR (pc := 130) C kfX9_25 sh0 ff9_2 dX9_seekMending_130 ?_
      refine sw_iloadn (pc := 133) 3 3 C dX9_seekMending_133 rfl ?_
      refine sw_iconst (pc := 134) (v := 4) C dX9_seekMending_134 (by decide) ?_
      refine sw_idivc (pc := 135) C dX9_seekMending_135 (by decide) ?_
      refine sw_iloadn (pc := 136) 3 3 C dX9_seekMending_136 rfl ?_
      refine sw_iconst (pc := 137) (v := 4) C dX9_seekMending_137 (by decide) ?_
      refine sw_iremc (pc := 138) C dX9_seekMending_138 (by decide) ?_
      refine sw_callVi (pc := 139) C (mX6_mendBy saw9 (v3 / 4) (v3 - v3 / 4 * 4)) sgX6_mendBy mlX9_242 dX9_seekMending_139 (by decide) [.int (v3 / 4), .int (v3 - v3 / 4 * 4)] [] saw9.1 rfl rfl rfl rfl (Nat.le_of_ble_eq_true rfl) (fun r22 σ23 => ?_)
      refine sw_if_eq (pc := 142) 151 C dX9_seekMending_142 (by decide) ?_ ?_
      · exact jX9_seekMending_B151 C hn M ih _ _ _ _
      · refine sw_aloadn (pc := 145) 0 0 C dX9_seekMending_145 rfl ?_
        refine sw_iloadn (pc := 146) 3 3 C dX9_seekMending_146 rfl ?_
        refine sw_iloadn (pc := 147) 1 1 C dX9_seekMending_147 rfl ?_
        refine sw_callVv (pc := 148) C (mX9_seekSecondAct v3 v1) sgX9_seekSecondAct mlX9_374 dX9_seekMending_148 (by decide) [.int v3, .int v1] [] sh0 rfl rfl rfl rfl (Nat.le_of_ble_eq_true rfl) (fun r24 σ25 => ?_)
        exact jX9_seekMending_B151 C hn M ih _ _ _ _
set_option maxRecDepth 100000 in
set_option maxHeartbeats 4000000 in
theorem jX9_seekMending_B105 {X : sw_X} {ad : Nat → Nat} {t : Unit × sw_St} (C : sw_C X ad cX9_seekMending RX9 6) (hn : sw_nL X = 4) (M : sw_Mv X ad none t)   {K39 : Int32 → Int32 → Int32 → sw_St → Option (Unit × sw_St)} (hK39 : ∀ (z1 : Int32) (z2 : Int32) (z3 : Int32) (τ : sw_St), sw_J X ad t 39 [(0, .ref (ad 0)), (1, .int z1), (2, .int z2), (3, .int z3)] [] τ (K39 z1 z2 z3 τ)) (v1 : Int32) (v2 : Int32) (v3 : Int32) (σ : sw_St) : sw_J X ad t 105 [(0, .ref (ad 0)), (1, .int v1), (2, .int v2), (3, .int v3)] [] σ (fX9_seekMending_B105 K39 v1 v2 v3 σ) := by
  unfold fX9_seekMending_B105
  refine sw_iinc (pc := 105) (v3 + 1) 3 [(3, .int (v3 + 1)), (0, .ref (ad 0)), (1, .int v1), (2, .int v2)] C dX9_seekMending_105 (by rw [hn]; decide) rfl rfl rfl ?_
  refine sw_goto (pc := 108) 39 C dX9_seekMending_108 (by decide) ?_
  refine sw_lpick (pc := 39) (L' := [(0, .ref (ad 0)), (1, .int v1), (2, .int v2), (3, .int (v3 + 1))]) [1, 2, 3, 0] rfl ?_
  exact hK39 _ _ _ _
set_option maxRecDepth 100000 in
set_option maxHeartbeats 4000000 in
theorem jX9_seekMending_L39 {X : sw_X} {ad : Nat → Nat} {t : Unit × sw_St} (C : sw_C X ad cX9_seekMending RX9 6) (hn : sw_nL X = 4) (M : sw_Mv X ad none t)   : ∀ (n : Nat) (v1 : Int32) (v2 : Int32) (v3 : Int32) (σ : sw_St), sw_J X ad t 39 [(0, .ref (ad 0)), (1, .int v1), (2, .int v2), (3, .int v3)] [] σ (fX9_seekMending_L39  n v1 v2 v3 σ) := by
  intro n
  induction n with
  | zero => exact fun _ _ _ _ => sw_none
  | succ n ih =>
    intro v1 v2 v3 σ
    unfold fX9_seekMending_L39
    refine sw_iloadn (pc := 39) 3 3 C dX9_seekMending_39 rfl ?_
    refine sw_iloadn (pc := 40) 2 2 C dX9_seekMending_40 rfl ?_
    refine sw_icmp_ge (pc := 41) 111 C dX9_seekMending_41 (by decide) ?_ ?_
    · refine sw_iconst (pc := 111) (v := 0) C dX9_seekMending_111 (by decide) ?_
      refine sw_istoren (pc := 112) 3 [(3, .int 0), (0, .ref (ad 0)), (1, .int v1), (2, .int v2)] C dX9_seekMending_112 (by rw [hn]; decide) rfl ?_
      refine sw_lpick (pc := 113) (L' := [(0, .ref (ad 0)), (1, .int v1), (2, .int v2), (3, .int 0)]) [1, 2, 3, 0] rfl ?_
      exact jX9_seekMending_L113 C hn M  _ _ _ _ _
    · refine sw_aloadn (pc := 44) 0 0 C dX9_seekMending_44 rfl ?_
      refine sw_getR (pc := 45) C kfX9_25 sh0 ff9_2 dX9_seekMending_45 ?_
      refine sw_aloadn (pc := 48) 0 0 C dX9_seekMending_48 rfl ?_
      refine sw_getR (pc := 49) C kfX9_21 sh0 ff9_1 dX9_seekMending_49 ?_
      refine sw_callVv (pc := 52) C (mX6_become saw9 saw5) sgX6_become mlX9_98 dX9_seekMending_52 (by decide) [.ref (ad 5)] [] saw9.1 rfl rfl rfl rfl (Nat.le_of_ble_eq_true rfl) (fun r8 σ9 => ?_)
      refine sw_aloadn (pc := 55) 0 0 C dX9_seekMending_55 rfl ?_
      refine sw_getR (pc := 56) C kfX9_72 sh0 ff9_10 dX9_seekMending_56 ?_
      refine sw_iloadn (pc := 59) 3 3 C dX9_seekMending_59 rfl ?_
      refine sw_callSi (pc := 60) C (mX4_costOf v3) sgX4_costOf mlX9_365 dX9_seekMending_60 (by decide) [.int v3] [.ref (ad 33)] rfl rfl rfl (Nat.le_of_ble_eq_true rfl) (fun r10 σ11 => ?_)
      refine sw_callVi (pc := 63) C (mX4_isCheaper r10) sgX4_isCheaper mlX9_368 dX9_seekMending_63 (by decide) [.int r10] [] sh33 rfl rfl rfl rfl (Nat.le_of_ble_eq_true rfl) (fun r12 σ13 => ?_)
      refine sw_if_eq (pc := 66) 105 C dX9_seekMending_66 (by decide) ?_ ?_
      · exact jX9_seekMending_B105 C hn M ih _ _ _ _
      · refine sw_aloadn (pc := 69) 0 0 C dX9_seekMending_69 rfl ?_
        refine sw_getR (pc := 70) C kfX9_25 sh0 ff9_2 dX9_seekMending_70 ?_
        refine sw_iloadn (pc := 73) 3 3 C dX9_seekMending_73 rfl ?_
        refine sw_iconst (pc := 74) (v := 4) C dX9_seekMending_74 (by decide) ?_
        refine sw_idivc (pc := 75) C dX9_seekMending_75 (by decide) ?_
        refine sw_iloadn (pc := 76) 3 3 C dX9_seekMending_76 rfl ?_
        refine sw_iconst (pc := 77) (v := 4) C dX9_seekMending_77 (by decide) ?_
        refine sw_iremc (pc := 78) C dX9_seekMending_78 (by decide) ?_
        refine sw_callVi (pc := 79) C (mX6_mendBy saw9 (v3 / 4) (v3 - v3 / 4 * 4)) sgX6_mendBy mlX9_242 dX9_seekMending_79 (by decide) [.int (v3 / 4), .int (v3 - v3 / 4 * 4)] [] saw9.1 rfl rfl rfl rfl (Nat.le_of_ble_eq_true rfl) (fun r14 σ15 => ?_)
        refine sw_if_eq (pc := 82) 105 C dX9_seekMending_82 (by decide) ?_ ?_
        · exact jX9_seekMending_B105 C hn M ih _ _ _ _
        · refine sw_aloadn (pc := 85) 0 0 C dX9_seekMending_85 rfl ?_
          refine sw_aloadn (pc := 86) 0 0 C dX9_seekMending_86 rfl ?_
          refine sw_getR (pc := 87) C kfX9_25 sh0 ff9_2 dX9_seekMending_87 ?_
          refine sw_iloadn (pc := 90) 1 1 C dX9_seekMending_90 rfl ?_
          refine sw_callVi (pc := 91) C (mX9_goesStraightEnough saw9 v1) sgX9_goesStraightEnough mlX9_358 dX9_seekMending_91 (by decide) [.ref (ad 9), .int v1] [] sh0 rfl rfl rfl rfl (Nat.le_of_ble_eq_true rfl) (fun r16 σ17 => ?_)
          refine sw_if_eq (pc := 94) 105 C dX9_seekMending_94 (by decide) ?_ ?_
          · exact jX9_seekMending_B105 C hn M ih _ _ _ _
          · refine sw_aloadn (pc := 97) 0 0 C dX9_seekMending_97 rfl ?_
            refine sw_getR (pc := 98) C kfX9_72 sh0 ff9_10 dX9_seekMending_98 ?_
            refine sw_iloadn (pc := 101) 3 3 C dX9_seekMending_101 rfl ?_
            refine sw_callVv (pc := 102) C (mX4_keepOneAct v3) sgX4_keepOneAct mlX9_371 dX9_seekMending_102 (by decide) [.int v3] [] sh33 rfl rfl rfl rfl (Nat.le_of_ble_eq_true rfl) (fun r18 σ19 => ?_)
            exact jX9_seekMending_B105 C hn M ih _ _ _ _
set_option maxRecDepth 100000 in
set_option maxHeartbeats 4000000 in
theorem mX9_seekMending   (a0 : Int32) : sw_Kv yX9_seekMending cX9_seekMending 4 none 6 (fun ad => [.ref (ad 0), .int a0]) (fX9_seekMending a0) := by
  refine sw_enterv (by decide) (fun ad => Nat.le_of_ble_eq_true rfl) (fun X ad t σ C hn M => ?_)
  change sw_J X ad t 0 [(0, .ref (ad 0)), (1, .int a0)] [] σ _
  replace C : sw_C X ad cX9_seekMending RX9 6 := C
  unfold fX9_seekMending
  refine sw_aloadn (pc := 0) 0 0 C dX9_seekMending_0 rfl ?_
  refine sw_getR (pc := 1) C kfX9_72 sh0 ff9_10 dX9_seekMending_1 ?_
  refine sw_callVv (pc := 4) C mX4_forget sgX4_forget mlX9_355 dX9_seekMending_4 (by decide) [] [] sh33 rfl rfl rfl rfl (Nat.le_of_ble_eq_true rfl) (fun r1 σ2 => ?_)
  refine sw_aloadn (pc := 7) 0 0 C dX9_seekMending_7 rfl ?_
  refine sw_aloadn (pc := 8) 0 0 C dX9_seekMending_8 rfl ?_
  refine sw_getR (pc := 9) C kfX9_21 sh0 ff9_1 dX9_seekMending_9 ?_
  refine sw_iloadn (pc := 12) 1 1 C dX9_seekMending_12 rfl ?_
  refine sw_callVi (pc := 13) C (mX9_goesStraightEnough saw5 a0) sgX9_goesStraightEnough mlX9_358 dX9_seekMending_13 (by decide) [.ref (ad 5), .int a0] [] sh0 rfl rfl rfl rfl (Nat.le_of_ble_eq_true rfl) (fun r3 σ4 => ?_)
  refine sw_if_eq (pc := 16) 27 C dX9_seekMending_16 (by decide) ?_ ?_
  · refine sw_aloadn (pc := 27) 0 0 C dX9_seekMending_27 rfl ?_
    refine sw_getR (pc := 28) C kfX9_21 sh0 ff9_1 dX9_seekMending_28 ?_
    refine sw_getI (pc := 31) C kfX9_106 saw5.1 rfl dX9_seekMending_31 ?_
    refine sw_iconst (pc := 34) (v := 4) C dX9_seekMending_34 (by decide) ?_
    refine sw_imul (pc := 35) C dX9_seekMending_35 ?_
    refine sw_leti (fun x5 => ?_)
    refine sw_istoren (pc := 36) 2 [(2, .int x5), (0, .ref (ad 0)), (1, .int a0)] C dX9_seekMending_36 (by rw [hn]; decide) rfl ?_
    refine sw_iconst (pc := 37) (v := 0) C dX9_seekMending_37 (by decide) ?_
    refine sw_istoren (pc := 38) 3 [(3, .int 0), (2, .int x5), (0, .ref (ad 0)), (1, .int a0)] C dX9_seekMending_38 (by rw [hn]; decide) rfl ?_
    refine sw_lpick (pc := 39) (L' := [(0, .ref (ad 0)), (1, .int a0), (2, .int x5), (3, .int 0)]) [2, 3, 1, 0] rfl ?_
    exact jX9_seekMending_L39 C hn M  _ _ _ _ _
  · refine sw_aloadn (pc := 19) 0 0 C dX9_seekMending_19 rfl ?_
    refine sw_getR (pc := 20) C kfX9_72 sh0 ff9_10 dX9_seekMending_20 ?_
    refine sw_callVv (pc := 23) C mX4_keepNoAct sgX4_keepNoAct mlX9_362 dX9_seekMending_23 (by decide) [] [] sh33 rfl rfl rfl rfl (Nat.le_of_ble_eq_true rfl) (fun r6 σ7 => ?_)
    exact sw_retv (pc := 26) C M dX9_seekMending_26
