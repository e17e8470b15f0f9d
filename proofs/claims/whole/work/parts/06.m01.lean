set_option maxRecDepth 100000 in
set_option maxHeartbeats 4000000 in
theorem mX6_become {c c1 : Nat} (hc : sw_saw c) (hc1 : sw_saw c1)  : sw_Kv yX6_become cX6_become 2 none 2 (fun ad => [.ref (ad c), .ref (ad c1)]) (fX6_become c c1) := by
  refine sw_enterv (by decide) (fun ad => Nat.le_of_ble_eq_true rfl) (fun X ad t σ C hn M => ?_)
  change sw_J X ad t 0 [(0, .ref (ad c)), (1, .ref (ad c1))] [] σ _
  replace C : sw_C X ad cX6_become RX6 2 := C
  unfold fX6_become
  refine sw_aloadn (pc := 0) 0 0 C dX6_become_0 rfl ?_
  refine sw_aloadn (pc := 1) 1 1 C dX6_become_1 rfl ?_
  refine sw_getI (pc := 2) C kfX6_9 hc1.1 rfl dX6_become_2 ?_
  refine sw_putL (pc := 5) C kpX6_9 hc.1 rfl dX6_become_5 (fun σ1 => ?_)
  refine sw_aloadn (pc := 8) 1 1 C dX6_become_8 rfl ?_
  refine sw_getR (pc := 9) C kfX6_15 hc1.1 rfl dX6_become_9 ?_
  refine sw_iconst (pc := 12) (v := 0) C dX6_become_12 (by decide) ?_
  refine sw_aloadn (pc := 13) 0 0 C dX6_become_13 rfl ?_
  refine sw_getR (pc := 14) C kfX6_15 hc.1 rfl dX6_become_14 ?_
  refine sw_iconst (pc := 17) (v := 0) C dX6_become_17 (by decide) ?_
  refine sw_bipush (pc := 18) (v := 8) C dX6_become_18 (by decide) ?_
  refine sw_copyL (pc := 20) C (by decide) (Nat.le_of_ble_eq_true rfl) mlX6_32 kcopy.1 kcopy.2.1 kcopy.2.2 hc1.2.1 hc.2.1 dX6_become_20 (fun σ2 => ?_)
  refine sw_aloadn (pc := 23) 1 1 C dX6_become_23 rfl ?_
  refine sw_getR (pc := 24) C kfX6_19 hc1.1 rfl dX6_become_24 ?_
  refine sw_iconst (pc := 27) (v := 0) C dX6_become_27 (by decide) ?_
  refine sw_aloadn (pc := 28) 0 0 C dX6_become_28 rfl ?_
  refine sw_getR (pc := 29) C kfX6_19 hc.1 rfl dX6_become_29 ?_
  refine sw_iconst (pc := 32) (v := 0) C dX6_become_32 (by decide) ?_
  refine sw_bipush (pc := 33) (v := 8) C dX6_become_33 (by decide) ?_
  refine sw_copyL (pc := 35) C (by decide) (Nat.le_of_ble_eq_true rfl) mlX6_32 kcopy.1 kcopy.2.1 kcopy.2.2 hc1.2.2.1 hc.2.2.1 dX6_become_35 (fun σ3 => ?_)
  refine sw_aloadn (pc := 38) 1 1 C dX6_become_38 rfl ?_
  refine sw_getR (pc := 39) C kfX6_22 hc1.1 rfl dX6_become_39 ?_
  refine sw_iconst (pc := 42) (v := 0) C dX6_become_42 (by decide) ?_
  refine sw_aloadn (pc := 43) 0 0 C dX6_become_43 rfl ?_
  refine sw_getR (pc := 44) C kfX6_22 hc.1 rfl dX6_become_44 ?_
  refine sw_iconst (pc := 47) (v := 0) C dX6_become_47 (by decide) ?_
  refine sw_bipush (pc := 48) (v := 24) C dX6_become_48 (by decide) ?_
  refine sw_copyL (pc := 50) C (by decide) (Nat.le_of_ble_eq_true rfl) mlX6_32 kcopy.1 kcopy.2.1 kcopy.2.2 hc1.2.2.2 hc.2.2.2 dX6_become_50 (fun σ4 => ?_)
  exact sw_retv (pc := 53) C M dX6_become_53
set_option maxRecDepth 100000 in
set_option maxHeartbeats 4000000 in
theorem jX6_beginTooth_B78 {X : sw_X} {ad : Nat → Nat} {t : Int32 × sw_St} (C : sw_C X ad cX6_beginTooth RX6 1) (hn : sw_nL X = 2) (M : sw_Mi X ad (some .boolean) t) {c : Nat} (hc : sw_saw c) (s0 : Int32) (s1 : Int32) (σ : sw_St) : sw_J X ad t 78 [(0, .ref (ad c))] [.int s0, .int s1, .ref (ad (c + 2))] σ (fX6_beginTooth_B78 c s0 s1 σ) := by
  unfold fX6_beginTooth_B78
  refine sw_iastL (pc := 78) C hc.2.2.1 dX6_beginTooth_78 (fun σ2 => ?_)
  refine sw_aloadn (pc := 79) 0 0 C dX6_beginTooth_79 rfl ?_
  refine sw_dup (pc := 80) C dX6_beginTooth_80 rfl ?_
  refine sw_getI (pc := 81) C kfX6_9 hc.1 rfl dX6_beginTooth_81 ?_
  refine sw_iconst (pc := 84) (v := 1) C dX6_beginTooth_84 (by decide) ?_
  refine sw_iadd (pc := 85) C dX6_beginTooth_85 ?_
  refine sw_putL (pc := 86) C kpX6_9 hc.1 rfl dX6_beginTooth_86 (fun σ3 => ?_)
  refine sw_iconst (pc := 89) (v := 1) C dX6_beginTooth_89 (by decide) ?_
  exact sw_retiz (pc := 90) rfl C M dX6_beginTooth_90
set_option maxRecDepth 100000 in
set_option maxHeartbeats 4000000 in
theorem jX6_beginTooth_B48 {X : sw_X} {ad : Nat → Nat} {t : Int32 × sw_St} (C : sw_C X ad cX6_beginTooth RX6 1) (hn : sw_nL X = 2) (M : sw_Mi X ad (some .boolean) t) {c : Nat} (hc : sw_saw c) (v1 : Int32) (s0 : Int32) (s1 : Int32) (σ : sw_St) : sw_J X ad t 48 [(0, .ref (ad c)), (1, .int v1)] [.int s0, .int s1, .ref (ad (c + 1))] σ (fX6_beginTooth_B48 c v1 s0 s1 σ) := by
  unfold fX6_beginTooth_B48
  refine sw_iastL (pc := 48) C hc.2.1 dX6_beginTooth_48 (fun σ1 => ?_)
  refine sw_aloadn (pc := 49) 0 0 C dX6_beginTooth_49 rfl ?_
  refine sw_getR (pc := 50) C kfX6_19 hc.1 rfl dX6_beginTooth_50 ?_
  refine sw_aloadn (pc := 53) 0 0 C dX6_beginTooth_53 rfl ?_
  refine sw_getI (pc := 54) C kfX6_9 hc.1 rfl dX6_beginTooth_54 ?_
  refine sw_iloadn (pc := 57) 1 1 C dX6_beginTooth_57 rfl ?_
  refine sw_bipush (pc := 58) (v := 108) C dX6_beginTooth_58 (by decide) ?_
  refine sw_icmp_ne (pc := 60) 67 C dX6_beginTooth_60 (by decide) ?_ ?_
  · refine sw_iloadn (pc := 67) 1 1 C dX6_beginTooth_67 rfl ?_
    refine sw_bipush (pc := 68) (v := 114) C dX6_beginTooth_68 (by decide) ?_
    refine sw_icmp_ne (pc := 70) 77 C dX6_beginTooth_70 (by decide) ?_ ?_
    · refine sw_iconst (pc := 77) (v := 0) C dX6_beginTooth_77 (by decide) ?_
      refine sw_lpick (pc := 78) (L' := [(0, .ref (ad c))]) [0] rfl ?_
      exact jX6_beginTooth_B78 C hn M hc _ _ _
    · refine sw_iconst (pc := 73) (v := 1) C dX6_beginTooth_73 (by decide) ?_
      refine sw_goto (pc := 74) 78 C dX6_beginTooth_74 (by decide) ?_
      refine sw_lpick (pc := 78) (L' := [(0, .ref (ad c))]) [0] rfl ?_
      exact jX6_beginTooth_B78 C hn M hc _ _ _
  · refine sw_iconst (pc := 63) (v := (-1)) C dX6_beginTooth_63 (by decide) ?_
    refine sw_goto (pc := 64) 78 C dX6_beginTooth_64 (by decide) ?_
    refine sw_lpick (pc := 78) (L' := [(0, .ref (ad c))]) [0] rfl ?_
    exact jX6_beginTooth_B78 C hn M hc _ _ _
set_option maxRecDepth 100000 in
set_option maxHeartbeats 4000000 in
theorem jX6_beginTooth_B29 {X : sw_X} {ad : Nat → Nat} {t : Int32 × sw_St} (C : sw_C X ad cX6_beginTooth RX6 1) (hn : sw_nL X = 2) (M : sw_Mi X ad (some .boolean) t) {c : Nat} (hc : sw_saw c) (v1 : Int32) (σ : sw_St) : sw_J X ad t 29 [(0, .ref (ad c)), (1, .int v1)] [] σ (fX6_beginTooth_B29 c v1 σ) := by
  unfold fX6_beginTooth_B29
  refine sw_aloadn (pc := 29) 0 0 C dX6_beginTooth_29 rfl ?_
  refine sw_getR (pc := 30) C kfX6_15 hc.1 rfl dX6_beginTooth_30 ?_
  refine sw_aloadn (pc := 33) 0 0 C dX6_beginTooth_33 rfl ?_
  refine sw_getI (pc := 34) C kfX6_9 hc.1 rfl dX6_beginTooth_34 ?_
  refine sw_iloadn (pc := 37) 1 1 C dX6_beginTooth_37 rfl ?_
  refine sw_bipush (pc := 38) (v := 99) C dX6_beginTooth_38 (by decide) ?_
  refine sw_icmp_ne (pc := 40) 47 C dX6_beginTooth_40 (by decide) ?_ ?_
  · refine sw_iconst (pc := 47) (v := 1) C dX6_beginTooth_47 (by decide) ?_
    exact jX6_beginTooth_B48 C hn M hc _ _ _ _
  · refine sw_iconst (pc := 43) (v := 0) C dX6_beginTooth_43 (by decide) ?_
    refine sw_goto (pc := 44) 48 C dX6_beginTooth_44 (by decide) ?_
    exact jX6_beginTooth_B48 C hn M hc _ _ _ _
set_option maxRecDepth 100000 in
set_option maxHeartbeats 4000000 in
theorem mX6_beginTooth {c : Nat} (hc : sw_saw c) (a0 : Int32) : sw_Ki yX6_beginTooth cX6_beginTooth 2 (some .boolean) 1 (fun ad => [.ref (ad c), .int a0]) (fX6_beginTooth c a0) := by
  refine sw_enteri (by decide) (fun ad => Nat.le_of_ble_eq_true rfl) (fun X ad t σ C hn M => ?_)
  change sw_J X ad t 0 [(0, .ref (ad c)), (1, .int a0)] [] σ _
  replace C : sw_C X ad cX6_beginTooth RX6 1 := C
  unfold fX6_beginTooth
  refine sw_aloadn (pc := 0) 0 0 C dX6_beginTooth_0 rfl ?_
  refine sw_getI (pc := 1) C kfX6_9 hc.1 rfl dX6_beginTooth_1 ?_
  refine sw_bipush (pc := 4) (v := 8) C dX6_beginTooth_4 (by decide) ?_
  refine sw_icmp_ge (pc := 6) 27 C dX6_beginTooth_6 (by decide) ?_ ?_
  · refine sw_iconst (pc := 27) (v := 0) C dX6_beginTooth_27 (by decide) ?_
    exact sw_retiz (pc := 28) rfl C M dX6_beginTooth_28
  · refine sw_iloadn (pc := 9) 1 1 C dX6_beginTooth_9 rfl ?_
    refine sw_bipush (pc := 10) (v := 108) C dX6_beginTooth_10 (by decide) ?_
    refine sw_icmp_eq (pc := 12) 29 C dX6_beginTooth_12 (by decide) ?_ ?_
    · exact jX6_beginTooth_B29 C hn M hc _ _
    · refine sw_iloadn (pc := 15) 1 1 C dX6_beginTooth_15 rfl ?_
      refine sw_bipush (pc := 16) (v := 99) C dX6_beginTooth_16 (by decide) ?_
      refine sw_icmp_eq (pc := 18) 29 C dX6_beginTooth_18 (by decide) ?_ ?_
      · exact jX6_beginTooth_B29 C hn M hc _ _
      · refine sw_iloadn (pc := 21) 1 1 C dX6_beginTooth_21 rfl ?_
        refine sw_bipush (pc := 22) (v := 114) C dX6_beginTooth_22 (by decide) ?_
        refine sw_icmp_eq (pc := 24) 29 C dX6_beginTooth_24 (by decide) ?_ ?_
        · exact jX6_beginTooth_B29 C hn M hc _ _
        · refine sw_iconst (pc := 27) (v := 0) C dX6_beginTooth_27 (by decide) ?_
          exact sw_retiz (pc := 28) rfl C M dX6_beginTooth_28
set_option maxRecDepth 100000 in
set_option maxHeartbeats 4000000 in
theorem mX6_readCode {c : Nat} (hc : sw_saw c) (a0 : Int32) (a1 : Int32) : sw_Ki yX6_readCode cX6_readCode 3 (some .int) 3 (fun ad => [.ref (ad c), .int a0, .int a1]) (fX6_readCode c a0 a1) := by
  refine sw_enteri (by decide) (fun ad => Nat.le_of_ble_eq_true rfl) (fun X ad t σ C hn M => ?_)
  change sw_J X ad t 0 [(0, .ref (ad c)), (1, .int a0), (2, .int a1)] [] σ _
  replace C : sw_C X ad cX6_readCode RX6 3 := C
  unfold fX6_readCode
  refine sw_iloadn (pc := 0) 1 1 C dX6_readCode_0 rfl ?_
  refine sw_if_ne (pc := 1) 20 C dX6_readCode_1 (by decide) ?_ ?_
  · refine sw_iloadn (pc := 20) 1 1 C dX6_readCode_20 rfl ?_
    refine sw_iconst (pc := 21) (v := 3) C dX6_readCode_21 (by decide) ?_
    refine sw_icmp_gt (pc := 22) 60 C dX6_readCode_22 (by decide) ?_ ?_
    · refine sw_iloadn (pc := 60) 2 2 C dX6_readCode_60 rfl ?_
      refine sw_bipush (pc := 61) (v := 59) C dX6_readCode_61 (by decide) ?_
      refine sw_icmp_ne (pc := 63) 81 C dX6_readCode_63 (by decide) ?_ ?_
      · refine sw_iloadn (pc := 81) 2 2 C dX6_readCode_81 rfl ?_
        refine sw_bipush (pc := 82) (v := 104) C dX6_readCode_82 (by decide) ?_
        refine sw_icmp_ne (pc := 84) 120 C dX6_readCode_84 (by decide) ?_ ?_
        · refine sw_iconst (pc := 120) (v := (-1)) C dX6_readCode_120 (by decide) ?_
          exact sw_reti (pc := 121) C M dX6_readCode_121
        · refine sw_iloadn (pc := 87) 1 1 C dX6_readCode_87 rfl ?_
          refine sw_iconst (pc := 88) (v := 4) C dX6_readCode_88 (by decide) ?_
          refine sw_icmp_ne (pc := 89) 120 C dX6_readCode_89 (by decide) ?_ ?_
          · refine sw_iconst (pc := 120) (v := (-1)) C dX6_readCode_120 (by decide) ?_
            exact sw_reti (pc := 121) C M dX6_readCode_121
          · refine sw_aloadn (pc := 92) 0 0 C dX6_readCode_92 rfl ?_
            refine sw_aloadn (pc := 93) 0 0 C dX6_readCode_93 rfl ?_
            refine sw_getI (pc := 94) C kfX6_9 hc.1 rfl dX6_readCode_94 ?_
            refine sw_iconst (pc := 97) (v := 1) C dX6_readCode_97 (by decide) ?_
            refine sw_isub (pc := 98) C dX6_readCode_98 ?_
            refine sw_callVi (pc := 99) C (mX6_kindOf hc ((σ c 0) - 1)) sgX6_kindOf mlX6_54 dX6_readCode_99 (by decide) [.int ((σ c 0) - 1)] [] hc.1 rfl rfl rfl rfl (Nat.le_of_ble_eq_true rfl) (fun r1 σ2 => ?_)
            refine sw_iconst (pc := 102) (v := 1) C dX6_readCode_102 (by decide) ?_
            refine sw_icmp_ne (pc := 103) 120 C dX6_readCode_103 (by decide) ?_ ?_
            · refine sw_iconst (pc := 120) (v := (-1)) C dX6_readCode_120 (by decide) ?_
              exact sw_reti (pc := 121) C M dX6_readCode_121
            · refine sw_aloadn (pc := 106) 0 0 C dX6_readCode_106 rfl ?_
              refine sw_getR (pc := 107) C kfX6_15 hc.1 rfl dX6_readCode_107 ?_
              refine sw_aloadn (pc := 110) 0 0 C dX6_readCode_110 rfl ?_
              refine sw_getI (pc := 111) C kfX6_9 hc.1 rfl dX6_readCode_111 ?_
              refine sw_iconst (pc := 114) (v := 1) C dX6_readCode_114 (by decide) ?_
              refine sw_isub (pc := 115) C dX6_readCode_115 ?_
              refine sw_iconst (pc := 116) (v := 2) C dX6_readCode_116 (by decide) ?_
              refine sw_iastL (pc := 117) C hc.2.1 dX6_readCode_117 (fun σ3 => ?_)
              refine sw_iconst (pc := 118) (v := 5) C dX6_readCode_118 (by decide) ?_
              exact sw_reti (pc := 119) C M dX6_readCode_119
      · refine sw_aloadn (pc := 66) 0 0 C dX6_readCode_66 rfl ?_
        refine sw_getI (pc := 67) C kfX6_9 hc.1 rfl dX6_readCode_67 ?_
        refine sw_bipush (pc := 70) (v := 8) C dX6_readCode_70 (by decide) ?_
        refine sw_icmp_ge (pc := 72) 79 C dX6_readCode_72 (by decide) ?_ ?_
        · refine sw_iconst (pc := 79) (v := (-1)) C dX6_readCode_79 (by decide) ?_
          exact sw_reti (pc := 80) C M dX6_readCode_80
        · refine sw_iconst (pc := 75) (v := 0) C dX6_readCode_75 (by decide) ?_
          refine sw_goto (pc := 76) 80 C dX6_readCode_76 (by decide) ?_
          exact sw_reti (pc := 80) C M dX6_readCode_80
    · refine sw_iloadn (pc := 25) 2 2 C dX6_readCode_25 rfl ?_
      refine sw_bipush (pc := 26) (v := 48) C dX6_readCode_26 (by decide) ?_
      refine sw_icmp_lt (pc := 28) 37 C dX6_readCode_28 (by decide) ?_ ?_
      · refine sw_iconst (pc := 37) (v := (-1)) C dX6_readCode_37 (by decide) ?_
        exact sw_reti (pc := 38) C M dX6_readCode_38
      · refine sw_iloadn (pc := 31) 2 2 C dX6_readCode_31 rfl ?_
        refine sw_bipush (pc := 32) (v := 57) C dX6_readCode_32 (by decide) ?_
        refine sw_icmp_le (pc := 34) 39 C dX6_readCode_34 (by decide) ?_ ?_
        · refine sw_aloadn (pc := 39) 0 0 C dX6_readCode_39 rfl ?_
          refine sw_aloadn (pc := 40) 0 0 C dX6_readCode_40 rfl ?_
          refine sw_getI (pc := 41) C kfX6_9 hc.1 rfl dX6_readCode_41 ?_
          refine sw_iconst (pc := 44) (v := 1) C dX6_readCode_44 (by decide) ?_
          refine sw_isub (pc := 45) C dX6_readCode_45 ?_
          refine sw_iloadn (pc := 46) 1 1 C dX6_readCode_46 rfl ?_
          refine sw_iconst (pc := 47) (v := 1) C dX6_readCode_47 (by decide) ?_
          refine sw_isub (pc := 48) C dX6_readCode_48 ?_
          refine sw_iloadn (pc := 49) 2 2 C dX6_readCode_49 rfl ?_
          refine sw_bipush (pc := 50) (v := 48) C dX6_readCode_50 (by decide) ?_
          refine sw_isub (pc := 52) C dX6_readCode_52 ?_
          refine sw_callVv (pc := 53) C (mX6_change hc ((σ c 0) - 1) (a0 - 1) (a1 - 48)) sgX6_change mlX6_50 dX6_readCode_53 (by decide) [.int ((σ c 0) - 1), .int (a0 - 1), .int (a1 - 48)] [] hc.1 rfl rfl rfl rfl (Nat.le_of_ble_eq_true rfl) (fun r4 σ5 => ?_)
          refine sw_iloadn (pc := 56) 1 1 C dX6_readCode_56 rfl ?_
          refine sw_iconst (pc := 57) (v := 1) C dX6_readCode_57 (by decide) ?_
          refine sw_iadd (pc := 58) C dX6_readCode_58 ?_
          exact sw_reti (pc := 59) C M dX6_readCode_59
        · refine sw_iconst (pc := 37) (v := (-1)) C dX6_readCode_37 (by decide) ?_
          exact sw_reti (pc := 38) C M dX6_readCode_38
  · refine sw_aloadn (pc := 4) 0 0 C dX6_readCode_4 rfl ?_
    refine sw_iloadn (pc := 5) 2 2 C dX6_readCode_5 rfl ?_
    refine sw_callVi (pc := 6) C (mX6_beginTooth hc a1) sgX6_beginTooth mlX6_47 dX6_readCode_6 (by decide) [.int a1] [] hc.1 rfl rfl rfl rfl (Nat.le_of_ble_eq_true rfl) (fun r6 σ7 => ?_)
    refine sw_if_eq (pc := 9) 18 C dX6_readCode_9 (by decide) ?_ ?_
    · refine sw_iconst (pc := 18) (v := (-1)) C dX6_readCode_18 (by decide) ?_
      exact sw_reti (pc := 19) C M dX6_readCode_19
    · refine sw_iloadn (pc := 12) 1 1 C dX6_readCode_12 rfl ?_
      refine sw_iconst (pc := 13) (v := 1) C dX6_readCode_13 (by decide) ?_
      refine sw_iadd (pc := 14) C dX6_readCode_14 ?_
      refine sw_goto (pc := 15) 19 C dX6_readCode_15 (by decide) ?_
      exact sw_reti (pc := 19) C M dX6_readCode_19
set_option maxRecDepth 100000 in
set_option maxHeartbeats 4000000 in
theorem jX6_read_L11 {X : sw_X} {ad : Nat → Nat} {t : Int32 × sw_St} (C : sw_C X ad cX6_read RX6 5) (hn : sw_nL X = 7) (M : sw_Mi X ad (some .int) t) {c : Nat} (hc : sw_saw c) : ∀ (n : Nat) (v2 : Int32) (v3 : Int32) (v4 : Int32) (v5 : Int32) (v6 : Int32) (σ : sw_St), sw_J X ad t 11 [(0, .ref (ad c)), (1, .ref (ad 1)), (2, .int v2), (3, .int v3), (4, .int v4), (5, .int v5), (6, .int v6)] [] σ (fX6_read_L11 c n v2 v3 v4 v5 v6 σ) := by
  intro n
  induction n with
  | zero => exact fun _ _ _ _ _ _ => sw_none
  | succ n ih =>
    intro v2 v3 v4 v5 v6 σ
    unfold fX6_read_L11
    refine sw_iload (pc := 11) 6 C dX6_read_11 rfl ?_
    refine sw_iload (pc := 13) 4 C dX6_read_13 rfl ?_
    refine sw_icmp_ge (pc := 15) 50 C dX6_read_15 (by decide) ?_ ?_
    · refine sw_iload (pc := 50) 5 C dX6_read_50 rfl ?_
      refine sw_iconst (pc := 52) (v := 4) C dX6_read_52 (by decide) ?_
      refine sw_icmp_eq (pc := 53) 62 C dX6_read_53 (by decide) ?_ ?_
      · refine sw_iconst (pc := 62) (v := (-1)) C dX6_read_62 (by decide) ?_
        refine sw_goto (pc := 63) 68 C dX6_read_63 (by decide) ?_
        exact sw_reti (pc := 68) C M dX6_read_68
      · refine sw_iload (pc := 56) 5 C dX6_read_56 rfl ?_
        refine sw_iconst (pc := 58) (v := 5) C dX6_read_58 (by decide) ?_
        refine sw_icmp_ne (pc := 59) 66 C dX6_read_59 (by decide) ?_ ?_
        · refine sw_iload (pc := 66) 4 C dX6_read_66 rfl ?_
          exact sw_reti (pc := 68) C M dX6_read_68
        · refine sw_iconst (pc := 62) (v := (-1)) C dX6_read_62 (by decide) ?_
          refine sw_goto (pc := 63) 68 C dX6_read_63 (by decide) ?_
          exact sw_reti (pc := 68) C M dX6_read_68
    · refine sw_aloadn (pc := 18) 0 0 C dX6_read_18 rfl ?_
      refine sw_iload (pc := 19) 5 C dX6_read_19 rfl ?_
      refine sw_aloadn (pc := 21) 1 1 C dX6_read_21 rfl ?_
      refine sw_iloadn (pc := 22) 2 2 C dX6_read_22 rfl ?_
      refine sw_iloadn (pc := 23) 3 3 C dX6_read_23 rfl ?_
      refine sw_iload (pc := 24) 6 C dX6_read_24 rfl ?_
      refine sw_iadd (pc := 26) C dX6_read_26 ?_
      refine sw_callVi (pc := 27) C (mX7_at v2 (v3 + v6)) sgX7_at mlX6_38 dX6_read_27 (by decide) [.int v2, .int (v3 + v6)] [.int v5, .ref (ad c)] sh1 rfl rfl rfl rfl (Nat.le_of_ble_eq_true rfl) (fun r2 σ3 => ?_)
      refine sw_callVi (pc := 30) C (mX6_readCode hc v5 r2) sgX6_readCode mlX6_44 dX6_read_30 (by decide) [.int v5, .int r2] [] hc.1 rfl rfl rfl rfl (Nat.le_of_ble_eq_true rfl) (fun r4 σ5 => ?_)
      refine sw_istore (pc := 33) [(5, .int r4), (0, .ref (ad c)), (1, .ref (ad 1)), (2, .int v2), (3, .int v3), (4, .int v4), (6, .int v6)] C dX6_read_33 (by rw [hn]; decide) rfl ?_
      refine sw_iload (pc := 35) 0 C dX6_read_35 rfl ?_
      refine sw_iconst (pc := 37) (v := (-1)) C dX6_read_37 (by decide) ?_
      refine sw_icmp_ne (pc := 38) 44 C dX6_read_38 (by decide) ?_ ?_
      · refine sw_iinc (pc := 44) (v6 + 1) 6 [(6, .int (v6 + 1)), (5, .int r4), (0, .ref (ad c)), (1, .ref (ad 1)), (2, .int v2), (3, .int v3), (4, .int v4)] C dX6_read_44 (by rw [hn]; decide) rfl rfl rfl ?_
        refine sw_goto (pc := 47) 11 C dX6_read_47 (by decide) ?_
        refine sw_lpick (pc := 11) (L' := [(0, .ref (ad c)), (1, .ref (ad 1)), (2, .int v2), (3, .int v3), (4, .int v4), (5, .int r4), (6, .int (v6 + 1))]) [2, 3, 4, 5, 6, 1, 0] rfl ?_
        exact ih _ _ _ _ _ _
      · refine sw_iload (pc := 41) 6 C dX6_read_41 rfl ?_
        exact sw_reti (pc := 43) C M dX6_read_43
set_option maxRecDepth 100000 in
set_option maxHeartbeats 4000000 in
theorem mX6_read {c : Nat} (hc : sw_saw c) (a1 : Int32) (a2 : Int32) (a3 : Int32) : sw_Ki yX6_read cX6_read 7 (some .int) 5 (fun ad => [.ref (ad c), .ref (ad 1), .int a1, .int a2, .int a3]) (fX6_read c a1 a2 a3) := by
  refine sw_enteri (by decide) (fun ad => Nat.le_of_ble_eq_true rfl) (fun X ad t σ C hn M => ?_)
  change sw_J X ad t 0 [(0, .ref (ad c)), (1, .ref (ad 1)), (2, .int a1), (3, .int a2), (4, .int a3)] [] σ _
  replace C : sw_C X ad cX6_read RX6 5 := C
  unfold fX6_read
  refine sw_aloadn (pc := 0) 0 0 C dX6_read_0 rfl ?_
  refine sw_iconst (pc := 1) (v := 0) C dX6_read_1 (by decide) ?_
  refine sw_putL (pc := 2) C kpX6_9 hc.1 rfl dX6_read_2 (fun σ1 => ?_)
  refine sw_iconst (pc := 5) (v := 0) C dX6_read_5 (by decide) ?_
  refine sw_istore (pc := 6) [(5, .int 0), (0, .ref (ad c)), (1, .ref (ad 1)), (2, .int a1), (3, .int a2), (4, .int a3)] C dX6_read_6 (by rw [hn]; decide) rfl ?_
  refine sw_iconst (pc := 8) (v := 0) C dX6_read_8 (by decide) ?_
  refine sw_istore (pc := 9) [(6, .int 0), (5, .int 0), (0, .ref (ad c)), (1, .ref (ad 1)), (2, .int a1), (3, .int a2), (4, .int a3)] C dX6_read_9 (by rw [hn]; decide) rfl ?_
  refine sw_lpick (pc := 11) (L' := [(0, .ref (ad c)), (1, .ref (ad 1)), (2, .int a1), (3, .int a2), (4, .int a3), (5, .int 0), (6, .int 0)]) [2, 3, 4, 5, 6, 1, 0] rfl ?_
  exact jX6_read_L11 C hn M hc _ _ _ _ _ _ _
set_option maxRecDepth 100000 in
set_option maxHeartbeats 4000000 in
theorem mX6_pushes {c : Nat} (hc : sw_saw c) (a0 : Int32) : sw_Ki yX6_pushes cX6_pushes 2 (some .int) 2 (fun ad => [.ref (ad c), .int a0]) (fX6_pushes c a0) := by
  refine sw_enteri (by decide) (fun ad => Nat.le_of_ble_eq_true rfl) (fun X ad t σ C hn M => ?_)
  change sw_J X ad t 0 [(0, .ref (ad c)), (1, .int a0)] [] σ _
  replace C : sw_C X ad cX6_pushes RX6 2 := C
  unfold fX6_pushes
  refine sw_aloadn (pc := 0) 0 0 C dX6_pushes_0 rfl ?_
  refine sw_iloadn (pc := 1) 1 1 C dX6_pushes_1 rfl ?_
  refine sw_callVi (pc := 2) C (mX6_takes hc a0) sgX6_takes mlX6_58 dX6_pushes_2 (by decide) [.int a0] [] hc.1 rfl rfl rfl rfl (Nat.le_of_ble_eq_true rfl) (fun r1 σ2 => ?_)
  refine sw_aloadn (pc := 5) 0 0 C dX6_pushes_5 rfl ?_
  refine sw_iloadn (pc := 6) 1 1 C dX6_pushes_6 rfl ?_
  refine sw_callVi (pc := 7) C (mX6_leaning hc a0) sgX6_leaning mlX6_61 dX6_pushes_7 (by decide) [.int a0] [.int r1] hc.1 rfl rfl rfl rfl (Nat.le_of_ble_eq_true rfl) (fun r3 σ4 => ?_)
  refine sw_imul (pc := 10) C dX6_pushes_10 ?_
  exact sw_reti (pc := 11) C M dX6_pushes_11
set_option maxRecDepth 100000 in
set_option maxHeartbeats 4000000 in
theorem jX6_taken_L4 {X : sw_X} {ad : Nat → Nat} {t : Int32 × sw_St} (C : sw_C X ad cX6_taken RX6 2) (hn : sw_nL X = 3) (M : sw_Mi X ad (some .int) t) {c : Nat} (hc : sw_saw c) : ∀ (n : Nat) (v1 : Int32) (v2 : Int32) (σ : sw_St), sw_J X ad t 4 [(0, .ref (ad c)), (1, .int v1), (2, .int v2)] [] σ (fX6_taken_L4 c n v1 v2 σ) := by
  intro n
  induction n with
  | zero => exact fun _ _ _ => sw_none
  | succ n ih =>
    intro v1 v2 σ
    unfold fX6_taken_L4
    refine sw_iloadn (pc := 4) 2 2 C dX6_taken_4 rfl ?_
    refine sw_aloadn (pc := 5) 0 0 C dX6_taken_5 rfl ?_
    refine sw_getI (pc := 6) C kfX6_9 hc.1 rfl dX6_taken_6 ?_
    refine sw_icmp_ge (pc := 9) 26 C dX6_taken_9 (by decide) ?_ ?_
    · refine sw_iloadn (pc := 26) 1 1 C dX6_taken_26 rfl ?_
      exact sw_reti (pc := 27) C M dX6_taken_27
    · refine sw_iloadn (pc := 12) 1 1 C dX6_taken_12 rfl ?_
      refine sw_aloadn (pc := 13) 0 0 C dX6_taken_13 rfl ?_
      refine sw_iloadn (pc := 14) 2 2 C dX6_taken_14 rfl ?_
      refine sw_callVi (pc := 15) C (mX6_takes hc v2) sgX6_takes mlX6_58 dX6_taken_15 (by decide) [.int v2] [.int v1] hc.1 rfl rfl rfl rfl (Nat.le_of_ble_eq_true rfl) (fun r1 σ2 => ?_)
      refine sw_iadd (pc := 18) C dX6_taken_18 ?_
      refine sw_leti (fun x3 => ?_)
      refine sw_istoren (pc := 19) 1 [(1, .int x3), (0, .ref (ad c)), (2, .int v2)] C dX6_taken_19 (by rw [hn]; decide) rfl ?_
      refine sw_iinc (pc := 20) (v2 + 1) 2 [(2, .int (v2 + 1)), (1, .int x3), (0, .ref (ad c))] C dX6_taken_20 (by rw [hn]; decide) rfl rfl rfl ?_
      refine sw_goto (pc := 23) 4 C dX6_taken_23 (by decide) ?_
      refine sw_lpick (pc := 4) (L' := [(0, .ref (ad c)), (1, .int x3), (2, .int (v2 + 1))]) [2, 1, 0] rfl ?_
      exact ih _ _ _
set_option maxRecDepth 100000 in
set_option maxHeartbeats 4000000 in
theorem mX6_taken {c : Nat} (hc : sw_saw c)  : sw_Ki yX6_taken cX6_taken 3 (some .int) 2 (fun ad => [.ref (ad c)]) (fX6_taken c) := by
  refine sw_enteri (by decide) (fun ad => Nat.le_of_ble_eq_true rfl) (fun X ad t σ C hn M => ?_)
  change sw_J X ad t 0 [(0, .ref (ad c))] [] σ _
  replace C : sw_C X ad cX6_taken RX6 2 := C
  unfold fX6_taken
  refine sw_iconst (pc := 0) (v := 0) C dX6_taken_0 (by decide) ?_
  refine sw_istoren (pc := 1) 1 [(1, .int 0), (0, .ref (ad c))] C dX6_taken_1 (by rw [hn]; decide) rfl ?_
  refine sw_iconst (pc := 2) (v := 0) C dX6_taken_2 (by decide) ?_
  refine sw_istoren (pc := 3) 2 [(2, .int 0), (1, .int 0), (0, .ref (ad c))] C dX6_taken_3 (by rw [hn]; decide) rfl ?_
  refine sw_lpick (pc := 4) (L' := [(0, .ref (ad c)), (1, .int 0), (2, .int 0)]) [2, 1, 0] rfl ?_
  exact jX6_taken_L4 C hn M hc _ _ _ _
set_option maxRecDepth 100000 in
set_option maxHeartbeats 4000000 in
theorem jX6_isMarkedAhead_B30 {X : sw_X} {ad : Nat → Nat} {t : Int32 × sw_St} (C : sw_C X ad cX6_isMarkedAhead RX6 2) (hn : sw_nL X = 3) (M : sw_Mi X ad (some .boolean) t) {c : Nat} (hc : sw_saw c) {K2 : Int32 → Int32 → sw_St → Option (Int32 × sw_St)} (hK2 : ∀ (z1 : Int32) (z2 : Int32) (τ : sw_St), sw_J X ad t 2 [(0, .ref (ad c)), (1, .int z1), (2, .int z2)] [] τ (K2 z1 z2 τ)) (v1 : Int32) (v2 : Int32) (σ : sw_St) : sw_J X ad t 30 [(0, .ref (ad c)), (1, .int v1), (2, .int v2)] [] σ (fX6_isMarkedAhead_B30 K2 c v1 v2 σ) := by
  unfold fX6_isMarkedAhead_B30
  refine sw_iinc (pc := 30) (v2 + 1) 2 [(2, .int (v2 + 1)), (0, .ref (ad c)), (1, .int v1)] C dX6_isMarkedAhead_30 (by rw [hn]; decide) rfl rfl rfl ?_
  refine sw_goto (pc := 33) 2 C dX6_isMarkedAhead_33 (by decide) ?_
  refine sw_lpick (pc := 2) (L' := [(0, .ref (ad c)), (1, .int v1), (2, .int (v2 + 1))]) [1, 2, 0] rfl ?_
  exact hK2 _ _ _
set_option maxRecDepth 100000 in
set_option maxHeartbeats 4000000 in
theorem jX6_isMarkedAhead_L2 {X : sw_X} {ad : Nat → Nat} {t : Int32 × sw_St} (C : sw_C X ad cX6_isMarkedAhead RX6 2) (hn : sw_nL X = 3) (M : sw_Mi X ad (some .boolean) t) {c : Nat} (hc : sw_saw c) : ∀ (n : Nat) (v1 : Int32) (v2 : Int32) (σ : sw_St), sw_J X ad t 2 [(0, .ref (ad c)), (1, .int v1), (2, .int v2)] [] σ (fX6_isMarkedAhead_L2 c n v1 v2 σ) := by
  intro n
  induction n with
  | zero => exact fun _ _ _ => sw_none
  | succ n ih =>
    intro v1 v2 σ
    unfold fX6_isMarkedAhead_L2
    refine sw_iloadn (pc := 2) 2 2 C dX6_isMarkedAhead_2 rfl ?_
    refine sw_iloadn (pc := 3) 1 1 C dX6_isMarkedAhead_3 rfl ?_
    refine sw_icmp_ge (pc := 4) 36 C dX6_isMarkedAhead_4 (by decide) ?_ ?_
    · refine sw_iconst (pc := 36) (v := 0) C dX6_isMarkedAhead_36 (by decide) ?_
      exact sw_retiz (pc := 37) rfl C M dX6_isMarkedAhead_37
    · refine sw_aloadn (pc := 7) 0 0 C dX6_isMarkedAhead_7 rfl ?_
      refine sw_iloadn (pc := 8) 2 2 C dX6_isMarkedAhead_8 rfl ?_
      refine sw_callVi (pc := 9) C (mX6_takes hc v2) sgX6_takes mlX6_58 dX6_isMarkedAhead_9 (by decide) [.int v2] [] hc.1 rfl rfl rfl rfl (Nat.le_of_ble_eq_true rfl) (fun r1 σ2 => ?_)
      refine sw_if_le (pc := 12) 30 C dX6_isMarkedAhead_12 (by decide) ?_ ?_
      · exact jX6_isMarkedAhead_B30 C hn M hc ih _ _ _
      · refine sw_aloadn (pc := 15) 0 0 C dX6_isMarkedAhead_15 rfl ?_
        refine sw_iloadn (pc := 16) 2 2 C dX6_isMarkedAhead_16 rfl ?_
        refine sw_callVi (pc := 17) C (mX6_leaning hc v2) sgX6_leaning mlX6_61 dX6_isMarkedAhead_17 (by decide) [.int v2] [] hc.1 rfl rfl rfl rfl (Nat.le_of_ble_eq_true rfl) (fun r3 σ4 => ?_)
        refine sw_aloadn (pc := 20) 0 0 C dX6_isMarkedAhead_20 rfl ?_
        refine sw_iloadn (pc := 21) 1 1 C dX6_isMarkedAhead_21 rfl ?_
        refine sw_callVi (pc := 22) C (mX6_leaning hc v1) sgX6_leaning mlX6_61 dX6_isMarkedAhead_22 (by decide) [.int v1] [.int r3] hc.1 rfl rfl rfl rfl (Nat.le_of_ble_eq_true rfl) (fun r5 σ6 => ?_)
        refine sw_icmp_ne (pc := 25) 30 C dX6_isMarkedAhead_25 (by decide) ?_ ?_
        · exact jX6_isMarkedAhead_B30 C hn M hc ih _ _ _
        · refine sw_iconst (pc := 28) (v := 1) C dX6_isMarkedAhead_28 (by decide) ?_
          exact sw_retiz (pc := 29) rfl C M dX6_isMarkedAhead_29
set_option maxRecDepth 100000 in
set_option maxHeartbeats 4000000 in
theorem mX6_isMarkedAhead {c : Nat} (hc : sw_saw c) (a0 : Int32) : sw_Ki yX6_isMarkedAhead cX6_isMarkedAhead 3 (some .boolean) 2 (fun ad => [.ref (ad c), .int a0]) (fX6_isMarkedAhead c a0) := by
  refine sw_enteri (by decide) (fun ad => Nat.le_of_ble_eq_true rfl) (fun X ad t σ C hn M => ?_)
  change sw_J X ad t 0 [(0, .ref (ad c)), (1, .int a0)] [] σ _
  replace C : sw_C X ad cX6_isMarkedAhead RX6 2 := C
  unfold fX6_isMarkedAhead
  refine sw_iconst (pc := 0) (v := 0) C dX6_isMarkedAhead_0 (by decide) ?_
  refine sw_istoren (pc := 1) 2 [(2, .int 0), (0, .ref (ad c)), (1, .int a0)] C dX6_isMarkedAhead_1 (by rw [hn]; decide) rfl ?_
  refine sw_lpick (pc := 2) (L' := [(0, .ref (ad c)), (1, .int a0), (2, .int 0)]) [1, 2, 0] rfl ?_
  exact jX6_isMarkedAhead_L2 C hn M hc _ _ _ _
set_option maxRecDepth 100000 in
set_option maxHeartbeats 4000000 in
theorem jX6_countMarks_B31 {X : sw_X} {ad : Nat → Nat} {t : Int32 × sw_St} (C : sw_C X ad cX6_countMarks RX6 3) (hn : sw_nL X = 3) (M : sw_Mi X ad (some .int) t) {c : Nat} (hc : sw_saw c) {K4 : Int32 → Int32 → sw_St → Option (Int32 × sw_St)} (hK4 : ∀ (z1 : Int32) (z2 : Int32) (τ : sw_St), sw_J X ad t 4 [(0, .ref (ad c)), (1, .int z1), (2, .int z2)] [] τ (K4 z1 z2 τ)) (v1 : Int32) (v2 : Int32) (σ : sw_St) : sw_J X ad t 31 [(0, .ref (ad c)), (1, .int v1), (2, .int v2)] [] σ (fX6_countMarks_B31 K4 c v1 v2 σ) := by
  unfold fX6_countMarks_B31
  refine sw_iinc (pc := 31) (v2 + 1) 2 [(2, .int (v2 + 1)), (0, .ref (ad c)), (1, .int v1)] C dX6_countMarks_31 (by rw [hn]; decide) rfl rfl rfl ?_
  refine sw_goto (pc := 34) 4 C dX6_countMarks_34 (by decide) ?_
  refine sw_lpick (pc := 4) (L' := [(0, .ref (ad c)), (1, .int v1), (2, .int (v2 + 1))]) [1, 2, 0] rfl ?_
  exact hK4 _ _ _
set_option maxRecDepth 100000 in
set_option maxHeartbeats 4000000 in
theorem jX6_countMarks_L4 {X : sw_X} {ad : Nat → Nat} {t : Int32 × sw_St} (C : sw_C X ad cX6_countMarks RX6 3) (hn : sw_nL X = 3) (M : sw_Mi X ad (some .int) t) {c : Nat} (hc : sw_saw c) : ∀ (n : Nat) (v1 : Int32) (v2 : Int32) (σ : sw_St), sw_J X ad t 4 [(0, .ref (ad c)), (1, .int v1), (2, .int v2)] [] σ (fX6_countMarks_L4 c n v1 v2 σ) := by
  intro n
  induction n with
  | zero => exact fun _ _ _ => sw_none
  | succ n ih =>
    intro v1 v2 σ
    unfold fX6_countMarks_L4
    refine sw_iloadn (pc := 4) 2 2 C dX6_countMarks_4 rfl ?_
    refine sw_aloadn (pc := 5) 0 0 C dX6_countMarks_5 rfl ?_
    refine sw_getI (pc := 6) C kfX6_9 hc.1 rfl dX6_countMarks_6 ?_
    refine sw_icmp_ge (pc := 9) 37 C dX6_countMarks_9 (by decide) ?_ ?_
    · refine sw_iloadn (pc := 37) 1 1 C dX6_countMarks_37 rfl ?_
      exact sw_reti (pc := 38) C M dX6_countMarks_38
    · refine sw_aloadn (pc := 12) 0 0 C dX6_countMarks_12 rfl ?_
      refine sw_iloadn (pc := 13) 2 2 C dX6_countMarks_13 rfl ?_
      refine sw_callVi (pc := 14) C (mX6_takes hc v2) sgX6_takes mlX6_58 dX6_countMarks_14 (by decide) [.int v2] [] hc.1 rfl rfl rfl rfl (Nat.le_of_ble_eq_true rfl) (fun r1 σ2 => ?_)
      refine sw_if_le (pc := 17) 31 C dX6_countMarks_17 (by decide) ?_ ?_
      · exact jX6_countMarks_B31 C hn M hc ih _ _ _
      · refine sw_aloadn (pc := 20) 0 0 C dX6_countMarks_20 rfl ?_
        refine sw_iloadn (pc := 21) 2 2 C dX6_countMarks_21 rfl ?_
        refine sw_callVi (pc := 22) C (mX6_isMarkedAhead hc v2) sgX6_isMarkedAhead mlX6_69 dX6_countMarks_22 (by decide) [.int v2] [] hc.1 rfl rfl rfl rfl (Nat.le_of_ble_eq_true rfl) (fun r3 σ4 => ?_)
        refine sw_if_ne (pc := 25) 31 C dX6_countMarks_25 (by decide) ?_ ?_
        · exact jX6_countMarks_B31 C hn M hc ih _ _ _
        · refine sw_iinc (pc := 28) (v1 + 1) 1 [(1, .int (v1 + 1)), (0, .ref (ad c)), (2, .int v2)] C dX6_countMarks_28 (by rw [hn]; decide) rfl rfl rfl ?_
          refine sw_lpick (pc := 31) (L' := [(0, .ref (ad c)), (1, .int (v1 + 1)), (2, .int v2)]) [1, 0, 2] rfl ?_
          exact jX6_countMarks_B31 C hn M hc ih _ _ _
set_option maxRecDepth 100000 in
set_option maxHeartbeats 4000000 in
theorem mX6_countMarks {c : Nat} (hc : sw_saw c)  : sw_Ki yX6_countMarks cX6_countMarks 3 (some .int) 3 (fun ad => [.ref (ad c)]) (fX6_countMarks c) := by
  refine sw_enteri (by decide) (fun ad => Nat.le_of_ble_eq_true rfl) (fun X ad t σ C hn M => ?_)
  change sw_J X ad t 0 [(0, .ref (ad c))] [] σ _
  replace C : sw_C X ad cX6_countMarks RX6 3 := C
  unfold fX6_countMarks
  refine sw_iconst (pc := 0) (v := 0) C dX6_countMarks_0 (by decide) ?_
  refine sw_istoren (pc := 1) 1 [(1, .int 0), (0, .ref (ad c))] C dX6_countMarks_1 (by rw [hn]; decide) rfl ?_
  refine sw_iconst (pc := 2) (v := 0) C dX6_countMarks_2 (by decide) ?_
  refine sw_istoren (pc := 3) 2 [(2, .int 0), (1, .int 0), (0, .ref (ad c))] C dX6_countMarks_3 (by rw [hn]; decide) rfl ?_
  refine sw_lpick (pc := 4) (L' := [(0, .ref (ad c)), (1, .int 0), (2, .int 0)]) [2, 1, 0] rfl ?_
  exact jX6_countMarks_L4 C hn M hc _ _ _ _
set_option maxRecDepth 100000 in
set_option maxHeartbeats 4000000 in
theorem jX6_whichLeave_B42 {X : sw_X} {ad : Nat → Nat} {t : Int32 × sw_St} (C : sw_C X ad cX6_whichLeave RX6 2) (hn : sw_nL X = 5) (M : sw_Mi X ad (some .int) t) {c : Nat} (hc : sw_saw c) {K5 : Int32 → Int32 → Int32 → Int32 → sw_St → Option (Int32 × sw_St)} (hK5 : ∀ (z1 : Int32) (z2 : Int32) (z3 : Int32) (z4 : Int32) (τ : sw_St), sw_J X ad t 5 [(0, .ref (ad c)), (1, .int z1), (2, .int z2), (3, .int z3), (4, .int z4)] [] τ (K5 z1 z2 z3 z4 τ)) (v1 : Int32) (v2 : Int32) (v3 : Int32) (v4 : Int32) (σ : sw_St) : sw_J X ad t 42 [(0, .ref (ad c)), (1, .int v1), (2, .int v2), (3, .int v3), (4, .int v4)] [] σ (fX6_whichLeave_B42 K5 c v1 v2 v3 v4 σ) := by
  unfold fX6_whichLeave_B42
  refine sw_iinc (pc := 42) (v4 + 1) 4 [(4, .int (v4 + 1)), (0, .ref (ad c)), (1, .int v1), (2, .int v2), (3, .int v3)] C dX6_whichLeave_42 (by rw [hn]; decide) rfl rfl rfl ?_
  refine sw_goto (pc := 45) 5 C dX6_whichLeave_45 (by decide) ?_
  refine sw_lpick (pc := 5) (L' := [(0, .ref (ad c)), (1, .int v1), (2, .int v2), (3, .int v3), (4, .int (v4 + 1))]) [1, 2, 3, 4, 0] rfl ?_
  exact hK5 _ _ _ _ _
set_option maxRecDepth 100000 in
set_option maxHeartbeats 4000000 in
theorem jX6_whichLeave_L5 {X : sw_X} {ad : Nat → Nat} {t : Int32 × sw_St} (C : sw_C X ad cX6_whichLeave RX6 2) (hn : sw_nL X = 5) (M : sw_Mi X ad (some .int) t) {c : Nat} (hc : sw_saw c) : ∀ (n : Nat) (v1 : Int32) (v2 : Int32) (v3 : Int32) (v4 : Int32) (σ : sw_St), sw_J X ad t 5 [(0, .ref (ad c)), (1, .int v1), (2, .int v2), (3, .int v3), (4, .int v4)] [] σ (fX6_whichLeave_L5 c n v1 v2 v3 v4 σ) := by
  intro n
  induction n with
  | zero => exact fun _ _ _ _ _ => sw_none
  | succ n ih =>
    intro v1 v2 v3 v4 σ
    unfold fX6_whichLeave_L5
    refine sw_iload (pc := 5) 4 C dX6_whichLeave_5 rfl ?_
    refine sw_aloadn (pc := 7) 0 0 C dX6_whichLeave_7 rfl ?_
    refine sw_getI (pc := 8) C kfX6_9 hc.1 rfl dX6_whichLeave_8 ?_
    refine sw_icmp_ge (pc := 11) 48 C dX6_whichLeave_11 (by decide) ?_ ?_
    · refine sw_iloadn (pc := 48) 3 3 C dX6_whichLeave_48 rfl ?_
      exact sw_reti (pc := 49) C M dX6_whichLeave_49
    · refine sw_aloadn (pc := 14) 0 0 C dX6_whichLeave_14 rfl ?_
      refine sw_iload (pc := 15) 4 C dX6_whichLeave_15 rfl ?_
      refine sw_callVi (pc := 17) C (mX6_takes hc v4) sgX6_takes mlX6_58 dX6_whichLeave_17 (by decide) [.int v4] [] hc.1 rfl rfl rfl rfl (Nat.le_of_ble_eq_true rfl) (fun r1 σ2 => ?_)
      refine sw_if_le (pc := 20) 42 C dX6_whichLeave_20 (by decide) ?_ ?_
      · exact jX6_whichLeave_B42 C hn M hc ih _ _ _ _ _
      · refine sw_iloadn (pc := 23) 1 1 C dX6_whichLeave_23 rfl ?_
        refine sw_aloadn (pc := 24) 0 0 C dX6_whichLeave_24 rfl ?_
        refine sw_iload (pc := 25) 4 C dX6_whichLeave_25 rfl ?_
        refine sw_callVi (pc := 27) C (mX6_leaning hc v4) sgX6_leaning mlX6_61 dX6_whichLeave_27 (by decide) [.int v4] [.int v1] hc.1 rfl rfl rfl rfl (Nat.le_of_ble_eq_true rfl) (fun r3 σ4 => ?_)
        refine sw_iadd (pc := 30) C dX6_whichLeave_30 ?_
        refine sw_iloadn (pc := 31) 2 2 C dX6_whichLeave_31 rfl ?_
        refine sw_icmp_ne (pc := 32) 42 C dX6_whichLeave_32 (by decide) ?_ ?_
        · exact jX6_whichLeave_B42 C hn M hc ih _ _ _ _ _
        · refine sw_iloadn (pc := 35) 3 3 C dX6_whichLeave_35 rfl ?_
          refine sw_iconst (pc := 36) (v := 1) C dX6_whichLeave_36 (by decide) ?_
          refine sw_iload (pc := 37) 4 C dX6_whichLeave_37 rfl ?_
          refine sw_ishl (pc := 39) C dX6_whichLeave_39 ?_
          refine sw_ior (pc := 40) C dX6_whichLeave_40 ?_
          refine sw_leti (fun x5 => ?_)
          refine sw_istoren (pc := 41) 3 [(3, .int x5), (0, .ref (ad c)), (1, .int v1), (2, .int v2), (4, .int v4)] C dX6_whichLeave_41 (by rw [hn]; decide) rfl ?_
          refine sw_lpick (pc := 42) (L' := [(0, .ref (ad c)), (1, .int v1), (2, .int v2), (3, .int x5), (4, .int v4)]) [1, 2, 3, 0, 4] rfl ?_
          exact jX6_whichLeave_B42 C hn M hc ih _ _ _ _ _
set_option maxRecDepth 100000 in
set_option maxHeartbeats 4000000 in
theorem mX6_whichLeave {c : Nat} (hc : sw_saw c) (a0 : Int32) (a1 : Int32) : sw_Ki yX6_whichLeave cX6_whichLeave 5 (some .int) 2 (fun ad => [.ref (ad c), .int a0, .int a1]) (fX6_whichLeave c a0 a1) := by
  refine sw_enteri (by decide) (fun ad => Nat.le_of_ble_eq_true rfl) (fun X ad t σ C hn M => ?_)
  change sw_J X ad t 0 [(0, .ref (ad c)), (1, .int a0), (2, .int a1)] [] σ _
  replace C : sw_C X ad cX6_whichLeave RX6 2 := C
  unfold fX6_whichLeave
  refine sw_iconst (pc := 0) (v := 0) C dX6_whichLeave_0 (by decide) ?_
  refine sw_istoren (pc := 1) 3 [(3, .int 0), (0, .ref (ad c)), (1, .int a0), (2, .int a1)] C dX6_whichLeave_1 (by rw [hn]; decide) rfl ?_
  refine sw_iconst (pc := 2) (v := 0) C dX6_whichLeave_2 (by decide) ?_
  refine sw_istore (pc := 3) [(4, .int 0), (3, .int 0), (0, .ref (ad c)), (1, .int a0), (2, .int a1)] C dX6_whichLeave_3 (by rw [hn]; decide) rfl ?_
  refine sw_lpick (pc := 5) (L' := [(0, .ref (ad c)), (1, .int a0), (2, .int a1), (3, .int 0), (4, .int 0)]) [2, 3, 4, 1, 0] rfl ?_
  exact jX6_whichLeave_L5 C hn M hc _ _ _ _ _ _
set_option maxRecDepth 100000 in
set_option maxHeartbeats 4000000 in
theorem mX6_fileIt {c : Nat} (hc : sw_saw c) (a0 : Int32) : sw_Ki yX6_fileIt cX6_fileIt 4 (some .boolean) 3 (fun ad => [.ref (ad c), .int a0]) (fX6_fileIt c a0) := by
  refine sw_enteri (by decide) (fun ad => Nat.le_of_ble_eq_true rfl) (fun X ad t σ C hn M => ?_)
  change sw_J X ad t 0 [(0, .ref (ad c)), (1, .int a0)] [] σ _
  replace C : sw_C X ad cX6_fileIt RX6 3 := C
  unfold fX6_fileIt
  refine sw_aloadn (pc := 0) 0 0 C dX6_fileIt_0 rfl ?_
  refine sw_iloadn (pc := 1) 1 1 C dX6_fileIt_1 rfl ?_
  refine sw_iconst (pc := 2) (v := 2) C dX6_fileIt_2 (by decide) ?_
  refine sw_callVi (pc := 3) C (mX6_sizeOf hc a0 2) sgX6_sizeOf mlX6_82 dX6_fileIt_3 (by decide) [.int a0, .int 2] [] hc.1 rfl rfl rfl rfl (Nat.le_of_ble_eq_true rfl) (fun r1 σ2 => ?_)
  refine sw_iconst (pc := 6) (v := 2) C dX6_fileIt_6 (by decide) ?_
  refine sw_iadd (pc := 7) C dX6_fileIt_7 ?_
  refine sw_leti (fun x3 => ?_)
  refine sw_istoren (pc := 8) 2 [(2, .int x3), (0, .ref (ad c)), (1, .int a0)] C dX6_fileIt_8 (by rw [hn]; decide) rfl ?_
  refine sw_aloadn (pc := 9) 0 1 C dX6_fileIt_9 rfl ?_
  refine sw_iloadn (pc := 10) 1 2 C dX6_fileIt_10 rfl ?_
  refine sw_iconst (pc := 11) (v := 1) C dX6_fileIt_11 (by decide) ?_
  refine sw_callVi (pc := 12) C (mX6_sizeOf hc a0 1) sgX6_sizeOf mlX6_82 dX6_fileIt_12 (by decide) [.int a0, .int 1] [] hc.1 rfl rfl rfl rfl (Nat.le_of_ble_eq_true rfl) (fun r4 σ5 => ?_)
  refine sw_iconst (pc := 15) (v := 1) C dX6_fileIt_15 (by decide) ?_
  refine sw_isub (pc := 16) C dX6_fileIt_16 ?_
  refine sw_leti (fun x6 => ?_)
  refine sw_istoren (pc := 17) 3 [(3, .int x6), (2, .int x3), (0, .ref (ad c)), (1, .int a0)] C dX6_fileIt_17 (by rw [hn]; decide) rfl ?_
  refine sw_iloadn (pc := 18) 2 1 C dX6_fileIt_18 rfl ?_
  refine sw_bipush (pc := 19) (v := 9) C dX6_fileIt_19 (by decide) ?_
  refine sw_icmp_gt (pc := 21) 28 C dX6_fileIt_21 (by decide) ?_ ?_
  · refine sw_iconst (pc := 28) (v := 0) C dX6_fileIt_28 (by decide) ?_
    exact sw_retiz (pc := 29) rfl C M dX6_fileIt_29
  · refine sw_iloadn (pc := 24) 3 0 C dX6_fileIt_24 rfl ?_
    refine sw_if_ge (pc := 25) 30 C dX6_fileIt_25 (by decide) ?_ ?_
    · refine sw_aloadn (pc := 30) 0 2 C dX6_fileIt_30 rfl ?_
      refine sw_iloadn (pc := 31) 1 3 C dX6_fileIt_31 rfl ?_
      refine sw_iconst (pc := 32) (v := 2) C dX6_fileIt_32 (by decide) ?_
      refine sw_iloadn (pc := 33) 2 1 C dX6_fileIt_33 rfl ?_
      refine sw_callVv (pc := 34) C (mX6_change hc a0 2 x3) sgX6_change mlX6_50 dX6_fileIt_34 (by decide) [.int a0, .int 2, .int x3] [] hc.1 rfl rfl rfl rfl (Nat.le_of_ble_eq_true rfl) (fun r7 σ8 => ?_)
      refine sw_aloadn (pc := 37) 0 2 C dX6_fileIt_37 rfl ?_
      refine sw_iloadn (pc := 38) 1 3 C dX6_fileIt_38 rfl ?_
      refine sw_iconst (pc := 39) (v := 1) C dX6_fileIt_39 (by decide) ?_
      refine sw_iloadn (pc := 40) 3 0 C dX6_fileIt_40 rfl ?_
      refine sw_callVv (pc := 41) C (mX6_change hc a0 1 x6) sgX6_change mlX6_50 dX6_fileIt_41 (by decide) [.int a0, .int 1, .int x6] [] hc.1 rfl rfl rfl rfl (Nat.le_of_ble_eq_true rfl) (fun r9 σ10 => ?_)
      refine sw_iconst (pc := 44) (v := 1) C dX6_fileIt_44 (by decide) ?_
      exact sw_retiz (pc := 45) rfl C M dX6_fileIt_45
    · refine sw_iconst (pc := 28) (v := 0) C dX6_fileIt_28 (by decide) ?_
      exact sw_retiz (pc := 29) rfl C M dX6_fileIt_29
set_option maxRecDepth 100000 in
set_option maxHeartbeats 4000000 in
theorem mX6_bendBy {c : Nat} (hc : sw_saw c) (a0 : Int32) (a1 : Int32) : sw_Ki yX6_bendBy cX6_bendBy 4 (some .boolean) 3 (fun ad => [.ref (ad c), .int a0, .int a1]) (fX6_bendBy c a0 a1) := by
  refine sw_enteri (by decide) (fun ad => Nat.le_of_ble_eq_true rfl) (fun X ad t σ C hn M => ?_)
  change sw_J X ad t 0 [(0, .ref (ad c)), (1, .int a0), (2, .int a1)] [] σ _
  replace C : sw_C X ad cX6_bendBy RX6 3 := C
  unfold fX6_bendBy
  refine sw_aloadn (pc := 0) 0 0 C dX6_bendBy_0 rfl ?_
  refine sw_iloadn (pc := 1) 1 1 C dX6_bendBy_1 rfl ?_
  refine sw_iconst (pc := 2) (v := 0) C dX6_bendBy_2 (by decide) ?_
  refine sw_callVi (pc := 3) C (mX6_sizeOf hc a0 0) sgX6_sizeOf mlX6_82 dX6_bendBy_3 (by decide) [.int a0, .int 0] [] hc.1 rfl rfl rfl rfl (Nat.le_of_ble_eq_true rfl) (fun r1 σ2 => ?_)
  refine sw_iloadn (pc := 6) 2 2 C dX6_bendBy_6 rfl ?_
  refine sw_iadd (pc := 7) C dX6_bendBy_7 ?_
  refine sw_leti (fun x3 => ?_)
  refine sw_istoren (pc := 8) 3 [(3, .int x3), (0, .ref (ad c)), (1, .int a0), (2, .int a1)] C dX6_bendBy_8 (by rw [hn]; decide) rfl ?_
  refine sw_aloadn (pc := 9) 0 1 C dX6_bendBy_9 rfl ?_
  refine sw_iloadn (pc := 10) 1 2 C dX6_bendBy_10 rfl ?_
  refine sw_callVi (pc := 11) C (mX6_kindOf hc a0) sgX6_kindOf mlX6_54 dX6_bendBy_11 (by decide) [.int a0] [] hc.1 rfl rfl rfl rfl (Nat.le_of_ble_eq_true rfl) (fun r4 σ5 => ?_)
  refine sw_if_eq (pc := 14) 27 C dX6_bendBy_14 (by decide) ?_ ?_
  · refine sw_iconst (pc := 27) (v := 0) C dX6_bendBy_27 (by decide) ?_
    exact sw_retiz (pc := 28) rfl C M dX6_bendBy_28
  · refine sw_iloadn (pc := 17) 3 0 C dX6_bendBy_17 rfl ?_
    refine sw_if_lt (pc := 18) 27 C dX6_bendBy_18 (by decide) ?_ ?_
    · refine sw_iconst (pc := 27) (v := 0) C dX6_bendBy_27 (by decide) ?_
      exact sw_retiz (pc := 28) rfl C M dX6_bendBy_28
    · refine sw_iloadn (pc := 21) 3 0 C dX6_bendBy_21 rfl ?_
      refine sw_bipush (pc := 22) (v := 9) C dX6_bendBy_22 (by decide) ?_
      refine sw_icmp_le (pc := 24) 29 C dX6_bendBy_24 (by decide) ?_ ?_
      · refine sw_aloadn (pc := 29) 0 1 C dX6_bendBy_29 rfl ?_
        refine sw_iloadn (pc := 30) 1 2 C dX6_bendBy_30 rfl ?_
        refine sw_iconst (pc := 31) (v := 0) C dX6_bendBy_31 (by decide) ?_
        refine sw_iloadn (pc := 32) 3 0 C dX6_bendBy_32 rfl ?_
        refine sw_callVv (pc := 33) C (mX6_change hc a0 0 x3) sgX6_change mlX6_50 dX6_bendBy_33 (by decide) [.int a0, .int 0, .int x3] [] hc.1 rfl rfl rfl rfl (Nat.le_of_ble_eq_true rfl) (fun r6 σ7 => ?_)
        refine sw_iconst (pc := 36) (v := 1) C dX6_bendBy_36 (by decide) ?_
        exact sw_retiz (pc := 37) rfl C M dX6_bendBy_37
      · refine sw_iconst (pc := 27) (v := 0) C dX6_bendBy_27 (by decide) ?_
        exact sw_retiz (pc := 28) rfl C M dX6_bendBy_28
set_option maxRecDepth 100000 in
set_option maxHeartbeats 4000000 in
theorem mX6_breakOff {c : Nat} (hc : sw_saw c) (a0 : Int32) : sw_Ki yX6_breakOff cX6_breakOff 2 (some .boolean) 3 (fun ad => [.ref (ad c), .int a0]) (fX6_breakOff c a0) := by
  refine sw_enteri (by decide) (fun ad => Nat.le_of_ble_eq_true rfl) (fun X ad t σ C hn M => ?_)
  change sw_J X ad t 0 [(0, .ref (ad c)), (1, .int a0)] [] σ _
  replace C : sw_C X ad cX6_breakOff RX6 3 := C
  unfold fX6_breakOff
  refine sw_aloadn (pc := 0) 0 0 C dX6_breakOff_0 rfl ?_
  refine sw_iloadn (pc := 1) 1 1 C dX6_breakOff_1 rfl ?_
  refine sw_iconst (pc := 2) (v := 1) C dX6_breakOff_2 (by decide) ?_
  refine sw_callVi (pc := 3) C (mX6_sizeOf hc a0 1) sgX6_sizeOf mlX6_82 dX6_breakOff_3 (by decide) [.int a0, .int 1] [] hc.1 rfl rfl rfl rfl (Nat.le_of_ble_eq_true rfl) (fun r1 σ2 => ?_)
  refine sw_if_ne (pc := 6) 11 C dX6_breakOff_6 (by decide) ?_ ?_
  · refine sw_aloadn (pc := 11) 0 0 C dX6_breakOff_11 rfl ?_
    refine sw_iloadn (pc := 12) 1 1 C dX6_breakOff_12 rfl ?_
    refine sw_iconst (pc := 13) (v := 1) C dX6_breakOff_13 (by decide) ?_
    refine sw_iconst (pc := 14) (v := 0) C dX6_breakOff_14 (by decide) ?_
    refine sw_callVv (pc := 15) C (mX6_change hc a0 1 0) sgX6_change mlX6_50 dX6_breakOff_15 (by decide) [.int a0, .int 1, .int 0] [] hc.1 rfl rfl rfl rfl (Nat.le_of_ble_eq_true rfl) (fun r3 σ4 => ?_)
    refine sw_iconst (pc := 18) (v := 1) C dX6_breakOff_18 (by decide) ?_
    exact sw_retiz (pc := 19) rfl C M dX6_breakOff_19
  · refine sw_iconst (pc := 9) (v := 0) C dX6_breakOff_9 (by decide) ?_
    exact sw_retiz (pc := 10) rfl C M dX6_breakOff_10
set_option maxRecDepth 100000 in
set_option maxHeartbeats 4000000 in
theorem mX6_mendBy {c : Nat} (hc : sw_saw c) (a0 : Int32) (a1 : Int32) : sw_Ki yX6_mendBy cX6_mendBy 3 (some .boolean) 4 (fun ad => [.ref (ad c), .int a0, .int a1]) (fX6_mendBy c a0 a1) := by
  refine sw_enteri (by decide) (fun ad => Nat.le_of_ble_eq_true rfl) (fun X ad t σ C hn M => ?_)
  change sw_J X ad t 0 [(0, .ref (ad c)), (1, .int a0), (2, .int a1)] [] σ _
  replace C : sw_C X ad cX6_mendBy RX6 4 := C
  unfold fX6_mendBy
  refine sw_iloadn (pc := 0) 2 2 C dX6_mendBy_0 rfl ?_
  refine sw_ite (fun h1 => ?_) (fun h1 => ?_)
  · refine sw_tabIn (pc := 1) (off := 31) 32 C dX6_mendBy_1 (by rw [h1]; decide) (by rw [h1]; decide) (by rw [h1]; rfl) (by decide) ?_
    refine sw_aloadn (pc := 32) 0 0 C dX6_mendBy_32 rfl ?_
    refine sw_iloadn (pc := 33) 1 1 C dX6_mendBy_33 rfl ?_
    refine sw_callVi (pc := 34) C (mX6_fileIt hc a0) sgX6_fileIt mlX6_72 dX6_mendBy_34 (by decide) [.int a0] [] hc.1 rfl rfl rfl rfl (Nat.le_of_ble_eq_true rfl) (fun r2 σ3 => ?_)
    exact sw_retizg (pc := 37) C M dX6_mendBy_37
  · skip
    refine sw_ite (fun h4 => ?_) (fun h4 => ?_)
    · refine sw_tabIn (pc := 1) (off := 37) 38 C dX6_mendBy_1 (by rw [h4]; decide) (by rw [h4]; decide) (by rw [h4]; rfl) (by decide) ?_
      refine sw_aloadn (pc := 38) 0 0 C dX6_mendBy_38 rfl ?_
      refine sw_iloadn (pc := 39) 1 1 C dX6_mendBy_39 rfl ?_
      refine sw_iconst (pc := 40) (v := (-1)) C dX6_mendBy_40 (by decide) ?_
      refine sw_callVi (pc := 41) C (mX6_bendBy hc a0 (-1)) sgX6_bendBy mlX6_75 dX6_mendBy_41 (by decide) [.int a0, .int (-1)] [] hc.1 rfl rfl rfl rfl (Nat.le_of_ble_eq_true rfl) (fun r5 σ6 => ?_)
      exact sw_retizg (pc := 44) C M dX6_mendBy_44
    · skip
      refine sw_ite (fun h7 => ?_) (fun h7 => ?_)
      · refine sw_tabIn (pc := 1) (off := 44) 45 C dX6_mendBy_1 (by rw [h7]; decide) (by rw [h7]; decide) (by rw [h7]; rfl) (by decide) ?_
        refine sw_aloadn (pc := 45) 0 0 C dX6_mendBy_45 rfl ?_
        refine sw_iloadn (pc := 46) 1 1 C dX6_mendBy_46 rfl ?_
        refine sw_iconst (pc := 47) (v := 1) C dX6_mendBy_47 (by decide) ?_
        refine sw_callVi (pc := 48) C (mX6_bendBy hc a0 1) sgX6_bendBy mlX6_75 dX6_mendBy_48 (by decide) [.int a0, .int 1] [] hc.1 rfl rfl rfl rfl (Nat.le_of_ble_eq_true rfl) (fun r8 σ9 => ?_)
        exact sw_retizg (pc := 51) C M dX6_mendBy_51
      · skip
        refine sw_ite (fun h10 => ?_) (fun h10 => ?_)
        · refine sw_tabIn (pc := 1) (off := 51) 52 C dX6_mendBy_1 (by rw [h10]; decide) (by rw [h10]; decide) (by rw [h10]; rfl) (by decide) ?_
          refine sw_aloadn (pc := 52) 0 0 C dX6_mendBy_52 rfl ?_
          refine sw_iloadn (pc := 53) 1 1 C dX6_mendBy_53 rfl ?_
          refine sw_callVi (pc := 54) C (mX6_breakOff hc a0) sgX6_breakOff mlX6_79 dX6_mendBy_54 (by decide) [.int a0] [] hc.1 rfl rfl rfl rfl (Nat.le_of_ble_eq_true rfl) (fun r11 σ12 => ?_)
          exact sw_retizg (pc := 57) C M dX6_mendBy_57
        · skip
          refine sw_tabOut (pc := 1) 58 C dX6_mendBy_1 (by have qh1 := lv_neT (a := 0) h1 (by decide); have qh4 := lv_neT (a := 1) h4 (by decide); have qh7 := lv_neT (a := 2) h7 (by decide); have qh10 := lv_neT (a := 3) h10 (by decide); omega) (by decide) ?_
          refine sw_iconst (pc := 58) (v := 0) C dX6_mendBy_58 (by decide) ?_
          exact sw_retiz (pc := 59) rfl C M dX6_mendBy_59
set_option maxRecDepth 100000 in
set_option maxHeartbeats 4000000 in
theorem mX7_isLane   (a0 : Int32) : sw_Ki yX7_isLane cX7_isLane 1 (some .boolean) 1 (fun ad => [.int a0]) (fX7_isLane a0) := by
  refine sw_enteri (by decide) (fun ad => Nat.le_of_ble_eq_true rfl) (fun X ad t σ C hn M => ?_)
  change sw_J X ad t 0 [(0, .int a0)] [] σ _
  replace C : sw_C X ad cX7_isLane RX7 1 := C
  unfold fX7_isLane
  refine sw_iloadn (pc := 0) 0 0 C dX7_isLane_0 rfl ?_
  refine sw_if_lt (pc := 1) 13 C dX7_isLane_1 (by decide) ?_ ?_
  · refine sw_iconst (pc := 13) (v := 0) C dX7_isLane_13 (by decide) ?_
    exact sw_retiz (pc := 14) rfl C M dX7_isLane_14
  · refine sw_iloadn (pc := 4) 0 0 C dX7_isLane_4 rfl ?_
    refine sw_iconst (pc := 5) (v := 2) C dX7_isLane_5 (by decide) ?_
    refine sw_icmp_gt (pc := 6) 13 C dX7_isLane_6 (by decide) ?_ ?_
    · refine sw_iconst (pc := 13) (v := 0) C dX7_isLane_13 (by decide) ?_
      exact sw_retiz (pc := 14) rfl C M dX7_isLane_14
    · refine sw_iconst (pc := 9) (v := 1) C dX7_isLane_9 (by decide) ?_
      refine sw_goto (pc := 10) 14 C dX7_isLane_10 (by decide) ?_
      exact sw_retiz (pc := 14) rfl C M dX7_isLane_14
set_option maxRecDepth 100000 in
set_option maxHeartbeats 4000000 in
theorem mX7_areOfOneLane   (a0 : Int32) (a1 : Int32) : sw_Ki yX7_areOfOneLane cX7_areOfOneLane 3 (some .boolean) 2 (fun ad => [.ref (ad 1), .int a0, .int a1]) (fX7_areOfOneLane a0 a1) := by
  refine sw_enteri (by decide) (fun ad => Nat.le_of_ble_eq_true rfl) (fun X ad t σ C hn M => ?_)
  change sw_J X ad t 0 [(0, .ref (ad 1)), (1, .int a0), (2, .int a1)] [] σ _
  replace C : sw_C X ad cX7_areOfOneLane RX7 2 := C
  unfold fX7_areOfOneLane
  refine sw_iloadn (pc := 0) 1 1 C dX7_areOfOneLane_0 rfl ?_
  refine sw_callSi (pc := 1) C (mX7_isSheet a0) sgX7_isSheet mlX7_21 dX7_areOfOneLane_1 (by decide) [.int a0] [] rfl rfl rfl (Nat.le_of_ble_eq_true rfl) (fun r1 σ2 => ?_)
  refine sw_if_eq (pc := 4) 33 C dX7_areOfOneLane_4 (by decide) ?_ ?_
  · refine sw_iconst (pc := 33) (v := 0) C dX7_areOfOneLane_33 (by decide) ?_
    exact sw_retiz (pc := 34) rfl C M dX7_areOfOneLane_34
  · refine sw_iloadn (pc := 7) 2 2 C dX7_areOfOneLane_7 rfl ?_
    refine sw_callSi (pc := 8) C (mX7_isSheet a1) sgX7_isSheet mlX7_21 dX7_areOfOneLane_8 (by decide) [.int a1] [] rfl rfl rfl (Nat.le_of_ble_eq_true rfl) (fun r3 σ4 => ?_)
    refine sw_if_eq (pc := 11) 33 C dX7_areOfOneLane_11 (by decide) ?_ ?_
    · refine sw_iconst (pc := 33) (v := 0) C dX7_areOfOneLane_33 (by decide) ?_
      exact sw_retiz (pc := 34) rfl C M dX7_areOfOneLane_34
    · refine sw_aloadn (pc := 14) 0 0 C dX7_areOfOneLane_14 rfl ?_
      refine sw_getR (pc := 15) C kfX7_11 sh1 rfl dX7_areOfOneLane_15 ?_
      refine sw_iloadn (pc := 18) 1 1 C dX7_areOfOneLane_18 rfl ?_
      refine sw_iald (pc := 19) C sh2 dX7_areOfOneLane_19 ?_
      refine sw_aloadn (pc := 20) 0 0 C dX7_areOfOneLane_20 rfl ?_
      refine sw_getR (pc := 21) C kfX7_11 sh1 rfl dX7_areOfOneLane_21 ?_
      refine sw_iloadn (pc := 24) 2 2 C dX7_areOfOneLane_24 rfl ?_
      refine sw_iald (pc := 25) C sh2 dX7_areOfOneLane_25 ?_
      refine sw_icmp_ne (pc := 26) 33 C dX7_areOfOneLane_26 (by decide) ?_ ?_
      · refine sw_iconst (pc := 33) (v := 0) C dX7_areOfOneLane_33 (by decide) ?_
        exact sw_retiz (pc := 34) rfl C M dX7_areOfOneLane_34
      · refine sw_iconst (pc := 29) (v := 1) C dX7_areOfOneLane_29 (by decide) ?_
        refine sw_goto (pc := 30) 34 C dX7_areOfOneLane_30 (by decide) ?_
        exact sw_retiz (pc := 34) rfl C M dX7_areOfOneLane_34
set_option maxRecDepth 100000 in
set_option maxHeartbeats 4000000 in
theorem mX7_hasCells   (a0 : Int32) (a1 : Int32) (a2 : Int32) : sw_Ki yX7_hasCells cX7_hasCells 4 (some .boolean) 3 (fun ad => [.ref (ad 1), .int a0, .int a1, .int a2]) (fX7_hasCells a0 a1 a2) := by
  refine sw_enteri (by decide) (fun ad => Nat.le_of_ble_eq_true rfl) (fun X ad t σ C hn M => ?_)
  change sw_J X ad t 0 [(0, .ref (ad 1)), (1, .int a0), (2, .int a1), (3, .int a2)] [] σ _
  replace C : sw_C X ad cX7_hasCells RX7 3 := C
  unfold fX7_hasCells
  refine sw_aloadn (pc := 0) 0 0 C dX7_hasCells_0 rfl ?_
  refine sw_iloadn (pc := 1) 1 1 C dX7_hasCells_1 rfl ?_
  refine sw_callVi (pc := 2) C (mX7_isNothing a0) sgX7_isNothing mlX7_25 dX7_hasCells_2 (by decide) [.int a0] [] sh1 rfl rfl rfl rfl (Nat.le_of_ble_eq_true rfl) (fun r1 σ2 => ?_)
  refine sw_if_ne (pc := 5) 42 C dX7_hasCells_5 (by decide) ?_ ?_
  · refine sw_iconst (pc := 42) (v := 0) C dX7_hasCells_42 (by decide) ?_
    exact sw_retiz (pc := 43) rfl C M dX7_hasCells_43
  · refine sw_iloadn (pc := 8) 2 2 C dX7_hasCells_8 rfl ?_
    refine sw_if_lt (pc := 9) 42 C dX7_hasCells_9 (by decide) ?_ ?_
    · refine sw_iconst (pc := 42) (v := 0) C dX7_hasCells_42 (by decide) ?_
      exact sw_retiz (pc := 43) rfl C M dX7_hasCells_43
    · refine sw_iloadn (pc := 12) 2 2 C dX7_hasCells_12 rfl ?_
      refine sw_aloadn (pc := 13) 0 0 C dX7_hasCells_13 rfl ?_
      refine sw_getR (pc := 14) C kfX7_15 sh1 rfl dX7_hasCells_14 ?_
      refine sw_iloadn (pc := 17) 1 1 C dX7_hasCells_17 rfl ?_
      refine sw_iald (pc := 18) C sh3 dX7_hasCells_18 ?_
      refine sw_icmp_gt (pc := 19) 42 C dX7_hasCells_19 (by decide) ?_ ?_
      · refine sw_iconst (pc := 42) (v := 0) C dX7_hasCells_42 (by decide) ?_
        exact sw_retiz (pc := 43) rfl C M dX7_hasCells_43
      · refine sw_iloadn (pc := 22) 3 3 C dX7_hasCells_22 rfl ?_
        refine sw_if_lt (pc := 23) 42 C dX7_hasCells_23 (by decide) ?_ ?_
        · refine sw_iconst (pc := 42) (v := 0) C dX7_hasCells_42 (by decide) ?_
          exact sw_retiz (pc := 43) rfl C M dX7_hasCells_43
        · refine sw_iloadn (pc := 26) 3 3 C dX7_hasCells_26 rfl ?_
          refine sw_aloadn (pc := 27) 0 0 C dX7_hasCells_27 rfl ?_
          refine sw_getR (pc := 28) C kfX7_15 sh1 rfl dX7_hasCells_28 ?_
          refine sw_iloadn (pc := 31) 1 1 C dX7_hasCells_31 rfl ?_
          refine sw_iald (pc := 32) C sh3 dX7_hasCells_32 ?_
          refine sw_iloadn (pc := 33) 2 2 C dX7_hasCells_33 rfl ?_
          refine sw_isub (pc := 34) C dX7_hasCells_34 ?_
          refine sw_icmp_gt (pc := 35) 42 C dX7_hasCells_35 (by decide) ?_ ?_
          · refine sw_iconst (pc := 42) (v := 0) C dX7_hasCells_42 (by decide) ?_
            exact sw_retiz (pc := 43) rfl C M dX7_hasCells_43
          · refine sw_iconst (pc := 38) (v := 1) C dX7_hasCells_38 (by decide) ?_
            refine sw_goto (pc := 39) 43 C dX7_hasCells_39 (by decide) ?_
            exact sw_retiz (pc := 43) rfl C M dX7_hasCells_43
set_option maxRecDepth 100000 in
set_option maxHeartbeats 4000000 in
theorem mX7_faultOfRow   (a0 : Int32) (a1 : Int32) : sw_Ki yX7_faultOfRow cX7_faultOfRow 3 (some .int) 3 (fun ad => [.ref (ad 1), .int a0, .int a1]) (fX7_faultOfRow a0 a1) := by
  refine sw_enteri (by decide) (fun ad => Nat.le_of_ble_eq_true rfl) (fun X ad t σ C hn M => ?_)
  change sw_J X ad t 0 [(0, .ref (ad 1)), (1, .int a0), (2, .int a1)] [] σ _
  replace C : sw_C X ad cX7_faultOfRow RX7 3 := C
  unfold fX7_faultOfRow
  refine sw_aloadn (pc := 0) 0 0 C dX7_faultOfRow_0 rfl ?_
  refine sw_iloadn (pc := 1) 1 1 C dX7_faultOfRow_1 rfl ?_
  refine sw_callVi (pc := 2) C (mX7_isNothing a0) sgX7_isNothing mlX7_25 dX7_faultOfRow_2 (by decide) [.int a0] [] sh1 rfl rfl rfl rfl (Nat.le_of_ble_eq_true rfl) (fun r1 σ2 => ?_)
  refine sw_if_eq (pc := 5) 10 C dX7_faultOfRow_5 (by decide) ?_ ?_
  · refine sw_aloadn (pc := 10) 0 0 C dX7_faultOfRow_10 rfl ?_
    refine sw_getR (pc := 11) C kfX7_11 sh1 rfl dX7_faultOfRow_11 ?_
    refine sw_iloadn (pc := 14) 1 1 C dX7_faultOfRow_14 rfl ?_
    refine sw_iald (pc := 15) C sh2 dX7_faultOfRow_15 ?_
    refine sw_iloadn (pc := 16) 2 2 C dX7_faultOfRow_16 rfl ?_
    refine sw_icmp_ne (pc := 17) 24 C dX7_faultOfRow_17 (by decide) ?_ ?_
    · refine sw_iconst (pc := 24) (v := 2) C dX7_faultOfRow_24 (by decide) ?_
      exact sw_reti (pc := 25) C M dX7_faultOfRow_25
    · refine sw_iconst (pc := 20) (v := 0) C dX7_faultOfRow_20 (by decide) ?_
      refine sw_goto (pc := 21) 25 C dX7_faultOfRow_21 (by decide) ?_
      exact sw_reti (pc := 25) C M dX7_faultOfRow_25
  · refine sw_iconst (pc := 8) (v := 1) C dX7_faultOfRow_8 (by decide) ?_
    exact sw_reti (pc := 9) C M dX7_faultOfRow_9
set_option maxRecDepth 100000 in
set_option maxHeartbeats 4000000 in
theorem jX7_renew_L42 {X : sw_X} {ad : Nat → Nat} {t : Unit × sw_St} (C : sw_C X ad cX7_renew RX7 2) (hn : sw_nL X = 5) (M : sw_Mv X ad none t)   : ∀ (n : Nat) (v1 : Int32) (v3 : Int32) (v4 : Int32) (σ : sw_St), sw_J X ad t 42 [(0, .ref (ad 1)), (1, .int v1), (3, .int v3), (4, .int v4)] [] σ (fX7_renew_L42  n v1 v3 v4 σ) := by
  intro n
  induction n with
  | zero => exact fun _ _ _ _ => sw_none
  | succ n ih =>
    intro v1 v3 v4 σ
    unfold fX7_renew_L42
    refine sw_iload (pc := 42) 3 C dX7_renew_42 rfl ?_
    refine sw_iloadn (pc := 44) 3 2 C dX7_renew_44 rfl ?_
    refine sw_icmp_ge (pc := 45) 67 C dX7_renew_45 (by decide) ?_ ?_
    · exact sw_retv (pc := 67) C M dX7_renew_67
    · refine sw_aloadn (pc := 48) 0 0 C dX7_renew_48 rfl ?_
      refine sw_getR (pc := 49) C kfX7_18 sh1 rfl dX7_renew_49 ?_
      refine sw_iloadn (pc := 52) 1 1 C dX7_renew_52 rfl ?_
      refine sw_bipush (pc := 53) (v := 80) C dX7_renew_53 (by decide) ?_
      refine sw_imul (pc := 55) C dX7_renew_55 ?_
      refine sw_iload (pc := 56) 3 C dX7_renew_56 rfl ?_
      refine sw_iadd (pc := 58) C dX7_renew_58 ?_
      refine sw_iconst (pc := 59) (v := 0) C dX7_renew_59 (by decide) ?_
      refine sw_iastL (pc := 60) C sh4 dX7_renew_60 (fun σ7 => ?_)
      refine sw_iinc (pc := 61) (v4 + 1) 3 [(4, .int (v4 + 1)), (0, .ref (ad 1)), (1, .int v1), (3, .int v3)] C dX7_renew_61 (by rw [hn]; decide) rfl rfl rfl ?_
      refine sw_goto (pc := 64) 42 C dX7_renew_64 (by decide) ?_
      refine sw_lpick (pc := 42) (L' := [(0, .ref (ad 1)), (1, .int v1), (3, .int v3), (4, .int (v4 + 1))]) [1, 2, 3, 0] rfl ?_
      exact ih _ _ _ _
set_option maxRecDepth 100000 in
set_option maxHeartbeats 4000000 in
theorem mX7_renew   (a0 : Int32) (a1 : Int32) (a2 : Int32) : sw_Kv yX7_renew cX7_renew 5 none 2 (fun ad => [.ref (ad 1), .int a0, .int a1, .int a2]) (fX7_renew a0 a1 a2) := by
  refine sw_enterv (by decide) (fun ad => Nat.le_of_ble_eq_true rfl) (fun X ad t σ C hn M => ?_)
  change sw_J X ad t 0 [(0, .ref (ad 1)), (1, .int a0), (2, .int a1), (3, .int a2)] [] σ _
  replace C : sw_C X ad cX7_renew RX7 2 := C
  unfold fX7_renew
  refine sw_iloadn (pc := 0) 1 1 C dX7_renew_0 rfl ?_
  refine sw_callSi (pc := 1) C (mX7_isSheet a0) sgX7_isSheet mlX7_21 dX7_renew_1 (by decide) [.int a0] [] rfl rfl rfl (Nat.le_of_ble_eq_true rfl) (fun r1 σ2 => ?_)
  refine sw_if_eq (pc := 4) 24 C dX7_renew_4 (by decide) ?_ ?_
  · exact sw_retv (pc := 24) C M dX7_renew_24
  · refine sw_iloadn (pc := 7) 2 2 C dX7_renew_7 rfl ?_
    refine sw_callSi (pc := 8) C (mX7_isLane a1) sgX7_isLane mlX7_32 dX7_renew_8 (by decide) [.int a1] [] rfl rfl rfl (Nat.le_of_ble_eq_true rfl) (fun r3 σ4 => ?_)
    refine sw_if_eq (pc := 11) 24 C dX7_renew_11 (by decide) ?_ ?_
    · exact sw_retv (pc := 24) C M dX7_renew_24
    · refine sw_iloadn (pc := 14) 3 3 C dX7_renew_14 rfl ?_
      refine sw_if_lt (pc := 15) 24 C dX7_renew_15 (by decide) ?_ ?_
      · exact sw_retv (pc := 24) C M dX7_renew_24
      · refine sw_iloadn (pc := 18) 3 3 C dX7_renew_18 rfl ?_
        refine sw_bipush (pc := 19) (v := 80) C dX7_renew_19 (by decide) ?_
        refine sw_icmp_le (pc := 21) 25 C dX7_renew_21 (by decide) ?_ ?_
        · refine sw_aloadn (pc := 25) 0 0 C dX7_renew_25 rfl ?_
          refine sw_getR (pc := 26) C kfX7_11 sh1 rfl dX7_renew_26 ?_
          refine sw_iloadn (pc := 29) 1 1 C dX7_renew_29 rfl ?_
          refine sw_iloadn (pc := 30) 2 2 C dX7_renew_30 rfl ?_
          refine sw_iastL (pc := 31) C sh2 dX7_renew_31 (fun σ5 => ?_)
          refine sw_aloadn (pc := 32) 0 0 C dX7_renew_32 rfl ?_
          refine sw_getR (pc := 33) C kfX7_15 sh1 rfl dX7_renew_33 ?_
          refine sw_iloadn (pc := 36) 1 1 C dX7_renew_36 rfl ?_
          refine sw_iloadn (pc := 37) 3 3 C dX7_renew_37 rfl ?_
          refine sw_iastL (pc := 38) C sh3 dX7_renew_38 (fun σ6 => ?_)
          refine sw_iconst (pc := 39) (v := 0) C dX7_renew_39 (by decide) ?_
          refine sw_istore (pc := 40) [(4, .int 0), (0, .ref (ad 1)), (1, .int a0), (2, .int a1), (3, .int a2)] C dX7_renew_40 (by rw [hn]; decide) rfl ?_
          refine sw_lpick (pc := 42) (L' := [(0, .ref (ad 1)), (1, .int a0), (3, .int a2), (4, .int 0)]) [1, 2, 4, 0] rfl ?_
          exact jX7_renew_L42 C hn M  _ _ _ _ _
        · exact sw_retv (pc := 24) C M dX7_renew_24
set_option maxRecDepth 100000 in
set_option maxHeartbeats 4000000 in
theorem mX7_drop   (a0 : Int32) : sw_Ki yX7_drop cX7_drop 2 (some .boolean) 3 (fun ad => [.ref (ad 1), .int a0]) (fX7_drop a0) := by
  refine sw_enteri (by decide) (fun ad => Nat.le_of_ble_eq_true rfl) (fun X ad t σ C hn M => ?_)
  change sw_J X ad t 0 [(0, .ref (ad 1)), (1, .int a0)] [] σ _
  replace C : sw_C X ad cX7_drop RX7 3 := C
  unfold fX7_drop
  refine sw_aloadn (pc := 0) 0 0 C dX7_drop_0 rfl ?_
  refine sw_iloadn (pc := 1) 1 1 C dX7_drop_1 rfl ?_
  refine sw_callVi (pc := 2) C (mX7_isNothing a0) sgX7_isNothing mlX7_25 dX7_drop_2 (by decide) [.int a0] [] sh1 rfl rfl rfl rfl (Nat.le_of_ble_eq_true rfl) (fun r1 σ2 => ?_)
  refine sw_if_eq (pc := 5) 10 C dX7_drop_5 (by decide) ?_ ?_
  · refine sw_aloadn (pc := 10) 0 0 C dX7_drop_10 rfl ?_
    refine sw_getR (pc := 11) C kfX7_11 sh1 rfl dX7_drop_11 ?_
    refine sw_iloadn (pc := 14) 1 1 C dX7_drop_14 rfl ?_
    refine sw_iconst (pc := 15) (v := (-1)) C dX7_drop_15 (by decide) ?_
    refine sw_iastL (pc := 16) C sh2 dX7_drop_16 (fun σ3 => ?_)
    refine sw_aloadn (pc := 17) 0 0 C dX7_drop_17 rfl ?_
    refine sw_getR (pc := 18) C kfX7_15 sh1 rfl dX7_drop_18 ?_
    refine sw_iloadn (pc := 21) 1 1 C dX7_drop_21 rfl ?_
    refine sw_iconst (pc := 22) (v := 0) C dX7_drop_22 (by decide) ?_
    refine sw_iastL (pc := 23) C sh3 dX7_drop_23 (fun σ4 => ?_)
    refine sw_iconst (pc := 24) (v := 1) C dX7_drop_24 (by decide) ?_
    exact sw_retiz (pc := 25) rfl C M dX7_drop_25
  · refine sw_iconst (pc := 8) (v := 0) C dX7_drop_8 (by decide) ?_
    exact sw_retiz (pc := 9) rfl C M dX7_drop_9
set_option maxRecDepth 100000 in
set_option maxHeartbeats 4000000 in
theorem jX7_write_B43 {X : sw_X} {ad : Nat → Nat} {t : Unit × sw_St} (C : sw_C X ad cX7_write RX7 4) (hn : sw_nL X = 5) (M : sw_Mv X ad none t)   (v1 : Int32) (v2 : Int32) (v4 : Int32) (σ : sw_St) : sw_J X ad t 43 [(0, .ref (ad 1)), (1, .int v1), (2, .int v2), (4, .int v4)] [] σ (fX7_write_B43  v1 v2 v4 σ) := by
  unfold fX7_write_B43
  refine sw_aloadn (pc := 43) 0 0 C dX7_write_43 rfl ?_
  refine sw_getR (pc := 44) C kfX7_18 sh1 rfl dX7_write_44 ?_
  refine sw_iloadn (pc := 47) 1 1 C dX7_write_47 rfl ?_
  refine sw_bipush (pc := 48) (v := 80) C dX7_write_48 (by decide) ?_
  refine sw_imul (pc := 50) C dX7_write_50 ?_
  refine sw_iloadn (pc := 51) 2 2 C dX7_write_51 rfl ?_
  refine sw_iadd (pc := 52) C dX7_write_52 ?_
  refine sw_iload (pc := 53) 3 C dX7_write_53 rfl ?_
  refine sw_iastL (pc := 55) C sh4 dX7_write_55 (fun σ5 => ?_)
  exact sw_retv (pc := 56) C M dX7_write_56
set_option maxRecDepth 100000 in
set_option maxHeartbeats 4000000 in
theorem mX7_write   (a0 : Int32) (a1 : Int32) (a2 : Int32) : sw_Kv yX7_write cX7_write 5 none 4 (fun ad => [.ref (ad 1), .int a0, .int a1, .int a2]) (fX7_write a0 a1 a2) := by
  refine sw_enterv (by decide) (fun ad => Nat.le_of_ble_eq_true rfl) (fun X ad t σ C hn M => ?_)
  change sw_J X ad t 0 [(0, .ref (ad 1)), (1, .int a0), (2, .int a1), (3, .int a2)] [] σ _
  replace C : sw_C X ad cX7_write RX7 4 := C
  unfold fX7_write
  refine sw_aloadn (pc := 0) 0 0 C dX7_write_0 rfl ?_
  refine sw_iloadn (pc := 1) 1 1 C dX7_write_1 rfl ?_
  refine sw_iloadn (pc := 2) 2 2 C dX7_write_2 rfl ?_
  refine sw_callVi (pc := 3) C (mX7_hasCell a0 a1) sgX7_hasCell mlX7_28 dX7_write_3 (by decide) [.int a0, .int a1] [] sh1 rfl rfl rfl rfl (Nat.le_of_ble_eq_true rfl) (fun r1 σ2 => ?_)
  refine sw_if_ne (pc := 6) 10 C dX7_write_6 (by decide) ?_ ?_
  · refine sw_iloadn (pc := 10) 3 3 C dX7_write_10 rfl ?_
    refine sw_istore (pc := 11) [(4, .int a2), (0, .ref (ad 1)), (1, .int a0), (2, .int a1), (3, .int a2)] C dX7_write_11 (by rw [hn]; decide) rfl ?_
    refine sw_aloadn (pc := 13) 0 1 C dX7_write_13 rfl ?_
    refine sw_getR (pc := 14) C kfX7_11 sh1 rfl dX7_write_14 ?_
    refine sw_iloadn (pc := 17) 1 2 C dX7_write_17 rfl ?_
    refine sw_iald (pc := 18) C sh2 dX7_write_18 ?_
    refine sw_if_ne (pc := 19) 29 C dX7_write_19 (by decide) ?_ ?_
    · refine sw_aloadn (pc := 29) 0 1 C dX7_write_29 rfl ?_
      refine sw_getR (pc := 30) C kfX7_11 sh1 rfl dX7_write_30 ?_
      refine sw_iloadn (pc := 33) 1 2 C dX7_write_33 rfl ?_
      refine sw_iald (pc := 34) C sh2 dX7_write_34 ?_
      refine sw_iconst (pc := 35) (v := 1) C dX7_write_35 (by decide) ?_
      refine sw_icmp_ne (pc := 36) 43 C dX7_write_36 (by decide) ?_ ?_
      · refine sw_lpick (pc := 43) (L' := [(0, .ref (ad 1)), (1, .int a0), (2, .int a1), (4, .int a2)]) [1, 2, 3, 0] rfl ?_
        exact jX7_write_B43 C hn M  _ _ _ _
      · refine sw_iloadn (pc := 39) 3 4 C dX7_write_39 rfl ?_
        refine sw_i2s (pc := 40) C dX7_write_40 ?_
        refine sw_leti (fun x3 => ?_)
        refine sw_istore (pc := 41) [(4, .int x3), (0, .ref (ad 1)), (1, .int a0), (2, .int a1), (3, .int a2)] C dX7_write_41 (by rw [hn]; decide) rfl ?_
        refine sw_lpick (pc := 43) (L' := [(0, .ref (ad 1)), (1, .int a0), (2, .int a1), (4, .int x3)]) [1, 2, 3, 0] rfl ?_
        exact jX7_write_B43 C hn M  _ _ _ _
    · refine sw_iloadn (pc := 22) 3 4 C dX7_write_22 rfl ?_
      refine sw_i2b (pc := 23) C dX7_write_23 ?_
      refine sw_leti (fun x4 => ?_)
      refine sw_istore (pc := 24) [(4, .int x4), (0, .ref (ad 1)), (1, .int a0), (2, .int a1), (3, .int a2)] C dX7_write_24 (by rw [hn]; decide) rfl ?_
      refine sw_goto (pc := 26) 43 C dX7_write_26 (by decide) ?_
      refine sw_lpick (pc := 43) (L' := [(0, .ref (ad 1)), (1, .int a0), (2, .int a1), (4, .int x4)]) [1, 2, 3, 0] rfl ?_
      exact jX7_write_B43 C hn M  _ _ _ _
  · exact sw_retv (pc := 9) C M dX7_write_9
set_option maxRecDepth 100000 in
set_option maxHeartbeats 4000000 in
theorem mX7_carry   (a0 : Int32) (a1 : Int32) (a2 : Int32) (a3 : Int32) (a4 : Int32) : sw_Kv yX7_carry cX7_carry 6 none 4 (fun ad => [.ref (ad 1), .int a0, .int a1, .int a2, .int a3, .int a4]) (fX7_carry a0 a1 a2 a3 a4) := by
  refine sw_enterv (by decide) (fun ad => Nat.le_of_ble_eq_true rfl) (fun X ad t σ C hn M => ?_)
  change sw_J X ad t 0 [(0, .ref (ad 1)), (1, .int a0), (2, .int a1), (3, .int a2), (4, .int a3), (5, .int a4)] [] σ _
  replace C : sw_C X ad cX7_carry RX7 4 := C
  unfold fX7_carry
  refine sw_aloadn (pc := 0) 0 0 C dX7_carry_0 rfl ?_
  refine sw_iloadn (pc := 1) 1 1 C dX7_carry_1 rfl ?_
  refine sw_iloadn (pc := 2) 2 2 C dX7_carry_2 rfl ?_
  refine sw_iload (pc := 3) 5 C dX7_carry_3 rfl ?_
  refine sw_callVi (pc := 5) C (mX7_hasCells a0 a1 a4) sgX7_hasCells mlX7_35 dX7_carry_5 (by decide) [.int a0, .int a1, .int a4] [] sh1 rfl rfl rfl rfl (Nat.le_of_ble_eq_true rfl) (fun r1 σ2 => ?_)
  refine sw_if_eq (pc := 8) 49 C dX7_carry_8 (by decide) ?_ ?_
  · exact sw_retv (pc := 49) C M dX7_carry_49
  · refine sw_aloadn (pc := 11) 0 0 C dX7_carry_11 rfl ?_
    refine sw_iloadn (pc := 12) 3 3 C dX7_carry_12 rfl ?_
    refine sw_iload (pc := 13) 4 C dX7_carry_13 rfl ?_
    refine sw_iload (pc := 15) 5 C dX7_carry_15 rfl ?_
    refine sw_callVi (pc := 17) C (mX7_hasCells a2 a3 a4) sgX7_hasCells mlX7_35 dX7_carry_17 (by decide) [.int a2, .int a3, .int a4] [] sh1 rfl rfl rfl rfl (Nat.le_of_ble_eq_true rfl) (fun r3 σ4 => ?_)
    refine sw_if_eq (pc := 20) 49 C dX7_carry_20 (by decide) ?_ ?_
    · exact sw_retv (pc := 49) C M dX7_carry_49
    · refine sw_aloadn (pc := 23) 0 0 C dX7_carry_23 rfl ?_
      refine sw_getR (pc := 24) C kfX7_18 sh1 rfl dX7_carry_24 ?_
      refine sw_iloadn (pc := 27) 1 1 C dX7_carry_27 rfl ?_
      refine sw_bipush (pc := 28) (v := 80) C dX7_carry_28 (by decide) ?_
      refine sw_imul (pc := 30) C dX7_carry_30 ?_
      refine sw_iloadn (pc := 31) 2 2 C dX7_carry_31 rfl ?_
      refine sw_iadd (pc := 32) C dX7_carry_32 ?_
      refine sw_aloadn (pc := 33) 0 0 C dX7_carry_33 rfl ?_
      refine sw_getR (pc := 34) C kfX7_18 sh1 rfl dX7_carry_34 ?_
      refine sw_iloadn (pc := 37) 3 3 C dX7_carry_37 rfl ?_
      refine sw_bipush (pc := 38) (v := 80) C dX7_carry_38 (by decide) ?_
      refine sw_imul (pc := 40) C dX7_carry_40 ?_
      refine sw_iload (pc := 41) 4 C dX7_carry_41 rfl ?_
      refine sw_iadd (pc := 43) C dX7_carry_43 ?_
      refine sw_iload (pc := 44) 5 C dX7_carry_44 rfl ?_
      refine sw_copyL (pc := 46) C (by decide) (Nat.le_of_ble_eq_true rfl) mlX7_39 kcopy.1 kcopy.2.1 kcopy.2.2 sh4 sh4 dX7_carry_46 (fun σ5 => ?_)
      exact sw_retv (pc := 49) C M dX7_carry_49
set_option maxRecDepth 100000 in
set_option maxHeartbeats 4000000 in
theorem jX8_read_L23 {X : sw_X} {ad : Nat → Nat} {t : Int32 × sw_St} (C : sw_C X ad cX8_read RX8 5) (hn : sw_nL X = 6) (M : sw_Mi X ad (some .boolean) t)   : ∀ (n : Nat) (v2 : Int32) (v3 : Int32) (v4 : Int32) (v5 : Int32) (σ : sw_St), sw_J X ad t 23 [(0, .ref (ad 34)), (1, .ref (ad 1)), (2, .int v2), (3, .int v3), (4, .int v4), (5, .int v5)] [] σ (fX8_read_L23  n v2 v3 v4 v5 σ) := by
  intro n
  induction n with
  | zero => exact fun _ _ _ _ _ => sw_none
  | succ n ih =>
    intro v2 v3 v4 v5 σ
    unfold fX8_read_L23
    refine sw_iload (pc := 23) 5 C dX8_read_23 rfl ?_
    refine sw_iload (pc := 25) 4 C dX8_read_25 rfl ?_
    refine sw_icmp_ge (pc := 27) 78 C dX8_read_27 (by decide) ?_ ?_
    · refine sw_aloadn (pc := 78) 0 0 C dX8_read_78 rfl ?_
      refine sw_iload (pc := 79) 4 C dX8_read_79 rfl ?_
      refine sw_iconst (pc := 81) (v := 1) C dX8_read_81 (by decide) ?_
      refine sw_isub (pc := 82) C dX8_read_82 ?_
      refine sw_putL (pc := 83) C kpX8_9 sh34 rfl dX8_read_83 (fun σ2 => ?_)
      refine sw_iconst (pc := 86) (v := 1) C dX8_read_86 (by decide) ?_
      exact sw_retiz (pc := 87) rfl C M dX8_read_87
    · refine sw_aloadn (pc := 30) 0 0 C dX8_read_30 rfl ?_
      refine sw_getR (pc := 31) C kfX8_15 sh34 rfl dX8_read_31 ?_
      refine sw_iload (pc := 34) 5 C dX8_read_34 rfl ?_
      refine sw_aloadn (pc := 36) 1 1 C dX8_read_36 rfl ?_
      refine sw_iloadn (pc := 37) 2 2 C dX8_read_37 rfl ?_
      refine sw_iloadn (pc := 38) 3 3 C dX8_read_38 rfl ?_
      refine sw_iload (pc := 39) 5 C dX8_read_39 rfl ?_
      refine sw_iadd (pc := 41) C dX8_read_41 ?_
      refine sw_callVi (pc := 42) C (mX7_at v2 (v3 + v5)) sgX7_at mlX8_22 dX8_read_42 (by decide) [.int v2, .int (v3 + v5)] [.int v5, .ref (ad 35)] sh1 rfl rfl rfl rfl (Nat.le_of_ble_eq_true rfl) (fun r3 σ4 => ?_)
      refine sw_iastL (pc := 45) C sh35 dX8_read_45 (fun σ5 => ?_)
      refine sw_aloadn (pc := 46) 0 0 C dX8_read_46 rfl ?_
      refine sw_getR (pc := 47) C kfX8_15 sh34 rfl dX8_read_47 ?_
      refine sw_iload (pc := 50) 5 C dX8_read_50 rfl ?_
      refine sw_iald (pc := 52) C sh35 dX8_read_52 ?_
      refine sw_bipush (pc := 53) (v := (-9)) C dX8_read_53 (by decide) ?_
      refine sw_icmp_lt (pc := 55) 70 C dX8_read_55 (by decide) ?_ ?_
      · refine sw_iconst (pc := 70) (v := 0) C dX8_read_70 (by decide) ?_
        exact sw_retiz (pc := 71) rfl C M dX8_read_71
      · refine sw_aloadn (pc := 58) 0 0 C dX8_read_58 rfl ?_
        refine sw_getR (pc := 59) C kfX8_15 sh34 rfl dX8_read_59 ?_
        refine sw_iload (pc := 62) 5 C dX8_read_62 rfl ?_
        refine sw_iald (pc := 64) C sh35 dX8_read_64 ?_
        refine sw_bipush (pc := 65) (v := 9) C dX8_read_65 (by decide) ?_
        refine sw_icmp_le (pc := 67) 72 C dX8_read_67 (by decide) ?_ ?_
        · refine sw_iinc (pc := 72) (v5 + 1) 5 [(5, .int (v5 + 1)), (0, .ref (ad 34)), (1, .ref (ad 1)), (2, .int v2), (3, .int v3), (4, .int v4)] C dX8_read_72 (by rw [hn]; decide) rfl rfl rfl ?_
          refine sw_goto (pc := 75) 23 C dX8_read_75 (by decide) ?_
          refine sw_lpick (pc := 23) (L' := [(0, .ref (ad 34)), (1, .ref (ad 1)), (2, .int v2), (3, .int v3), (4, .int v4), (5, .int (v5 + 1))]) [1, 2, 3, 4, 5, 0] rfl ?_
          exact ih _ _ _ _ _
        · refine sw_iconst (pc := 70) (v := 0) C dX8_read_70 (by decide) ?_
          exact sw_retiz (pc := 71) rfl C M dX8_read_71
set_option maxRecDepth 100000 in
set_option maxHeartbeats 4000000 in
theorem mX8_read   (a1 : Int32) (a2 : Int32) (a3 : Int32) : sw_Ki yX8_read cX8_read 6 (some .boolean) 5 (fun ad => [.ref (ad 34), .ref (ad 1), .int a1, .int a2, .int a3]) (fX8_read a1 a2 a3) := by
  refine sw_enteri (by decide) (fun ad => Nat.le_of_ble_eq_true rfl) (fun X ad t σ C hn M => ?_)
  change sw_J X ad t 0 [(0, .ref (ad 34)), (1, .ref (ad 1)), (2, .int a1), (3, .int a2), (4, .int a3)] [] σ _
  replace C : sw_C X ad cX8_read RX8 5 := C
  unfold fX8_read
  refine sw_aloadn (pc := 0) 0 0 C dX8_read_0 rfl ?_
  refine sw_iconst (pc := 1) (v := 0) C dX8_read_1 (by decide) ?_
  refine sw_putL (pc := 2) C kpX8_9 sh34 rfl dX8_read_2 (fun σ1 => ?_)
  refine sw_iload (pc := 5) 4 C dX8_read_5 rfl ?_
  refine sw_iconst (pc := 7) (v := 2) C dX8_read_7 (by decide) ?_
  refine sw_icmp_lt (pc := 8) 18 C dX8_read_8 (by decide) ?_ ?_
  · refine sw_iconst (pc := 18) (v := 0) C dX8_read_18 (by decide) ?_
    exact sw_retiz (pc := 19) rfl C M dX8_read_19
  · refine sw_iload (pc := 11) 4 C dX8_read_11 rfl ?_
    refine sw_bipush (pc := 13) (v := 7) C dX8_read_13 (by decide) ?_
    refine sw_icmp_le (pc := 15) 20 C dX8_read_15 (by decide) ?_ ?_
    · refine sw_iconst (pc := 20) (v := 0) C dX8_read_20 (by decide) ?_
      refine sw_istore (pc := 21) [(5, .int 0), (0, .ref (ad 34)), (1, .ref (ad 1)), (2, .int a1), (3, .int a2), (4, .int a3)] C dX8_read_21 (by rw [hn]; decide) rfl ?_
      refine sw_lpick (pc := 23) (L' := [(0, .ref (ad 34)), (1, .ref (ad 1)), (2, .int a1), (3, .int a2), (4, .int a3), (5, .int 0)]) [1, 2, 3, 4, 5, 0] rfl ?_
      exact jX8_read_L23 C hn M  _ _ _ _ _ _
    · refine sw_iconst (pc := 18) (v := 0) C dX8_read_18 (by decide) ?_
      exact sw_retiz (pc := 19) rfl C M dX8_read_19
set_option maxRecDepth 100000 in
set_option maxHeartbeats 4000000 in
theorem mX8_isOpen   (a0 : Int32) (a1 : Int32) : sw_Ki yX8_isOpen cX8_isOpen 2 (some .boolean) 1 (fun ad => [.int a0, .int a1]) (fX8_isOpen a0 a1) := by
  refine sw_enteri (by decide) (fun ad => Nat.le_of_ble_eq_true rfl) (fun X ad t σ C hn M => ?_)
  change sw_J X ad t 0 [(0, .int a0), (1, .int a1)] [] σ _
  replace C : sw_C X ad cX8_isOpen RX8 1 := C
  unfold fX8_isOpen
  refine sw_iloadn (pc := 0) 0 0 C dX8_isOpen_0 rfl ?_
  refine sw_iloadn (pc := 1) 1 1 C dX8_isOpen_1 rfl ?_
  refine sw_ishr (pc := 2) C dX8_isOpen_2 ?_
  refine sw_iconst (pc := 3) (v := 1) C dX8_isOpen_3 (by decide) ?_
  refine sw_iand (pc := 4) C dX8_isOpen_4 ?_
  refine sw_if_ne (pc := 5) 12 C dX8_isOpen_5 (by decide) ?_ ?_
  · refine sw_iconst (pc := 12) (v := 0) C dX8_isOpen_12 (by decide) ?_
    exact sw_retiz (pc := 13) rfl C M dX8_isOpen_13
  · refine sw_iconst (pc := 8) (v := 1) C dX8_isOpen_8 (by decide) ?_
    refine sw_goto (pc := 9) 13 C dX8_isOpen_9 (by decide) ?_
    exact sw_retiz (pc := 13) rfl C M dX8_isOpen_13
set_option maxRecDepth 100000 in
set_option maxHeartbeats 4000000 in
theorem jX8_strainLeftOf_L12 {X : sw_X} {ad : Nat → Nat} {t : Int32 × sw_St} (C : sw_C X ad cX8_strainLeftOf RX8 2) (hn : sw_nL X = 5) (M : sw_Mi X ad (some .int) t)   : ∀ (n : Nat) (v1 : Int32) (v3 : Int32) (v4 : Int32) (σ : sw_St), sw_J X ad t 12 [(0, .ref (ad 34)), (1, .int v1), (3, .int v3), (4, .int v4)] [] σ (fX8_strainLeftOf_L12  n v1 v3 v4 σ) := by
  intro n
  induction n with
  | zero => exact fun _ _ _ _ => sw_none
  | succ n ih =>
    intro v1 v3 v4 σ
    unfold fX8_strainLeftOf_L12
    refine sw_iload (pc := 12) 3 C dX8_strainLeftOf_12 rfl ?_
    refine sw_if_lt (pc := 14) 42 C dX8_strainLeftOf_14 (by decide) ?_ ?_
    · refine sw_iloadn (pc := 42) 3 2 C dX8_strainLeftOf_42 rfl ?_
      exact sw_reti (pc := 43) C M dX8_strainLeftOf_43
    · refine sw_iloadn (pc := 17) 1 1 C dX8_strainLeftOf_17 rfl ?_
      refine sw_iload (pc := 18) 3 C dX8_strainLeftOf_18 rfl ?_
      refine sw_callSi (pc := 20) C (mX8_isOpen v1 v4) sgX8_isOpen mlX8_28 dX8_strainLeftOf_20 (by decide) [.int v1, .int v4] [] rfl rfl rfl (Nat.le_of_ble_eq_true rfl) (fun r3 σ4 => ?_)
      refine sw_if_eq (pc := 23) 42 C dX8_strainLeftOf_23 (by decide) ?_ ?_
      · refine sw_iloadn (pc := 42) 3 2 C dX8_strainLeftOf_42 rfl ?_
        exact sw_reti (pc := 43) C M dX8_strainLeftOf_43
      · refine sw_iloadn (pc := 26) 3 2 C dX8_strainLeftOf_26 rfl ?_
        refine sw_aloadn (pc := 27) 0 0 C dX8_strainLeftOf_27 rfl ?_
        refine sw_getR (pc := 28) C kfX8_15 sh34 rfl dX8_strainLeftOf_28 ?_
        refine sw_iload (pc := 31) 3 C dX8_strainLeftOf_31 rfl ?_
        refine sw_iald (pc := 33) C sh35 dX8_strainLeftOf_33 ?_
        refine sw_iadd (pc := 34) C dX8_strainLeftOf_34 ?_
        refine sw_leti (fun x5 => ?_)
        refine sw_istoren (pc := 35) 3 [(3, .int x5), (0, .ref (ad 34)), (1, .int v1), (4, .int v4)] C dX8_strainLeftOf_35 (by rw [hn]; decide) rfl ?_
        refine sw_iinc (pc := 36) (v4 + (-1)) 3 [(4, .int (v4 + (-1))), (3, .int x5), (0, .ref (ad 34)), (1, .int v1)] C dX8_strainLeftOf_36 (by rw [hn]; decide) rfl rfl rfl ?_
        refine sw_goto (pc := 39) 12 C dX8_strainLeftOf_39 (by decide) ?_
        refine sw_lpick (pc := 12) (L' := [(0, .ref (ad 34)), (1, .int v1), (3, .int x5), (4, .int (v4 + (-1)))]) [2, 3, 1, 0] rfl ?_
        exact ih _ _ _ _
set_option maxRecDepth 100000 in
set_option maxHeartbeats 4000000 in
theorem mX8_strainLeftOf   (a0 : Int32) (a1 : Int32) : sw_Ki yX8_strainLeftOf cX8_strainLeftOf 5 (some .int) 2 (fun ad => [.ref (ad 34), .int a0, .int a1]) (fX8_strainLeftOf a0 a1) := by
  refine sw_enteri (by decide) (fun ad => Nat.le_of_ble_eq_true rfl) (fun X ad t σ C hn M => ?_)
  change sw_J X ad t 0 [(0, .ref (ad 34)), (1, .int a0), (2, .int a1)] [] σ _
  replace C : sw_C X ad cX8_strainLeftOf RX8 2 := C
  unfold fX8_strainLeftOf
  refine sw_aloadn (pc := 0) 0 0 C dX8_strainLeftOf_0 rfl ?_
  refine sw_getR (pc := 1) C kfX8_15 sh34 rfl dX8_strainLeftOf_1 ?_
  refine sw_iloadn (pc := 4) 2 2 C dX8_strainLeftOf_4 rfl ?_
  refine sw_iald (pc := 5) C sh35 dX8_strainLeftOf_5 ?_
  refine sw_leti (fun x1 => ?_)
  refine sw_istoren (pc := 6) 3 [(3, .int x1), (0, .ref (ad 34)), (1, .int a0), (2, .int a1)] C dX8_strainLeftOf_6 (by rw [hn]; decide) rfl ?_
  refine sw_iloadn (pc := 7) 2 3 C dX8_strainLeftOf_7 rfl ?_
  refine sw_iconst (pc := 8) (v := 1) C dX8_strainLeftOf_8 (by decide) ?_
  refine sw_isub (pc := 9) C dX8_strainLeftOf_9 ?_
  refine sw_leti (fun x2 => ?_)
  refine sw_istore (pc := 10) [(4, .int x2), (3, .int x1), (0, .ref (ad 34)), (1, .int a0), (2, .int a1)] C dX8_strainLeftOf_10 (by rw [hn]; decide) rfl ?_
  refine sw_lpick (pc := 12) (L' := [(0, .ref (ad 34)), (1, .int a0), (3, .int x1), (4, .int x2)]) [2, 3, 1, 0] rfl ?_
  exact jX8_strainLeftOf_L12 C hn M  _ _ _ _ _
set_option maxRecDepth 100000 in
set_option maxHeartbeats 4000000 in
theorem jX8_strainRightOf_L14 {X : sw_X} {ad : Nat → Nat} {t : Int32 × sw_St} (C : sw_C X ad cX8_strainRightOf RX8 2) (hn : sw_nL X = 5) (M : sw_Mi X ad (some .int) t)   : ∀ (n : Nat) (v1 : Int32) (v3 : Int32) (v4 : Int32) (σ : sw_St), sw_J X ad t 14 [(0, .ref (ad 34)), (1, .int v1), (3, .int v3), (4, .int v4)] [] σ (fX8_strainRightOf_L14  n v1 v3 v4 σ) := by
  intro n
  induction n with
  | zero => exact fun _ _ _ _ => sw_none
  | succ n ih =>
    intro v1 v3 v4 σ
    unfold fX8_strainRightOf_L14
    refine sw_iload (pc := 14) 3 C dX8_strainRightOf_14 rfl ?_
    refine sw_aloadn (pc := 16) 0 0 C dX8_strainRightOf_16 rfl ?_
    refine sw_getI (pc := 17) C kfX8_9 sh34 rfl dX8_strainRightOf_17 ?_
    refine sw_icmp_gt (pc := 20) 50 C dX8_strainRightOf_20 (by decide) ?_ ?_
    · refine sw_iloadn (pc := 50) 3 2 C dX8_strainRightOf_50 rfl ?_
      exact sw_reti (pc := 51) C M dX8_strainRightOf_51
    · refine sw_iloadn (pc := 23) 1 1 C dX8_strainRightOf_23 rfl ?_
      refine sw_iload (pc := 24) 3 C dX8_strainRightOf_24 rfl ?_
      refine sw_iconst (pc := 26) (v := 1) C dX8_strainRightOf_26 (by decide) ?_
      refine sw_isub (pc := 27) C dX8_strainRightOf_27 ?_
      refine sw_callSi (pc := 28) C (mX8_isOpen v1 (v4 - 1)) sgX8_isOpen mlX8_28 dX8_strainRightOf_28 (by decide) [.int v1, .int (v4 - 1)] [] rfl rfl rfl (Nat.le_of_ble_eq_true rfl) (fun r3 σ4 => ?_)
      refine sw_if_eq (pc := 31) 50 C dX8_strainRightOf_31 (by decide) ?_ ?_
      · refine sw_iloadn (pc := 50) 3 2 C dX8_strainRightOf_50 rfl ?_
        exact sw_reti (pc := 51) C M dX8_strainRightOf_51
      · refine sw_iloadn (pc := 34) 3 2 C dX8_strainRightOf_34 rfl ?_
        refine sw_aloadn (pc := 35) 0 0 C dX8_strainRightOf_35 rfl ?_
        refine sw_getR (pc := 36) C kfX8_15 sh34 rfl dX8_strainRightOf_36 ?_
        refine sw_iload (pc := 39) 3 C dX8_strainRightOf_39 rfl ?_
        refine sw_iald (pc := 41) C sh35 dX8_strainRightOf_41 ?_
        refine sw_iadd (pc := 42) C dX8_strainRightOf_42 ?_
        refine sw_leti (fun x5 => ?_)
        refine sw_istoren (pc := 43) 3 [(3, .int x5), (0, .ref (ad 34)), (1, .int v1), (4, .int v4)] C dX8_strainRightOf_43 (by rw [hn]; decide) rfl ?_
        refine sw_iinc (pc := 44) (v4 + 1) 3 [(4, .int (v4 + 1)), (3, .int x5), (0, .ref (ad 34)), (1, .int v1)] C dX8_strainRightOf_44 (by rw [hn]; decide) rfl rfl rfl ?_
        refine sw_goto (pc := 47) 14 C dX8_strainRightOf_47 (by decide) ?_
        refine sw_lpick (pc := 14) (L' := [(0, .ref (ad 34)), (1, .int v1), (3, .int x5), (4, .int (v4 + 1))]) [2, 3, 1, 0] rfl ?_
        exact ih _ _ _ _
set_option maxRecDepth 100000 in
set_option maxHeartbeats 4000000 in
theorem mX8_strainRightOf   (a0 : Int32) (a1 : Int32) : sw_Ki yX8_strainRightOf cX8_strainRightOf 5 (some .int) 2 (fun ad => [.ref (ad 34), .int a0, .int a1]) (fX8_strainRightOf a0 a1) := by
  refine sw_enteri (by decide) (fun ad => Nat.le_of_ble_eq_true rfl) (fun X ad t σ C hn M => ?_)
  change sw_J X ad t 0 [(0, .ref (ad 34)), (1, .int a0), (2, .int a1)] [] σ _
  replace C : sw_C X ad cX8_strainRightOf RX8 2 := C
  unfold fX8_strainRightOf
  refine sw_aloadn (pc := 0) 0 0 C dX8_strainRightOf_0 rfl ?_
  refine sw_getR (pc := 1) C kfX8_15 sh34 rfl dX8_strainRightOf_1 ?_
  refine sw_iloadn (pc := 4) 2 2 C dX8_strainRightOf_4 rfl ?_
  refine sw_iconst (pc := 5) (v := 1) C dX8_strainRightOf_5 (by decide) ?_
  refine sw_iadd (pc := 6) C dX8_strainRightOf_6 ?_
  refine sw_iald (pc := 7) C sh35 dX8_strainRightOf_7 ?_
  refine sw_leti (fun x1 => ?_)
  refine sw_istoren (pc := 8) 3 [(3, .int x1), (0, .ref (ad 34)), (1, .int a0), (2, .int a1)] C dX8_strainRightOf_8 (by rw [hn]; decide) rfl ?_
  refine sw_iloadn (pc := 9) 2 3 C dX8_strainRightOf_9 rfl ?_
  refine sw_iconst (pc := 10) (v := 2) C dX8_strainRightOf_10 (by decide) ?_
  refine sw_iadd (pc := 11) C dX8_strainRightOf_11 ?_
  refine sw_leti (fun x2 => ?_)
  refine sw_istore (pc := 12) [(4, .int x2), (3, .int x1), (0, .ref (ad 34)), (1, .int a0), (2, .int a1)] C dX8_strainRightOf_12 (by rw [hn]; decide) rfl ?_
  refine sw_lpick (pc := 14) (L' := [(0, .ref (ad 34)), (1, .int a0), (3, .int x1), (4, .int x2)]) [2, 3, 1, 0] rfl ?_
  exact jX8_strainRightOf_L14 C hn M  _ _ _ _ _
set_option maxRecDepth 100000 in
set_option maxHeartbeats 4000000 in
theorem mX8_costThrough   (a0 : Int32) (a1 : Int32) : sw_Ki yX8_costThrough cX8_costThrough 3 (some .int) 3 (fun ad => [.ref (ad 34), .int a0, .int a1]) (fX8_costThrough a0 a1) := by
  refine sw_enteri (by decide) (fun ad => Nat.le_of_ble_eq_true rfl) (fun X ad t σ C hn M => ?_)
  change sw_J X ad t 0 [(0, .ref (ad 34)), (1, .int a0), (2, .int a1)] [] σ _
  replace C : sw_C X ad cX8_costThrough RX8 3 := C
  unfold fX8_costThrough
  refine sw_aloadn (pc := 0) 0 0 C dX8_costThrough_0 rfl ?_
  refine sw_iloadn (pc := 1) 1 1 C dX8_costThrough_1 rfl ?_
  refine sw_iloadn (pc := 2) 2 2 C dX8_costThrough_2 rfl ?_
  refine sw_callVi (pc := 3) C (mX8_strainLeftOf a0 a1) sgX8_strainLeftOf mlX8_44 dX8_costThrough_3 (by decide) [.int a0, .int a1] [] sh34 rfl rfl rfl rfl (Nat.le_of_ble_eq_true rfl) (fun r1 σ2 => ?_)
  refine sw_aloadn (pc := 6) 0 0 C dX8_costThrough_6 rfl ?_
  refine sw_iloadn (pc := 7) 1 1 C dX8_costThrough_7 rfl ?_
  refine sw_iloadn (pc := 8) 2 2 C dX8_costThrough_8 rfl ?_
  refine sw_callVi (pc := 9) C (mX8_strainRightOf a0 a1) sgX8_strainRightOf mlX8_47 dX8_costThrough_9 (by decide) [.int a0, .int a1] [.int r1] sh34 rfl rfl rfl rfl (Nat.le_of_ble_eq_true rfl) (fun r3 σ4 => ?_)
  refine sw_isub (pc := 12) C dX8_costThrough_12 ?_
  refine sw_callSi (pc := 13) C (mJ9_abs_0f7a4 (r1 - r3)) sgJ9_abs_0f7a4 mlX8_50 dX8_costThrough_13 (by decide) [.int (r1 - r3)] [] rfl rfl rfl (Nat.le_of_ble_eq_true rfl) (fun r5 σ6 => ?_)
  refine sw_aloadn (pc := 16) 0 0 C dX8_costThrough_16 rfl ?_
  refine sw_getR (pc := 17) C kfX8_19 sh34 rfl dX8_costThrough_17 ?_
  refine sw_iloadn (pc := 20) 1 1 C dX8_costThrough_20 rfl ?_
  refine sw_iconst (pc := 21) (v := 1) C dX8_costThrough_21 (by decide) ?_
  refine sw_iloadn (pc := 22) 2 2 C dX8_costThrough_22 rfl ?_
  refine sw_ishl (pc := 23) C dX8_costThrough_23 ?_
  refine sw_ior (pc := 24) C dX8_costThrough_24 ?_
  refine sw_iald (pc := 25) C sh36 dX8_costThrough_25 ?_
  refine sw_iadd (pc := 26) C dX8_costThrough_26 ?_
  exact sw_reti (pc := 27) C M dX8_costThrough_27
set_option maxRecDepth 100000 in
set_option maxHeartbeats 4000000 in
theorem jX8_weighOrders_B72 {X : sw_X} {ad : Nat → Nat} {t : Unit × sw_St} (C : sw_C X ad cX8_weighOrders RX8 4) (hn : sw_nL X = 4) (M : sw_Mv X ad none t)   {K20 : Int32 → sw_St → Option (Unit × sw_St)} (hK20 : ∀ (z2 : Int32) (τ : sw_St), sw_J X ad t 20 [(0, .ref (ad 34)), (2, .int z2)] [] τ (K20 z2 τ)) {K35 : Int32 → Int32 → sw_St → Option (Unit × sw_St)} (hK35 : ∀ (z2 : Int32) (z3 : Int32) (τ : sw_St), sw_J X ad t 35 [(0, .ref (ad 34)), (2, .int z2), (3, .int z3)] [] τ (K35 z2 z3 τ)) (v2 : Int32) (v3 : Int32) (σ : sw_St) : sw_J X ad t 72 [(0, .ref (ad 34)), (2, .int v2), (3, .int v3)] [] σ (fX8_weighOrders_B72 K20 K35 v2 v3 σ) := by
  unfold fX8_weighOrders_B72
  refine sw_iinc (pc := 72) (v3 + 1) 2 [(3, .int (v3 + 1)), (0, .ref (ad 34)), (2, .int v2)] C dX8_weighOrders_72 (by rw [hn]; decide) rfl rfl rfl ?_
  refine sw_goto (pc := 75) 35 C dX8_weighOrders_75 (by decide) ?_
  refine sw_lpick (pc := 35) (L' := [(0, .ref (ad 34)), (2, .int v2), (3, .int (v3 + 1))]) [1, 2, 0] rfl ?_
  exact hK35 _ _ _
set_option maxRecDepth 100000 in
set_option maxHeartbeats 4000000 in
theorem jX8_weighOrders_L35 {X : sw_X} {ad : Nat → Nat} {t : Unit × sw_St} (C : sw_C X ad cX8_weighOrders RX8 4) (hn : sw_nL X = 4) (M : sw_Mv X ad none t)   {K20 : Int32 → sw_St → Option (Unit × sw_St)} (hK20 : ∀ (z2 : Int32) (τ : sw_St), sw_J X ad t 20 [(0, .ref (ad 34)), (2, .int z2)] [] τ (K20 z2 τ)) : ∀ (n : Nat) (v2 : Int32) (v3 : Int32) (σ : sw_St), sw_J X ad t 35 [(0, .ref (ad 34)), (2, .int v2), (3, .int v3)] [] σ (fX8_weighOrders_L35 K20 n v2 v3 σ) := by
  intro n
  induction n with
  | zero => exact fun _ _ _ => sw_none
  | succ n ih =>
    intro v2 v3 σ
    unfold fX8_weighOrders_L35
    refine sw_iloadn (pc := 35) 3 2 C dX8_weighOrders_35 rfl ?_
    refine sw_aloadn (pc := 36) 0 0 C dX8_weighOrders_36 rfl ?_
    refine sw_getI (pc := 37) C kfX8_9 sh34 rfl dX8_weighOrders_37 ?_
    refine sw_icmp_ge (pc := 40) 78 C dX8_weighOrders_40 (by decide) ?_ ?_
    · refine sw_iinc (pc := 78) (v2 + (-1)) 1 [(2, .int (v2 + (-1))), (0, .ref (ad 34)), (3, .int v3)] C dX8_weighOrders_78 (by rw [hn]; decide) rfl rfl rfl ?_
      refine sw_goto (pc := 81) 20 C dX8_weighOrders_81 (by decide) ?_
      refine sw_lpick (pc := 20) (L' := [(0, .ref (ad 34)), (2, .int (v2 + (-1)))]) [1, 0] rfl ?_
      exact hK20 _ _
    · refine sw_iloadn (pc := 43) 2 1 C dX8_weighOrders_43 rfl ?_
      refine sw_iloadn (pc := 44) 3 2 C dX8_weighOrders_44 rfl ?_
      refine sw_callSi (pc := 45) C (mX8_isOpen v2 v3) sgX8_isOpen mlX8_28 dX8_weighOrders_45 (by decide) [.int v2, .int v3] [] rfl rfl rfl (Nat.le_of_ble_eq_true rfl) (fun r5 σ6 => ?_)
      refine sw_if_eq (pc := 48) 72 C dX8_weighOrders_48 (by decide) ?_ ?_
      · exact jX8_weighOrders_B72 C hn M hK20 ih _ _ _
      · refine sw_aloadn (pc := 51) 0 0 C dX8_weighOrders_51 rfl ?_
        refine sw_getR (pc := 52) C kfX8_19 sh34 rfl dX8_weighOrders_52 ?_
        refine sw_iloadn (pc := 55) 2 1 C dX8_weighOrders_55 rfl ?_
        refine sw_aloadn (pc := 56) 0 0 C dX8_weighOrders_56 rfl ?_
        refine sw_getR (pc := 57) C kfX8_19 sh34 rfl dX8_weighOrders_57 ?_
        refine sw_iloadn (pc := 60) 2 1 C dX8_weighOrders_60 rfl ?_
        refine sw_iald (pc := 61) C sh36 dX8_weighOrders_61 ?_
        refine sw_aloadn (pc := 62) 0 0 C dX8_weighOrders_62 rfl ?_
        refine sw_iloadn (pc := 63) 2 1 C dX8_weighOrders_63 rfl ?_
        refine sw_iloadn (pc := 64) 3 2 C dX8_weighOrders_64 rfl ?_
        refine sw_callVi (pc := 65) C (mX8_costThrough v2 v3) sgX8_costThrough mlX8_32 dX8_weighOrders_65 (by decide) [.int v2, .int v3] [.int (σ6 36 (Int32.toNatClampNeg v2)), .int v2, .ref (ad 36)] sh34 rfl rfl rfl rfl (Nat.le_of_ble_eq_true rfl) (fun r7 σ8 => ?_)
        refine sw_callSi (pc := 68) C (mJ9_min_7cf53 (σ6 36 (Int32.toNatClampNeg v2)) r7) sgJ9_min_7cf53 mlX8_35 dX8_weighOrders_68 (by decide) [.int (σ6 36 (Int32.toNatClampNeg v2)), .int r7] [.int v2, .ref (ad 36)] rfl rfl rfl (Nat.le_of_ble_eq_true rfl) (fun r9 σ10 => ?_)
        refine sw_iastL (pc := 71) C sh36 dX8_weighOrders_71 (fun σ11 => ?_)
        exact jX8_weighOrders_B72 C hn M hK20 ih _ _ _
set_option maxRecDepth 100000 in
set_option maxHeartbeats 4000000 in
theorem jX8_weighOrders_L20 {X : sw_X} {ad : Nat → Nat} {t : Unit × sw_St} (C : sw_C X ad cX8_weighOrders RX8 4) (hn : sw_nL X = 4) (M : sw_Mv X ad none t)   : ∀ (n : Nat) (v2 : Int32) (σ : sw_St), sw_J X ad t 20 [(0, .ref (ad 34)), (2, .int v2)] [] σ (fX8_weighOrders_L20  n v2 σ) := by
  intro n
  induction n with
  | zero => exact fun _ _ => sw_none
  | succ n ih =>
    intro v2 σ
    unfold fX8_weighOrders_L20
    refine sw_iloadn (pc := 20) 2 1 C dX8_weighOrders_20 rfl ?_
    refine sw_if_lt (pc := 21) 84 C dX8_weighOrders_21 (by decide) ?_ ?_
    · exact sw_retv (pc := 84) C M dX8_weighOrders_84
    · refine sw_aloadn (pc := 24) 0 0 C dX8_weighOrders_24 rfl ?_
      refine sw_getR (pc := 25) C kfX8_19 sh34 rfl dX8_weighOrders_25 ?_
      refine sw_iloadn (pc := 28) 2 1 C dX8_weighOrders_28 rfl ?_
      refine sw_sipush (pc := 29) (v := 1000) C dX8_weighOrders_29 (by decide) ?_
      refine sw_iastL (pc := 32) C sh36 dX8_weighOrders_32 (fun σ4 => ?_)
      refine sw_iconst (pc := 33) (v := 0) C dX8_weighOrders_33 (by decide) ?_
      refine sw_istoren (pc := 34) 3 [(3, .int 0), (0, .ref (ad 34)), (2, .int v2)] C dX8_weighOrders_34 (by rw [hn]; decide) rfl ?_
      refine sw_lpick (pc := 35) (L' := [(0, .ref (ad 34)), (2, .int v2), (3, .int 0)]) [1, 2, 0] rfl ?_
      exact jX8_weighOrders_L35 C hn M ih _ _ _ _
set_option maxRecDepth 100000 in
set_option maxHeartbeats 4000000 in
theorem mX8_weighOrders    : sw_Kv yX8_weighOrders cX8_weighOrders 4 none 4 (fun ad => [.ref (ad 34)]) fX8_weighOrders := by
  refine sw_enterv (by decide) (fun ad => Nat.le_of_ble_eq_true rfl) (fun X ad t σ C hn M => ?_)
  change sw_J X ad t 0 [(0, .ref (ad 34))] [] σ _
  replace C : sw_C X ad cX8_weighOrders RX8 4 := C
  unfold fX8_weighOrders
  refine sw_iconst (pc := 0) (v := 1) C dX8_weighOrders_0 (by decide) ?_
  refine sw_aloadn (pc := 1) 0 0 C dX8_weighOrders_1 rfl ?_
  refine sw_getI (pc := 2) C kfX8_9 sh34 rfl dX8_weighOrders_2 ?_
  refine sw_ishl (pc := 5) C dX8_weighOrders_5 ?_
  refine sw_iconst (pc := 6) (v := 1) C dX8_weighOrders_6 (by decide) ?_
  refine sw_isub (pc := 7) C dX8_weighOrders_7 ?_
  refine sw_leti (fun x1 => ?_)
  refine sw_istoren (pc := 8) 1 [(1, .int x1), (0, .ref (ad 34))] C dX8_weighOrders_8 (by rw [hn]; decide) rfl ?_
  refine sw_aloadn (pc := 9) 0 1 C dX8_weighOrders_9 rfl ?_
  refine sw_getR (pc := 10) C kfX8_19 sh34 rfl dX8_weighOrders_10 ?_
  refine sw_iloadn (pc := 13) 1 0 C dX8_weighOrders_13 rfl ?_
  refine sw_iconst (pc := 14) (v := 0) C dX8_weighOrders_14 (by decide) ?_
  refine sw_iastL (pc := 15) C sh36 dX8_weighOrders_15 (fun σ2 => ?_)
  refine sw_iloadn (pc := 16) 1 0 C dX8_weighOrders_16 rfl ?_
  refine sw_iconst (pc := 17) (v := 1) C dX8_weighOrders_17 (by decide) ?_
  refine sw_isub (pc := 18) C dX8_weighOrders_18 ?_
  refine sw_leti (fun x3 => ?_)
  refine sw_istoren (pc := 19) 2 [(2, .int x3), (1, .int x1), (0, .ref (ad 34))] C dX8_weighOrders_19 (by rw [hn]; decide) rfl ?_
  refine sw_lpick (pc := 20) (L' := [(0, .ref (ad 34)), (2, .int x3)]) [2, 0] rfl ?_
  exact jX8_weighOrders_L20 C hn M  _ _ _
set_option maxRecDepth 100000 in
set_option maxHeartbeats 4000000 in
theorem mX8_leastCost    : sw_Ki yX8_leastCost cX8_leastCost 1 (some .int) 1 (fun ad => [.ref (ad 34)]) fX8_leastCost := by
  refine sw_enteri (by decide) (fun ad => Nat.le_of_ble_eq_true rfl) (fun X ad t σ C hn M => ?_)
  change sw_J X ad t 0 [(0, .ref (ad 34))] [] σ _
  replace C : sw_C X ad cX8_leastCost RX8 1 := C
  unfold fX8_leastCost
  refine sw_aloadn (pc := 0) 0 0 C dX8_leastCost_0 rfl ?_
  refine sw_getR (pc := 1) C kfX8_19 sh34 rfl dX8_leastCost_1 ?_
  refine sw_iconst (pc := 4) (v := 0) C dX8_leastCost_4 (by decide) ?_
  refine sw_iald (pc := 5) C sh36 dX8_leastCost_5 ?_
  exact sw_reti (pc := 6) C M dX8_leastCost_6
set_option maxRecDepth 100000 in
set_option maxHeartbeats 4000000 in
theorem jX8_lowestBest_B35 {X : sw_X} {ad : Nat → Nat} {t : Int32 × sw_St} (C : sw_C X ad cX8_lowestBest RX8 4) (hn : sw_nL X = 3) (M : sw_Mi X ad (some .int) t)   {K2 : Int32 → Int32 → sw_St → Option (Int32 × sw_St)} (hK2 : ∀ (z1 : Int32) (z2 : Int32) (τ : sw_St), sw_J X ad t 2 [(0, .ref (ad 34)), (1, .int z1), (2, .int z2)] [] τ (K2 z1 z2 τ)) (v1 : Int32) (v2 : Int32) (σ : sw_St) : sw_J X ad t 35 [(0, .ref (ad 34)), (1, .int v1), (2, .int v2)] [] σ (fX8_lowestBest_B35 K2 v1 v2 σ) := by
  unfold fX8_lowestBest_B35
  refine sw_iinc (pc := 35) (v2 + 1) 2 [(2, .int (v2 + 1)), (0, .ref (ad 34)), (1, .int v1)] C dX8_lowestBest_35 (by rw [hn]; decide) rfl rfl rfl ?_
  refine sw_goto (pc := 38) 2 C dX8_lowestBest_38 (by decide) ?_
  refine sw_lpick (pc := 2) (L' := [(0, .ref (ad 34)), (1, .int v1), (2, .int (v2 + 1))]) [1, 2, 0] rfl ?_
  exact hK2 _ _ _
set_option maxRecDepth 100000 in
set_option maxHeartbeats 4000000 in
theorem jX8_lowestBest_L2 {X : sw_X} {ad : Nat → Nat} {t : Int32 × sw_St} (C : sw_C X ad cX8_lowestBest RX8 4) (hn : sw_nL X = 3) (M : sw_Mi X ad (some .int) t)   : ∀ (n : Nat) (v1 : Int32) (v2 : Int32) (σ : sw_St), sw_J X ad t 2 [(0, .ref (ad 34)), (1, .int v1), (2, .int v2)] [] σ (fX8_lowestBest_L2  n v1 v2 σ) := by
  intro n
  induction n with
  | zero => exact fun _ _ _ => sw_none
  | succ n ih =>
    intro v1 v2 σ
    unfold fX8_lowestBest_L2
    refine sw_iloadn (pc := 2) 2 2 C dX8_lowestBest_2 rfl ?_
    refine sw_aloadn (pc := 3) 0 0 C dX8_lowestBest_3 rfl ?_
    refine sw_getI (pc := 4) C kfX8_9 sh34 rfl dX8_lowestBest_4 ?_
    refine sw_icmp_ge (pc := 7) 41 C dX8_lowestBest_7 (by decide) ?_ ?_
    · refine sw_iconst (pc := 41) (v := 0) C dX8_lowestBest_41 (by decide) ?_
      exact sw_reti (pc := 42) C M dX8_lowestBest_42
    · refine sw_iloadn (pc := 10) 1 1 C dX8_lowestBest_10 rfl ?_
      refine sw_iloadn (pc := 11) 2 2 C dX8_lowestBest_11 rfl ?_
      refine sw_callSi (pc := 12) C (mX8_isOpen v1 v2) sgX8_isOpen mlX8_28 dX8_lowestBest_12 (by decide) [.int v1, .int v2] [] rfl rfl rfl (Nat.le_of_ble_eq_true rfl) (fun r1 σ2 => ?_)
      refine sw_if_eq (pc := 15) 35 C dX8_lowestBest_15 (by decide) ?_ ?_
      · exact jX8_lowestBest_B35 C hn M ih _ _ _
      · refine sw_aloadn (pc := 18) 0 0 C dX8_lowestBest_18 rfl ?_
        refine sw_iloadn (pc := 19) 1 1 C dX8_lowestBest_19 rfl ?_
        refine sw_iloadn (pc := 20) 2 2 C dX8_lowestBest_20 rfl ?_
        refine sw_callVi (pc := 21) C (mX8_costThrough v1 v2) sgX8_costThrough mlX8_32 dX8_lowestBest_21 (by decide) [.int v1, .int v2] [] sh34 rfl rfl rfl rfl (Nat.le_of_ble_eq_true rfl) (fun r3 σ4 => ?_)
        refine sw_aloadn (pc := 24) 0 0 C dX8_lowestBest_24 rfl ?_
        refine sw_getR (pc := 25) C kfX8_19 sh34 rfl dX8_lowestBest_25 ?_
        refine sw_iloadn (pc := 28) 1 1 C dX8_lowestBest_28 rfl ?_
        refine sw_iald (pc := 29) C sh36 dX8_lowestBest_29 ?_
        refine sw_icmp_ne (pc := 30) 35 C dX8_lowestBest_30 (by decide) ?_ ?_
        · exact jX8_lowestBest_B35 C hn M ih _ _ _
        · refine sw_iloadn (pc := 33) 2 2 C dX8_lowestBest_33 rfl ?_
          exact sw_reti (pc := 34) C M dX8_lowestBest_34
set_option maxRecDepth 100000 in
set_option maxHeartbeats 4000000 in
theorem mX8_lowestBest   (a0 : Int32) : sw_Ki yX8_lowestBest cX8_lowestBest 3 (some .int) 4 (fun ad => [.ref (ad 34), .int a0]) (fX8_lowestBest a0) := by
  refine sw_enteri (by decide) (fun ad => Nat.le_of_ble_eq_true rfl) (fun X ad t σ C hn M => ?_)
  change sw_J X ad t 0 [(0, .ref (ad 34)), (1, .int a0)] [] σ _
  replace C : sw_C X ad cX8_lowestBest RX8 4 := C
  unfold fX8_lowestBest
  refine sw_iconst (pc := 0) (v := 0) C dX8_lowestBest_0 (by decide) ?_
  refine sw_istoren (pc := 1) 2 [(2, .int 0), (0, .ref (ad 34)), (1, .int a0)] C dX8_lowestBest_1 (by rw [hn]; decide) rfl ?_
  refine sw_lpick (pc := 2) (L' := [(0, .ref (ad 34)), (1, .int a0), (2, .int 0)]) [1, 2, 0] rfl ?_
  exact jX8_lowestBest_L2 C hn M  _ _ _ _
set_option maxRecDepth 100000 in
set_option maxHeartbeats 4000000 in
theorem jX8_cutOfOrder_L4 {X : sw_X} {ad : Nat → Nat} {t : Int32 × sw_St} (C : sw_C X ad cX8_cutOfOrder RX8 5) (hn : sw_nL X = 5) (M : sw_Mi X ad (some .int) t)   : ∀ (n : Nat) (v1 : Int32) (v2 : Int32) (v3 : Int32) (σ : sw_St), sw_J X ad t 4 [(0, .ref (ad 34)), (1, .int v1), (2, .int v2), (3, .int v3)] [] σ (fX8_cutOfOrder_L4  n v1 v2 v3 σ) := by
  intro n
  induction n with
  | zero => exact fun _ _ _ _ => sw_none
  | succ n ih =>
    intro v1 v2 v3 σ
    unfold fX8_cutOfOrder_L4
    refine sw_iloadn (pc := 4) 3 3 C dX8_cutOfOrder_4 rfl ?_
    refine sw_aloadn (pc := 5) 0 0 C dX8_cutOfOrder_5 rfl ?_
    refine sw_getI (pc := 6) C kfX8_9 sh34 rfl dX8_cutOfOrder_6 ?_
    refine sw_icmp_ge (pc := 9) 40 C dX8_cutOfOrder_9 (by decide) ?_ ?_
    · refine sw_bipush (pc := 40) (v := (-9)) C dX8_cutOfOrder_40 (by decide) ?_
      exact sw_reti (pc := 42) C M dX8_cutOfOrder_42
    · refine sw_aloadn (pc := 12) 0 0 C dX8_cutOfOrder_12 rfl ?_
      refine sw_iloadn (pc := 13) 2 2 C dX8_cutOfOrder_13 rfl ?_
      refine sw_callVi (pc := 14) C (mX8_lowestBest v2) sgX8_lowestBest mlX8_40 dX8_cutOfOrder_14 (by decide) [.int v2] [] sh34 rfl rfl rfl rfl (Nat.le_of_ble_eq_true rfl) (fun r1 σ2 => ?_)
      refine sw_istore (pc := 17) [(4, .int r1), (0, .ref (ad 34)), (1, .int v1), (2, .int v2), (3, .int v3)] C dX8_cutOfOrder_17 (by rw [hn]; decide) rfl ?_
      refine sw_iloadn (pc := 19) 3 4 C dX8_cutOfOrder_19 rfl ?_
      refine sw_iloadn (pc := 20) 1 2 C dX8_cutOfOrder_20 rfl ?_
      refine sw_icmp_ne (pc := 21) 27 C dX8_cutOfOrder_21 (by decide) ?_ ?_
      · refine sw_iloadn (pc := 27) 2 3 C dX8_cutOfOrder_27 rfl ?_
        refine sw_iconst (pc := 28) (v := 1) C dX8_cutOfOrder_28 (by decide) ?_
        refine sw_iload (pc := 29) 0 C dX8_cutOfOrder_29 rfl ?_
        refine sw_ishl (pc := 31) C dX8_cutOfOrder_31 ?_
        refine sw_ior (pc := 32) C dX8_cutOfOrder_32 ?_
        refine sw_leti (fun x3 => ?_)
        refine sw_istoren (pc := 33) 2 [(2, .int x3), (4, .int r1), (0, .ref (ad 34)), (1, .int v1), (3, .int v3)] C dX8_cutOfOrder_33 (by rw [hn]; decide) rfl ?_
        refine sw_iinc (pc := 34) (v3 + 1) 4 [(3, .int (v3 + 1)), (2, .int x3), (4, .int r1), (0, .ref (ad 34)), (1, .int v1)] C dX8_cutOfOrder_34 (by rw [hn]; decide) rfl rfl rfl ?_
        refine sw_goto (pc := 37) 4 C dX8_cutOfOrder_37 (by decide) ?_
        refine sw_lpick (pc := 4) (L' := [(0, .ref (ad 34)), (1, .int v1), (2, .int x3), (3, .int (v3 + 1))]) [3, 4, 1, 0] rfl ?_
        exact ih _ _ _ _
      · refine sw_iload (pc := 24) 0 C dX8_cutOfOrder_24 rfl ?_
        exact sw_reti (pc := 26) C M dX8_cutOfOrder_26
set_option maxRecDepth 100000 in
set_option maxHeartbeats 4000000 in
theorem mX8_cutOfOrder   (a0 : Int32) : sw_Ki yX8_cutOfOrder cX8_cutOfOrder 5 (some .int) 5 (fun ad => [.ref (ad 34), .int a0]) (fX8_cutOfOrder a0) := by
  refine sw_enteri (by decide) (fun ad => Nat.le_of_ble_eq_true rfl) (fun X ad t σ C hn M => ?_)
  change sw_J X ad t 0 [(0, .ref (ad 34)), (1, .int a0)] [] σ _
  replace C : sw_C X ad cX8_cutOfOrder RX8 5 := C
  unfold fX8_cutOfOrder
  refine sw_iconst (pc := 0) (v := 0) C dX8_cutOfOrder_0 (by decide) ?_
  refine sw_istoren (pc := 1) 2 [(2, .int 0), (0, .ref (ad 34)), (1, .int a0)] C dX8_cutOfOrder_1 (by rw [hn]; decide) rfl ?_
  refine sw_iconst (pc := 2) (v := 0) C dX8_cutOfOrder_2 (by decide) ?_
  refine sw_istoren (pc := 3) 3 [(3, .int 0), (2, .int 0), (0, .ref (ad 34)), (1, .int a0)] C dX8_cutOfOrder_3 (by rw [hn]; decide) rfl ?_
  refine sw_lpick (pc := 4) (L' := [(0, .ref (ad 34)), (1, .int a0), (2, .int 0), (3, .int 0)]) [2, 3, 1, 0] rfl ?_
  exact jX8_cutOfOrder_L4 C hn M  _ _ _ _ _
set_option maxRecDepth 100000 in
set_option maxHeartbeats 4000000 in
theorem mX9_answerOfFault   (a0 : Int32) : sw_Ki yX9_answerOfFault cX9_answerOfFault 2 (some .int) 1 (fun ad => [.ref (ad 0), .int a0]) (fX9_answerOfFault a0) := by
  refine sw_enteri (by decide) (fun ad => Nat.le_of_ble_eq_true rfl) (fun X ad t σ C hn M => ?_)
  change sw_J X ad t 0 [(0, .ref (ad 0)), (1, .int a0)] [] σ _
  replace C : sw_C X ad cX9_answerOfFault RX9 1 := C
  unfold fX9_answerOfFault
  refine sw_aloadn (pc := 0) 0 0 C dX9_answerOfFault_0 rfl ?_
  refine sw_iloadn (pc := 1) 1 1 C dX9_answerOfFault_1 rfl ?_
  refine sw_putL (pc := 2) C kpX9_87 sh0 ff9_13 dX9_answerOfFault_2 (fun σ1 => ?_)
  refine sw_bipush (pc := 5) (v := (-10)) C dX9_answerOfFault_5 (by decide) ?_
  refine sw_iloadn (pc := 7) 1 1 C dX9_answerOfFault_7 rfl ?_
  refine sw_isub (pc := 8) C dX9_answerOfFault_8 ?_
  exact sw_reti (pc := 9) C M dX9_answerOfFault_9
set_option maxRecDepth 100000 in
set_option maxHeartbeats 4000000 in
theorem mX9_refusalOfCells   (a0 : Int32) (a1 : Int32) (a2 : Int32) (a3 : Int32) : sw_Ki yX9_refusalOfCells cX9_refusalOfCells 6 (some .int) 4 (fun ad => [.ref (ad 0), .int a0, .int a1, .int a2, .int a3]) (fX9_refusalOfCells a0 a1 a2 a3) := by
  refine sw_enteri (by decide) (fun ad => Nat.le_of_ble_eq_true rfl) (fun X ad t σ C hn M => ?_)
  change sw_J X ad t 0 [(0, .ref (ad 0)), (1, .int a0), (2, .int a1), (3, .int a2), (4, .int a3)] [] σ _
  replace C : sw_C X ad cX9_refusalOfCells RX9 4 := C
  unfold fX9_refusalOfCells
  refine sw_aloadn (pc := 0) 0 0 C dX9_refusalOfCells_0 rfl ?_
  refine sw_iconst (pc := 1) (v := 0) C dX9_refusalOfCells_1 (by decide) ?_
  refine sw_putL (pc := 2) C kpX9_87 sh0 ff9_13 dX9_refusalOfCells_2 (fun σ1 => ?_)
  refine sw_iloadn (pc := 5) 1 1 C dX9_refusalOfCells_5 rfl ?_
  refine sw_callSi (pc := 6) C (mX7_isSheet a0) sgX7_isSheet mlX9_274 dX9_refusalOfCells_6 (by decide) [.int a0] [] rfl rfl rfl (Nat.le_of_ble_eq_true rfl) (fun r2 σ3 => ?_)
  refine sw_if_ne (pc := 9) 14 C dX9_refusalOfCells_9 (by decide) ?_ ?_
  · refine sw_iloadn (pc := 14) 2 2 C dX9_refusalOfCells_14 rfl ?_
    refine sw_callSi (pc := 15) C (mX7_isLane a1) sgX7_isLane mlX9_277 dX9_refusalOfCells_15 (by decide) [.int a1] [] rfl rfl rfl (Nat.le_of_ble_eq_true rfl) (fun r4 σ5 => ?_)
    refine sw_if_ne (pc := 18) 24 C dX9_refusalOfCells_18 (by decide) ?_ ?_
    · refine sw_aloadn (pc := 24) 0 0 C dX9_refusalOfCells_24 rfl ?_
      refine sw_getR (pc := 25) C kfX9_12 sh0 ff9_0 dX9_refusalOfCells_25 ?_
      refine sw_iloadn (pc := 28) 1 1 C dX9_refusalOfCells_28 rfl ?_
      refine sw_iloadn (pc := 29) 2 2 C dX9_refusalOfCells_29 rfl ?_
      refine sw_callVi (pc := 30) C (mX7_faultOfRow a0 a1) sgX7_faultOfRow mlX9_298 dX9_refusalOfCells_30 (by decide) [.int a0, .int a1] [] sh1 rfl rfl rfl rfl (Nat.le_of_ble_eq_true rfl) (fun r6 σ7 => ?_)
      refine sw_istore (pc := 33) [(5, .int r6), (0, .ref (ad 0)), (1, .int a0), (2, .int a1), (3, .int a2), (4, .int a3)] C dX9_refusalOfCells_33 (by rw [hn]; decide) rfl ?_
      refine sw_iload (pc := 35) 0 C dX9_refusalOfCells_35 rfl ?_
      refine sw_if_eq (pc := 37) 47 C dX9_refusalOfCells_37 (by decide) ?_ ?_
      · refine sw_iload (pc := 47) 5 C dX9_refusalOfCells_47 rfl ?_
        refine sw_if_ge (pc := 49) 58 C dX9_refusalOfCells_49 (by decide) ?_ ?_
        · refine sw_aloadn (pc := 58) 0 1 C dX9_refusalOfCells_58 rfl ?_
          refine sw_getR (pc := 59) C kfX9_12 sh0 ff9_0 dX9_refusalOfCells_59 ?_
          refine sw_iloadn (pc := 62) 1 2 C dX9_refusalOfCells_62 rfl ?_
          refine sw_iloadn (pc := 63) 3 4 C dX9_refusalOfCells_63 rfl ?_
          refine sw_iload (pc := 64) 5 C dX9_refusalOfCells_64 rfl ?_
          refine sw_callVi (pc := 66) C (mX7_hasCells a0 a2 a3) sgX7_hasCells mlX9_307 dX9_refusalOfCells_66 (by decide) [.int a0, .int a2, .int a3] [] sh1 rfl rfl rfl rfl (Nat.le_of_ble_eq_true rfl) (fun r8 σ9 => ?_)
          refine sw_if_eq (pc := 69) 76 C dX9_refusalOfCells_69 (by decide) ?_ ?_
          · refine sw_aloadn (pc := 76) 0 1 C dX9_refusalOfCells_76 rfl ?_
            refine sw_iconst (pc := 77) (v := 3) C dX9_refusalOfCells_77 (by decide) ?_
            refine sw_callVi (pc := 78) C (mX9_answerOfFault 3) sgX9_answerOfFault mlX9_280 dX9_refusalOfCells_78 (by decide) [.int 3] [] sh0 rfl rfl rfl rfl (Nat.le_of_ble_eq_true rfl) (fun r10 σ11 => ?_)
            exact sw_reti (pc := 81) C M dX9_refusalOfCells_81
          · refine sw_iconst (pc := 72) (v := 0) C dX9_refusalOfCells_72 (by decide) ?_
            refine sw_goto (pc := 73) 81 C dX9_refusalOfCells_73 (by decide) ?_
            exact sw_reti (pc := 81) C M dX9_refusalOfCells_81
        · refine sw_aloadn (pc := 52) 0 1 C dX9_refusalOfCells_52 rfl ?_
          refine sw_iconst (pc := 53) (v := 4) C dX9_refusalOfCells_53 (by decide) ?_
          refine sw_callVi (pc := 54) C (mX9_answerOfFault 4) sgX9_answerOfFault mlX9_280 dX9_refusalOfCells_54 (by decide) [.int 4] [] sh0 rfl rfl rfl rfl (Nat.le_of_ble_eq_true rfl) (fun r12 σ13 => ?_)
          exact sw_reti (pc := 57) C M dX9_refusalOfCells_57
      · refine sw_aloadn (pc := 40) 0 1 C dX9_refusalOfCells_40 rfl ?_
        refine sw_iload (pc := 41) 0 C dX9_refusalOfCells_41 rfl ?_
        refine sw_callVi (pc := 43) C (mX9_answerOfFault r6) sgX9_answerOfFault mlX9_280 dX9_refusalOfCells_43 (by decide) [.int r6] [] sh0 rfl rfl rfl rfl (Nat.le_of_ble_eq_true rfl) (fun r14 σ15 => ?_)
        exact sw_reti (pc := 46) C M dX9_refusalOfCells_46
    · refine sw_bipush (pc := 21) (v := (-2)) C dX9_refusalOfCells_21 (by decide) ?_
      exact sw_reti (pc := 23) C M dX9_refusalOfCells_23
  · refine sw_iconst (pc := 12) (v := (-1)) C dX9_refusalOfCells_12 (by decide) ?_
    exact sw_reti (pc := 13) C M dX9_refusalOfCells_13
set_option maxRecDepth 100000 in
set_option maxHeartbeats 4000000 in
theorem mX9_saw   (a0 : Int32) (a1 : Int32) (a2 : Int32) (a3 : Int32) : sw_Ki yX9_saw cX9_saw 7 (some .int) 6 (fun ad => [.ref (ad 0), .int a0, .int a1, .int a2, .int a3]) (fX9_saw a0 a1 a2 a3) := by
  refine sw_enteri (by decide) (fun ad => Nat.le_of_ble_eq_true rfl) (fun X ad t σ C hn M => ?_)
  change sw_J X ad t 0 [(0, .ref (ad 0)), (1, .int a0), (2, .int a1), (3, .int a2), (4, .int a3)] [] σ _
  replace C : sw_C X ad cX9_saw RX9 6 := C
  unfold fX9_saw
  refine sw_aloadn (pc := 0) 0 0 C dX9_saw_0 rfl ?_
  refine sw_iloadn (pc := 1) 1 1 C dX9_saw_1 rfl ?_
  refine sw_iloadn (pc := 2) 2 2 C dX9_saw_2 rfl ?_
  refine sw_iloadn (pc := 3) 3 3 C dX9_saw_3 rfl ?_
  refine sw_iload (pc := 4) 4 C dX9_saw_4 rfl ?_
  refine sw_callVi (pc := 6) C (mX9_refusalOfCells a0 a1 a2 a3) sgX9_refusalOfCells mlX9_90 dX9_saw_6 (by decide) [.int a0, .int a1, .int a2, .int a3] [] sh0 rfl rfl rfl rfl (Nat.le_of_ble_eq_true rfl) (fun r1 σ2 => ?_)
  refine sw_istore (pc := 9) [(5, .int r1), (0, .ref (ad 0)), (1, .int a0), (2, .int a1), (3, .int a2), (4, .int a3)] C dX9_saw_9 (by rw [hn]; decide) rfl ?_
  refine sw_iload (pc := 11) 0 C dX9_saw_11 rfl ?_
  refine sw_if_eq (pc := 13) 19 C dX9_saw_13 (by decide) ?_ ?_
  · refine sw_aloadn (pc := 19) 0 1 C dX9_saw_19 rfl ?_
    refine sw_getR (pc := 20) C kfX9_25 sh0 ff9_2 dX9_saw_20 ?_
    refine sw_aloadn (pc := 23) 0 1 C dX9_saw_23 rfl ?_
    refine sw_getR (pc := 24) C kfX9_12 sh0 ff9_0 dX9_saw_24 ?_
    refine sw_iloadn (pc := 27) 1 2 C dX9_saw_27 rfl ?_
    refine sw_iloadn (pc := 28) 3 4 C dX9_saw_28 rfl ?_
    refine sw_iload (pc := 29) 5 C dX9_saw_29 rfl ?_
    refine sw_callVi (pc := 31) C (mX6_read saw9 a0 a2 a3) sgX6_read mlX9_94 dX9_saw_31 (by decide) [.ref (ad 1), .int a0, .int a2, .int a3] [] saw9.1 rfl rfl rfl rfl (Nat.le_of_ble_eq_true rfl) (fun r3 σ4 => ?_)
    refine sw_istore (pc := 34) [(6, .int r3), (5, .int r1), (0, .ref (ad 0)), (1, .int a0), (2, .int a1), (3, .int a2), (4, .int a3)] C dX9_saw_34 (by rw [hn]; decide) rfl ?_
    refine sw_iload (pc := 36) 0 C dX9_saw_36 rfl ?_
    refine sw_iconst (pc := 38) (v := (-1)) C dX9_saw_38 (by decide) ?_
    refine sw_icmp_eq (pc := 39) 48 C dX9_saw_39 (by decide) ?_ ?_
    · refine sw_aloadn (pc := 48) 0 2 C dX9_saw_48 rfl ?_
      refine sw_getR (pc := 49) C kfX9_21 sh0 ff9_1 dX9_saw_49 ?_
      refine sw_aloadn (pc := 52) 0 2 C dX9_saw_52 rfl ?_
      refine sw_getR (pc := 53) C kfX9_25 sh0 ff9_2 dX9_saw_53 ?_
      refine sw_callVv (pc := 56) C (mX6_become saw5 saw9) sgX6_become mlX9_98 dX9_saw_56 (by decide) [.ref (ad 9)] [] saw5.1 rfl rfl rfl rfl (Nat.le_of_ble_eq_true rfl) (fun r5 σ6 => ?_)
      refine sw_aloadn (pc := 59) 0 2 C dX9_saw_59 rfl ?_
      refine sw_getR (pc := 60) C kfX9_58 sh0 ff9_8 dX9_saw_60 ?_
      refine sw_iconst (pc := 63) (v := 0) C dX9_saw_63 (by decide) ?_
      refine sw_putL (pc := 64) C kpX9_102 sh26 rfl dX9_saw_64 (fun σ7 => ?_)
      refine sw_aloadn (pc := 67) 0 2 C dX9_saw_67 rfl ?_
      refine sw_getR (pc := 68) C kfX9_65 sh0 ff9_9 dX9_saw_68 ?_
      refine sw_iconst (pc := 71) (v := 0) C dX9_saw_71 (by decide) ?_
      refine sw_putL (pc := 72) C kpX9_105 sh30 rfl dX9_saw_72 (fun σ8 => ?_)
      refine sw_aloadn (pc := 75) 0 2 C dX9_saw_75 rfl ?_
      refine sw_getR (pc := 76) C kfX9_21 sh0 ff9_1 dX9_saw_76 ?_
      refine sw_getI (pc := 79) C kfX9_106 saw5.1 rfl dX9_saw_79 ?_
      exact sw_reti (pc := 82) C M dX9_saw_82
    · refine sw_bipush (pc := 42) (v := (-100)) C dX9_saw_42 (by decide) ?_
      refine sw_iload (pc := 44) 0 C dX9_saw_44 rfl ?_
      refine sw_isub (pc := 46) C dX9_saw_46 ?_
      exact sw_reti (pc := 47) C M dX9_saw_47
  · refine sw_iload (pc := 16) 0 C dX9_saw_16 rfl ?_
    exact sw_reti (pc := 18) C M dX9_saw_18
