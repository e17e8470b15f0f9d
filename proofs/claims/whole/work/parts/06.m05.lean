set_option maxRecDepth 100000 in
set_option maxHeartbeats 4000000 in
theorem mX10_noFlaw   (a0 : Int32) : sw_Ki yX10_noFlaw cX10_noFlaw 2 (some .boolean) 2 (fun ad => [.ref (ad 37), .int a0]) (fX10_noFlaw a0) := by
  refine sw_enteri (by decide) (fun ad => Nat.le_of_ble_eq_true rfl) (fun X ad t σ C hn M => ?_)
  change sw_J X ad t 0 [(0, .ref (ad 37)), (1, .int a0)] [] σ _
  replace C : sw_C X ad cX10_noFlaw RX10 2 := C
  unfold fX10_noFlaw
  refine sw_iloadn (pc := 0) 1 1 C dX10_noFlaw_0 rfl ?_
  refine sw_i2l (pc := 1) C dX10_noFlaw_1 ?_
  refine sw_lconst (pc := 2) (v := 0) C dX10_noFlaw_2 (by decide) ?_
  refine sw_aloadn (pc := 3) 0 0 C dX10_noFlaw_3 rfl ?_
  refine sw_getI (pc := 4) C kfX10_142 sh37 ff10_24 dX10_noFlaw_4 ?_
  refine sw_i2l (pc := 7) C dX10_noFlaw_7 ?_
  refine sw_lconst (pc := 8) (v := 1) C dX10_noFlaw_8 (by decide) ?_
  refine sw_lsub (pc := 9) C dX10_noFlaw_9 ?_
  refine sw_callSi (pc := 10) C (mX10_in (Int32.toInt64 a0) (0 : Int64) ((Int32.toInt64 (σ 37 24)) - (1 : Int64))) sgX10_in mlX10_105 dX10_noFlaw_10 (by decide) [.long (Int32.toInt64 a0), .long (0 : Int64), .long ((Int32.toInt64 (σ 37 24)) - (1 : Int64))] [] rfl rfl rfl (Nat.le_of_ble_eq_true rfl) (fun r1 σ2 => ?_)
  refine sw_if_ne (pc := 13) 20 C dX10_noFlaw_13 (by decide) ?_ ?_
  · refine sw_iconst (pc := 20) (v := 0) C dX10_noFlaw_20 (by decide) ?_
    exact sw_retiz (pc := 21) rfl C M dX10_noFlaw_21
  · refine sw_iconst (pc := 16) (v := 1) C dX10_noFlaw_16 (by decide) ?_
    refine sw_goto (pc := 17) 21 C dX10_noFlaw_17 (by decide) ?_
    exact sw_retiz (pc := 21) rfl C M dX10_noFlaw_21
set_option maxRecDepth 100000 in
set_option maxHeartbeats 4000000 in
theorem mX10_flaw   (a0 : Int32) (a1 : Int32) (a2 : Int32) : sw_Ki yX10_flaw cX10_flaw 4 (some .int) 3 (fun ad => [.ref (ad 37), .int a0, .int a1, .int a2]) (fX10_flaw a0 a1 a2) := by
  refine sw_enteri (by decide) (fun ad => Nat.le_of_ble_eq_true rfl) (fun X ad t σ C hn M => ?_)
  change sw_J X ad t 0 [(0, .ref (ad 37)), (1, .int a0), (2, .int a1), (3, .int a2)] [] σ _
  replace C : sw_C X ad cX10_flaw RX10 3 := C
  unfold fX10_flaw
  refine sw_aloadn (pc := 0) 0 0 C dX10_flaw_0 rfl ?_
  refine sw_iloadn (pc := 1) 1 1 C dX10_flaw_1 rfl ?_
  refine sw_callVi (pc := 2) C (mX10_noTooth a0) sgX10_noTooth mlX10_151 dX10_flaw_2 (by decide) [.int a0] [] sh37 rfl rfl rfl rfl (Nat.le_of_ble_eq_true rfl) (fun r1 σ2 => ?_)
  refine sw_if_eq (pc := 5) 10 C dX10_flaw_5 (by decide) ?_ ?_
  · refine sw_iloadn (pc := 10) 2 2 C dX10_flaw_10 rfl ?_
    refine sw_i2l (pc := 11) C dX10_flaw_11 ?_
    refine sw_lconst (pc := 12) (v := 0) C dX10_flaw_12 (by decide) ?_
    refine sw_ldc2 (pc := 13) C dX10_flaw_13 klX10_103 ?_
    refine sw_callSi (pc := 16) C (mX10_in (Int32.toInt64 a1) (0 : Int64) (2 : Int64)) sgX10_in mlX10_105 dX10_flaw_16 (by decide) [.long (Int32.toInt64 a1), .long (0 : Int64), .long (2 : Int64)] [] rfl rfl rfl (Nat.le_of_ble_eq_true rfl) (fun r3 σ4 => ?_)
    refine sw_if_eq (pc := 19) 34 C dX10_flaw_19 (by decide) ?_ ?_
    · refine sw_bipush (pc := 34) (v := (-2)) C dX10_flaw_34 (by decide) ?_
      exact sw_reti (pc := 36) C M dX10_flaw_36
    · refine sw_iloadn (pc := 22) 3 3 C dX10_flaw_22 rfl ?_
      refine sw_i2l (pc := 23) C dX10_flaw_23 ?_
      refine sw_lconst (pc := 24) (v := 0) C dX10_flaw_24 (by decide) ?_
      refine sw_ldc2 (pc := 25) C dX10_flaw_25 klX10_122 ?_
      refine sw_callSi (pc := 28) C (mX10_in (Int32.toInt64 a2) (0 : Int64) (9 : Int64)) sgX10_in mlX10_105 dX10_flaw_28 (by decide) [.long (Int32.toInt64 a2), .long (0 : Int64), .long (9 : Int64)] [] rfl rfl rfl (Nat.le_of_ble_eq_true rfl) (fun r5 σ6 => ?_)
      refine sw_if_ne (pc := 31) 37 C dX10_flaw_31 (by decide) ?_ ?_
      · refine sw_aloadn (pc := 37) 0 0 C dX10_flaw_37 rfl ?_
        refine sw_getI (pc := 38) C kfX10_142 sh37 ff10_24 dX10_flaw_38 ?_
        refine sw_bipush (pc := 41) (v := 6) C dX10_flaw_41 (by decide) ?_
        refine sw_icmp_ne (pc := 43) 49 C dX10_flaw_43 (by decide) ?_ ?_
        · refine sw_aloadn (pc := 49) 0 0 C dX10_flaw_49 rfl ?_
          refine sw_getR (pc := 50) C kfX10_49 sh37 ff10_25 dX10_flaw_50 ?_
          refine sw_aloadn (pc := 53) 0 0 C dX10_flaw_53 rfl ?_
          refine sw_getI (pc := 54) C kfX10_142 sh37 ff10_24 dX10_flaw_54 ?_
          refine sw_iloadn (pc := 57) 1 1 C dX10_flaw_57 rfl ?_
          refine sw_iastL (pc := 58) C sh51 dX10_flaw_58 (fun σ7 => ?_)
          refine sw_aloadn (pc := 59) 0 0 C dX10_flaw_59 rfl ?_
          refine sw_getR (pc := 60) C kfX10_52 sh37 ff10_26 dX10_flaw_60 ?_
          refine sw_aloadn (pc := 63) 0 0 C dX10_flaw_63 rfl ?_
          refine sw_getI (pc := 64) C kfX10_142 sh37 ff10_24 dX10_flaw_64 ?_
          refine sw_iloadn (pc := 67) 2 2 C dX10_flaw_67 rfl ?_
          refine sw_iastL (pc := 68) C sh52 dX10_flaw_68 (fun σ8 => ?_)
          refine sw_aloadn (pc := 69) 0 0 C dX10_flaw_69 rfl ?_
          refine sw_getR (pc := 70) C kfX10_55 sh37 ff10_27 dX10_flaw_70 ?_
          refine sw_aloadn (pc := 73) 0 0 C dX10_flaw_73 rfl ?_
          refine sw_getI (pc := 74) C kfX10_142 sh37 ff10_24 dX10_flaw_74 ?_
          refine sw_iloadn (pc := 77) 3 3 C dX10_flaw_77 rfl ?_
          refine sw_iastL (pc := 78) C sh53 dX10_flaw_78 (fun σ9 => ?_)
          refine sw_aloadn (pc := 79) 0 0 C dX10_flaw_79 rfl ?_
          refine sw_dup (pc := 80) C dX10_flaw_80 rfl ?_
          refine sw_getI (pc := 81) C kfX10_142 sh37 ff10_24 dX10_flaw_81 ?_
          refine sw_iconst (pc := 84) (v := 1) C dX10_flaw_84 (by decide) ?_
          refine sw_iadd (pc := 85) C dX10_flaw_85 ?_
          refine sw_putL (pc := 86) C kpX10_142 sh37 ff10_24 dX10_flaw_86 (fun σ10 => ?_)
          refine sw_aloadn (pc := 89) 0 0 C dX10_flaw_89 rfl ?_
          refine sw_getI (pc := 90) C kfX10_142 sh37 ff10_24 dX10_flaw_90 ?_
          refine sw_iconst (pc := 93) (v := 1) C dX10_flaw_93 (by decide) ?_
          refine sw_isub (pc := 94) C dX10_flaw_94 ?_
          exact sw_reti (pc := 95) C M dX10_flaw_95
        · refine sw_bipush (pc := 46) (v := (-4)) C dX10_flaw_46 (by decide) ?_
          exact sw_reti (pc := 48) C M dX10_flaw_48
      · refine sw_bipush (pc := 34) (v := (-2)) C dX10_flaw_34 (by decide) ?_
        exact sw_reti (pc := 36) C M dX10_flaw_36
  · refine sw_iconst (pc := 8) (v := (-1)) C dX10_flaw_8 (by decide) ?_
    exact sw_reti (pc := 9) C M dX10_flaw_9
set_option maxRecDepth 100000 in
set_option maxHeartbeats 4000000 in
theorem mX10_ofFlaw   (a0 : Int32) (a1 : Int32) : sw_Ki yX10_ofFlaw cX10_ofFlaw 3 (some .int) 3 (fun ad => [.ref (ad 37), .int a0, .int a1]) (fX10_ofFlaw a0 a1) := by
  refine sw_enteri (by decide) (fun ad => Nat.le_of_ble_eq_true rfl) (fun X ad t σ C hn M => ?_)
  change sw_J X ad t 0 [(0, .ref (ad 37)), (1, .int a0), (2, .int a1)] [] σ _
  replace C : sw_C X ad cX10_ofFlaw RX10 3 := C
  unfold fX10_ofFlaw
  refine sw_aloadn (pc := 0) 0 0 C dX10_ofFlaw_0 rfl ?_
  refine sw_iloadn (pc := 1) 1 1 C dX10_ofFlaw_1 rfl ?_
  refine sw_callVi (pc := 2) C (mX10_noFlaw a0) sgX10_noFlaw mlX10_225 dX10_ofFlaw_2 (by decide) [.int a0] [] sh37 rfl rfl rfl rfl (Nat.le_of_ble_eq_true rfl) (fun r1 σ2 => ?_)
  refine sw_if_eq (pc := 5) 10 C dX10_ofFlaw_5 (by decide) ?_ ?_
  · refine sw_iloadn (pc := 10) 2 2 C dX10_ofFlaw_10 rfl ?_
    refine sw_if_ne (pc := 11) 23 C dX10_ofFlaw_11 (by decide) ?_ ?_
    · refine sw_iloadn (pc := 23) 2 2 C dX10_ofFlaw_23 rfl ?_
      refine sw_iconst (pc := 24) (v := 1) C dX10_ofFlaw_24 (by decide) ?_
      refine sw_icmp_ne (pc := 25) 37 C dX10_ofFlaw_25 (by decide) ?_ ?_
      · refine sw_iloadn (pc := 37) 2 2 C dX10_ofFlaw_37 rfl ?_
        refine sw_iconst (pc := 38) (v := 2) C dX10_ofFlaw_38 (by decide) ?_
        refine sw_icmp_ne (pc := 39) 51 C dX10_ofFlaw_39 (by decide) ?_ ?_
        · refine sw_bipush (pc := 51) (v := (-2)) C dX10_ofFlaw_51 (by decide) ?_
          exact sw_reti (pc := 53) C M dX10_ofFlaw_53
        · refine sw_aloadn (pc := 42) 0 0 C dX10_ofFlaw_42 rfl ?_
          refine sw_getR (pc := 43) C kfX10_55 sh37 ff10_27 dX10_ofFlaw_43 ?_
          refine sw_iloadn (pc := 46) 1 1 C dX10_ofFlaw_46 rfl ?_
          refine sw_iald (pc := 47) C sh53 dX10_ofFlaw_47 ?_
          refine sw_goto (pc := 48) 53 C dX10_ofFlaw_48 (by decide) ?_
          exact sw_reti (pc := 53) C M dX10_ofFlaw_53
      · refine sw_aloadn (pc := 28) 0 0 C dX10_ofFlaw_28 rfl ?_
        refine sw_getR (pc := 29) C kfX10_52 sh37 ff10_26 dX10_ofFlaw_29 ?_
        refine sw_iloadn (pc := 32) 1 1 C dX10_ofFlaw_32 rfl ?_
        refine sw_iald (pc := 33) C sh52 dX10_ofFlaw_33 ?_
        refine sw_goto (pc := 34) 53 C dX10_ofFlaw_34 (by decide) ?_
        exact sw_reti (pc := 53) C M dX10_ofFlaw_53
    · refine sw_aloadn (pc := 14) 0 0 C dX10_ofFlaw_14 rfl ?_
      refine sw_getR (pc := 15) C kfX10_49 sh37 ff10_25 dX10_ofFlaw_15 ?_
      refine sw_iloadn (pc := 18) 1 1 C dX10_ofFlaw_18 rfl ?_
      refine sw_iald (pc := 19) C sh51 dX10_ofFlaw_19 ?_
      refine sw_goto (pc := 20) 53 C dX10_ofFlaw_20 (by decide) ?_
      exact sw_reti (pc := 53) C M dX10_ofFlaw_53
  · refine sw_iconst (pc := 8) (v := (-1)) C dX10_ofFlaw_8 (by decide) ?_
    exact sw_reti (pc := 9) C M dX10_ofFlaw_9
set_option maxRecDepth 100000 in
set_option maxHeartbeats 4000000 in
theorem mX10_reading   (a0 : Int32) (a1 : Int32) : sw_Ki yX10_reading cX10_reading 3 (some .int) 3 (fun ad => [.ref (ad 37), .int a0, .int a1]) (fX10_reading a0 a1) := by
  refine sw_enteri (by decide) (fun ad => Nat.le_of_ble_eq_true rfl) (fun X ad t σ C hn M => ?_)
  change sw_J X ad t 0 [(0, .ref (ad 37)), (1, .int a0), (2, .int a1)] [] σ _
  replace C : sw_C X ad cX10_reading RX10 3 := C
  unfold fX10_reading
  refine sw_aloadn (pc := 0) 0 0 C dX10_reading_0 rfl ?_
  refine sw_iloadn (pc := 1) 1 1 C dX10_reading_1 rfl ?_
  refine sw_callVi (pc := 2) C (mX10_noLine a0) sgX10_noLine mlX10_180 dX10_reading_2 (by decide) [.int a0] [] sh37 rfl rfl rfl rfl (Nat.le_of_ble_eq_true rfl) (fun r1 σ2 => ?_)
  refine sw_if_eq (pc := 5) 10 C dX10_reading_5 (by decide) ?_ ?_
  · refine sw_aloadn (pc := 10) 0 0 C dX10_reading_10 rfl ?_
    refine sw_getI (pc := 11) C kfX10_145 sh37 ff10_28 dX10_reading_11 ?_
    refine sw_bipush (pc := 14) (v := 8) C dX10_reading_14 (by decide) ?_
    refine sw_icmp_ne (pc := 16) 22 C dX10_reading_16 (by decide) ?_ ?_
    · refine sw_aloadn (pc := 22) 0 0 C dX10_reading_22 rfl ?_
      refine sw_getR (pc := 23) C kfX10_58 sh37 ff10_29 dX10_reading_23 ?_
      refine sw_aloadn (pc := 26) 0 0 C dX10_reading_26 rfl ?_
      refine sw_getI (pc := 27) C kfX10_145 sh37 ff10_28 dX10_reading_27 ?_
      refine sw_iloadn (pc := 30) 1 1 C dX10_reading_30 rfl ?_
      refine sw_iastL (pc := 31) C sh54 dX10_reading_31 (fun σ3 => ?_)
      refine sw_aloadn (pc := 32) 0 0 C dX10_reading_32 rfl ?_
      refine sw_getR (pc := 33) C kfX10_61 sh37 ff10_30 dX10_reading_33 ?_
      refine sw_aloadn (pc := 36) 0 0 C dX10_reading_36 rfl ?_
      refine sw_getI (pc := 37) C kfX10_145 sh37 ff10_28 dX10_reading_37 ?_
      refine sw_iloadn (pc := 40) 2 2 C dX10_reading_40 rfl ?_
      refine sw_iastL (pc := 41) C sh55 dX10_reading_41 (fun σ4 => ?_)
      refine sw_aloadn (pc := 42) 0 0 C dX10_reading_42 rfl ?_
      refine sw_dup (pc := 43) C dX10_reading_43 rfl ?_
      refine sw_getI (pc := 44) C kfX10_145 sh37 ff10_28 dX10_reading_44 ?_
      refine sw_iconst (pc := 47) (v := 1) C dX10_reading_47 (by decide) ?_
      refine sw_iadd (pc := 48) C dX10_reading_48 ?_
      refine sw_putL (pc := 49) C kpX10_145 sh37 ff10_28 dX10_reading_49 (fun σ5 => ?_)
      refine sw_aloadn (pc := 52) 0 0 C dX10_reading_52 rfl ?_
      refine sw_getI (pc := 53) C kfX10_145 sh37 ff10_28 dX10_reading_53 ?_
      refine sw_iconst (pc := 56) (v := 1) C dX10_reading_56 (by decide) ?_
      refine sw_isub (pc := 57) C dX10_reading_57 ?_
      exact sw_reti (pc := 58) C M dX10_reading_58
    · refine sw_bipush (pc := 19) (v := (-4)) C dX10_reading_19 (by decide) ?_
      exact sw_reti (pc := 21) C M dX10_reading_21
  · refine sw_iconst (pc := 8) (v := (-1)) C dX10_reading_8 (by decide) ?_
    exact sw_reti (pc := 9) C M dX10_reading_9
set_option maxRecDepth 100000 in
set_option maxHeartbeats 4000000 in
theorem mX10_back   (a0 : Int32) : sw_Ki yX10_back cX10_back 2 (some .int) 2 (fun ad => [.ref (ad 37), .int a0]) (fX10_back a0) := by
  refine sw_enteri (by decide) (fun ad => Nat.le_of_ble_eq_true rfl) (fun X ad t σ C hn M => ?_)
  change sw_J X ad t 0 [(0, .ref (ad 37)), (1, .int a0)] [] σ _
  replace C : sw_C X ad cX10_back RX10 2 := C
  unfold fX10_back
  refine sw_iloadn (pc := 0) 1 1 C dX10_back_0 rfl ?_
  refine sw_i2l (pc := 1) C dX10_back_1 ?_
  refine sw_lconst (pc := 2) (v := 0) C dX10_back_2 (by decide) ?_
  refine sw_aloadn (pc := 3) 0 0 C dX10_back_3 rfl ?_
  refine sw_getI (pc := 4) C kfX10_145 sh37 ff10_28 dX10_back_4 ?_
  refine sw_i2l (pc := 7) C dX10_back_7 ?_
  refine sw_callSi (pc := 8) C (mX10_in (Int32.toInt64 a0) (0 : Int64) (Int32.toInt64 (σ 37 28))) sgX10_in mlX10_105 dX10_back_8 (by decide) [.long (Int32.toInt64 a0), .long (0 : Int64), .long (Int32.toInt64 (σ 37 28))] [] rfl rfl rfl (Nat.le_of_ble_eq_true rfl) (fun r1 σ2 => ?_)
  refine sw_if_ne (pc := 11) 17 C dX10_back_11 (by decide) ?_ ?_
  · refine sw_aloadn (pc := 17) 0 0 C dX10_back_17 rfl ?_
    refine sw_dup (pc := 18) C dX10_back_18 rfl ?_
    refine sw_getI (pc := 19) C kfX10_145 sh37 ff10_28 dX10_back_19 ?_
    refine sw_iloadn (pc := 22) 1 1 C dX10_back_22 rfl ?_
    refine sw_isub (pc := 23) C dX10_back_23 ?_
    refine sw_putL (pc := 24) C kpX10_145 sh37 ff10_28 dX10_back_24 (fun σ3 => ?_)
    refine sw_aloadn (pc := 27) 0 0 C dX10_back_27 rfl ?_
    refine sw_getI (pc := 28) C kfX10_145 sh37 ff10_28 dX10_back_28 ?_
    exact sw_reti (pc := 31) C M dX10_back_31
  · refine sw_bipush (pc := 14) (v := (-2)) C dX10_back_14 (by decide) ?_
    exact sw_reti (pc := 16) C M dX10_back_16
set_option maxRecDepth 100000 in
set_option maxHeartbeats 4000000 in
theorem jX10_doesFit_B58 {X : sw_X} {ad : Nat → Nat} {t : Int32 × sw_St} (C : sw_C X ad cX10_doesFit RX10 5) (hn : sw_nL X = 3) (M : sw_Mi X ad (some .boolean) t)   {K8 : Int32 → Int32 → sw_St → Option (Int32 × sw_St)} (hK8 : ∀ (z1 : Int32) (z2 : Int32) (τ : sw_St), sw_J X ad t 8 [(0, .ref (ad 37)), (1, .int z1), (2, .int z2)] [] τ (K8 z1 z2 τ)) (v2 : Int32) (s0 : Int32) (σ : sw_St) : sw_J X ad t 58 [(0, .ref (ad 37)), (2, .int v2)] [.int s0] σ (fX10_doesFit_B58 K8 v2 s0 σ) := by
  unfold fX10_doesFit_B58
  refine sw_istoren (pc := 58) 1 [(1, .int s0), (0, .ref (ad 37)), (2, .int v2)] C dX10_doesFit_58 (by rw [hn]; decide) rfl ?_
  refine sw_iinc (pc := 59) (v2 + 1) 2 [(2, .int (v2 + 1)), (1, .int s0), (0, .ref (ad 37))] C dX10_doesFit_59 (by rw [hn]; decide) rfl rfl rfl ?_
  refine sw_goto (pc := 62) 8 C dX10_doesFit_62 (by decide) ?_
  refine sw_lpick (pc := 8) (L' := [(0, .ref (ad 37)), (1, .int s0), (2, .int (v2 + 1))]) [2, 1, 0] rfl ?_
  exact hK8 _ _ _
set_option maxRecDepth 100000 in
set_option maxHeartbeats 4000000 in
theorem jX10_doesFit_B57 {X : sw_X} {ad : Nat → Nat} {t : Int32 × sw_St} (C : sw_C X ad cX10_doesFit RX10 5) (hn : sw_nL X = 3) (M : sw_Mi X ad (some .boolean) t)   {K8 : Int32 → Int32 → sw_St → Option (Int32 × sw_St)} (hK8 : ∀ (z1 : Int32) (z2 : Int32) (τ : sw_St), sw_J X ad t 8 [(0, .ref (ad 37)), (1, .int z1), (2, .int z2)] [] τ (K8 z1 z2 τ)) (v2 : Int32) (σ : sw_St) : sw_J X ad t 57 [(0, .ref (ad 37)), (2, .int v2)] [] σ (fX10_doesFit_B57 K8 v2 σ) := by
  unfold fX10_doesFit_B57
  refine sw_iconst (pc := 57) (v := 0) C dX10_doesFit_57 (by decide) ?_
  exact jX10_doesFit_B58 C hn M hK8 _ _ _
set_option maxRecDepth 100000 in
set_option maxHeartbeats 4000000 in
theorem jX10_doesFit_L8 {X : sw_X} {ad : Nat → Nat} {t : Int32 × sw_St} (C : sw_C X ad cX10_doesFit RX10 5) (hn : sw_nL X = 3) (M : sw_Mi X ad (some .boolean) t)   : ∀ (n : Nat) (v1 : Int32) (v2 : Int32) (σ : sw_St), sw_J X ad t 8 [(0, .ref (ad 37)), (1, .int v1), (2, .int v2)] [] σ (fX10_doesFit_L8  n v1 v2 σ) := by
  intro n
  induction n with
  | zero => exact fun _ _ _ => sw_none
  | succ n ih =>
    intro v1 v2 σ
    unfold fX10_doesFit_L8
    refine sw_iloadn (pc := 8) 2 2 C dX10_doesFit_8 rfl ?_
    refine sw_aloadn (pc := 9) 0 0 C dX10_doesFit_9 rfl ?_
    refine sw_getI (pc := 10) C kfX10_145 sh37 ff10_28 dX10_doesFit_10 ?_
    refine sw_icmp_ge (pc := 13) 65 C dX10_doesFit_13 (by decide) ?_ ?_
    · refine sw_iloadn (pc := 65) 1 1 C dX10_doesFit_65 rfl ?_
      exact sw_retizg (pc := 66) C M dX10_doesFit_66
    · refine sw_iloadn (pc := 16) 1 1 C dX10_doesFit_16 rfl ?_
      refine sw_if_eq (pc := 17) 57 C dX10_doesFit_17 (by decide) ?_ ?_
      · refine sw_lpick (pc := 57) (L' := [(0, .ref (ad 37)), (2, .int v2)]) [0, 2] rfl ?_
        exact jX10_doesFit_B57 C hn M ih _ _
      · refine sw_aloadn (pc := 20) 0 0 C dX10_doesFit_20 rfl ?_
        refine sw_getR (pc := 21) C kfX10_58 sh37 ff10_29 dX10_doesFit_21 ?_
        refine sw_iloadn (pc := 24) 2 2 C dX10_doesFit_24 rfl ?_
        refine sw_iald (pc := 25) C sh54 dX10_doesFit_25 ?_
        refine sw_aloadn (pc := 26) 0 0 C dX10_doesFit_26 rfl ?_
        refine sw_getI (pc := 27) C kfX10_201 sh37 ff10_20 dX10_doesFit_27 ?_
        refine sw_icmp_ge (pc := 30) 57 C dX10_doesFit_30 (by decide) ?_ ?_
        · refine sw_lpick (pc := 57) (L' := [(0, .ref (ad 37)), (2, .int v2)]) [0, 2] rfl ?_
          exact jX10_doesFit_B57 C hn M ih _ _
        · refine sw_aloadn (pc := 33) 0 0 C dX10_doesFit_33 rfl ?_
          refine sw_getR (pc := 34) C kfX10_43 sh37 ff10_21 dX10_doesFit_34 ?_
          refine sw_aloadn (pc := 37) 0 0 C dX10_doesFit_37 rfl ?_
          refine sw_getR (pc := 38) C kfX10_58 sh37 ff10_29 dX10_doesFit_38 ?_
          refine sw_iloadn (pc := 41) 2 2 C dX10_doesFit_41 rfl ?_
          refine sw_iald (pc := 42) C sh54 dX10_doesFit_42 ?_
          refine sw_iald (pc := 43) C sh49 dX10_doesFit_43 ?_
          refine sw_aloadn (pc := 44) 0 0 C dX10_doesFit_44 rfl ?_
          refine sw_getR (pc := 45) C kfX10_61 sh37 ff10_30 dX10_doesFit_45 ?_
          refine sw_iloadn (pc := 48) 2 2 C dX10_doesFit_48 rfl ?_
          refine sw_iald (pc := 49) C sh55 dX10_doesFit_49 ?_
          refine sw_icmp_ne (pc := 50) 57 C dX10_doesFit_50 (by decide) ?_ ?_
          · refine sw_lpick (pc := 57) (L' := [(0, .ref (ad 37)), (2, .int v2)]) [0, 2] rfl ?_
            exact jX10_doesFit_B57 C hn M ih _ _
          · refine sw_iconst (pc := 53) (v := 1) C dX10_doesFit_53 (by decide) ?_
            refine sw_goto (pc := 54) 58 C dX10_doesFit_54 (by decide) ?_
            refine sw_lpick (pc := 58) (L' := [(0, .ref (ad 37)), (2, .int v2)]) [0, 2] rfl ?_
            exact jX10_doesFit_B58 C hn M ih _ _ _
set_option maxRecDepth 100000 in
set_option maxHeartbeats 4000000 in
theorem mX10_doesFit    : sw_Ki yX10_doesFit cX10_doesFit 3 (some .boolean) 5 (fun ad => [.ref (ad 37)]) fX10_doesFit := by
  refine sw_enteri (by decide) (fun ad => Nat.le_of_ble_eq_true rfl) (fun X ad t σ C hn M => ?_)
  change sw_J X ad t 0 [(0, .ref (ad 37))] [] σ _
  replace C : sw_C X ad cX10_doesFit RX10 5 := C
  unfold fX10_doesFit
  refine sw_aloadn (pc := 0) 0 0 C dX10_doesFit_0 rfl ?_
  refine sw_callVv (pc := 1) C mX10_cut sgX10_cut mlX10_210 dX10_doesFit_1 (by decide) [] [] sh37 rfl rfl rfl rfl (Nat.le_of_ble_eq_true rfl) (fun r1 σ2 => ?_)
  refine sw_iconst (pc := 4) (v := 1) C dX10_doesFit_4 (by decide) ?_
  refine sw_istoren (pc := 5) 1 [(1, .int 1), (0, .ref (ad 37))] C dX10_doesFit_5 (by rw [hn]; decide) rfl ?_
  refine sw_iconst (pc := 6) (v := 0) C dX10_doesFit_6 (by decide) ?_
  refine sw_istoren (pc := 7) 2 [(2, .int 0), (1, .int 1), (0, .ref (ad 37))] C dX10_doesFit_7 (by rw [hn]; decide) rfl ?_
  refine sw_lpick (pc := 8) (L' := [(0, .ref (ad 37)), (1, .int 1), (2, .int 0)]) [2, 1, 0] rfl ?_
  exact jX10_doesFit_L8 C hn M  _ _ _ _
set_option maxRecDepth 100000 in
set_option maxHeartbeats 4000000 in
theorem jX10_doFit_B92 {X : sw_X} {ad : Nat → Nat} {t : Int32 × sw_St} (C : sw_C X ad cX10_doFit RX10 6) (hn : sw_nL X = 6) (M : sw_Mi X ad (some .boolean) t)   (v1 : Int32) (v3 : Int32) (v5 : Int32) (σ : sw_St) : sw_J X ad t 92 [(0, .ref (ad 37)), (1, .int v1), (3, .int v3), (5, .int v5)] [] σ (fX10_doFit_B92  v1 v3 v5 σ) := by
  unfold fX10_doFit_B92
  refine sw_iloadn (pc := 92) 1 1 C dX10_doFit_92 rfl ?_
  refine sw_if_lt (pc := 93) 114 C dX10_doFit_93 (by decide) ?_ ?_
  · refine sw_iload (pc := 114) 3 C dX10_doFit_114 rfl ?_
    exact sw_retizg (pc := 116) C M dX10_doFit_116
  · refine sw_aloadn (pc := 96) 0 0 C dX10_doFit_96 rfl ?_
    refine sw_aloadn (pc := 97) 0 0 C dX10_doFit_97 rfl ?_
    refine sw_getR (pc := 98) C kfX10_49 sh37 ff10_25 dX10_doFit_98 ?_
    refine sw_iloadn (pc := 101) 1 1 C dX10_doFit_101 rfl ?_
    refine sw_iald (pc := 102) C sh51 dX10_doFit_102 ?_
    refine sw_aloadn (pc := 103) 0 0 C dX10_doFit_103 rfl ?_
    refine sw_getR (pc := 104) C kfX10_52 sh37 ff10_26 dX10_doFit_104 ?_
    refine sw_iloadn (pc := 107) 1 1 C dX10_doFit_107 rfl ?_
    refine sw_iald (pc := 108) C sh52 dX10_doFit_108 ?_
    refine sw_iloadn (pc := 109) 3 2 C dX10_doFit_109 rfl ?_
    refine sw_callVi (pc := 110) C (mX10_change (σ 51 (Int32.toNatClampNeg v1)) (σ 52 (Int32.toNatClampNeg v1)) v3) sgX10_change mlX10_157 dX10_doFit_110 (by decide) [.int (σ 51 (Int32.toNatClampNeg v1)), .int (σ 52 (Int32.toNatClampNeg v1)), .int v3] [] sh37 rfl rfl rfl rfl (Nat.le_of_ble_eq_true rfl) (fun r9 σ10 => ?_)
    refine sw_pop (pc := 113) C dX10_doFit_113 rfl ?_
    refine sw_iload (pc := 114) 3 C dX10_doFit_114 rfl ?_
    exact sw_retizg (pc := 116) C M dX10_doFit_116
set_option maxRecDepth 100000 in
set_option maxHeartbeats 4000000 in
theorem jX10_doFit_B61 {X : sw_X} {ad : Nat → Nat} {t : Int32 × sw_St} (C : sw_C X ad cX10_doFit RX10 6) (hn : sw_nL X = 6) (M : sw_Mi X ad (some .boolean) t)   (v1 : Int32) (v2 : Int32) (v3 : Int32) (s0 : Int32) (σ : sw_St) : sw_J X ad t 61 [(0, .ref (ad 37)), (1, .int v1), (2, .int v2), (3, .int v3)] [.int s0] σ (fX10_doFit_B61  v1 v2 v3 s0 σ) := by
  unfold fX10_doFit_B61
  refine sw_istore (pc := 61) [(4, .int s0), (0, .ref (ad 37)), (1, .int v1), (2, .int v2), (3, .int v3)] C dX10_doFit_61 (by rw [hn]; decide) rfl ?_
  refine sw_aloadn (pc := 63) 0 1 C dX10_doFit_63 rfl ?_
  refine sw_callVi (pc := 64) C mX10_doesFit sgX10_doesFit mlX10_228 dX10_doFit_64 (by decide) [] [] sh37 rfl rfl rfl rfl (Nat.le_of_ble_eq_true rfl) (fun r5 σ6 => ?_)
  refine sw_istore (pc := 67) [(5, .int r5), (4, .int s0), (0, .ref (ad 37)), (1, .int v1), (2, .int v2), (3, .int v3)] C dX10_doFit_67 (by rw [hn]; decide) rfl ?_
  refine sw_iloadn (pc := 69) 2 4 C dX10_doFit_69 rfl ?_
  refine sw_if_lt (pc := 70) 92 C dX10_doFit_70 (by decide) ?_ ?_
  · refine sw_lpick (pc := 92) (L' := [(0, .ref (ad 37)), (1, .int v1), (3, .int v3), (5, .int r5)]) [2, 3, 5, 0] rfl ?_
    exact jX10_doFit_B92 C hn M  _ _ _ _
  · refine sw_aloadn (pc := 73) 0 2 C dX10_doFit_73 rfl ?_
    refine sw_aloadn (pc := 74) 0 2 C dX10_doFit_74 rfl ?_
    refine sw_getR (pc := 75) C kfX10_49 sh37 ff10_25 dX10_doFit_75 ?_
    refine sw_iloadn (pc := 78) 2 4 C dX10_doFit_78 rfl ?_
    refine sw_iald (pc := 79) C sh51 dX10_doFit_79 ?_
    refine sw_aloadn (pc := 80) 0 2 C dX10_doFit_80 rfl ?_
    refine sw_getR (pc := 81) C kfX10_52 sh37 ff10_26 dX10_doFit_81 ?_
    refine sw_iloadn (pc := 84) 2 4 C dX10_doFit_84 rfl ?_
    refine sw_iald (pc := 85) C sh52 dX10_doFit_85 ?_
    refine sw_iload (pc := 86) 1 C dX10_doFit_86 rfl ?_
    refine sw_callVi (pc := 88) C (mX10_change (σ6 51 (Int32.toNatClampNeg v2)) (σ6 52 (Int32.toNatClampNeg v2)) s0) sgX10_change mlX10_157 dX10_doFit_88 (by decide) [.int (σ6 51 (Int32.toNatClampNeg v2)), .int (σ6 52 (Int32.toNatClampNeg v2)), .int s0] [] sh37 rfl rfl rfl rfl (Nat.le_of_ble_eq_true rfl) (fun r7 σ8 => ?_)
    refine sw_pop (pc := 91) C dX10_doFit_91 rfl ?_
    refine sw_lpick (pc := 92) (L' := [(0, .ref (ad 37)), (1, .int v1), (3, .int v3), (5, .int r5)]) [2, 3, 5, 0] rfl ?_
    exact jX10_doFit_B92 C hn M  _ _ _ _
set_option maxRecDepth 100000 in
set_option maxHeartbeats 4000000 in
theorem jX10_doFit_B30 {X : sw_X} {ad : Nat → Nat} {t : Int32 × sw_St} (C : sw_C X ad cX10_doFit RX10 6) (hn : sw_nL X = 6) (M : sw_Mi X ad (some .boolean) t)   (v1 : Int32) (v2 : Int32) (s0 : Int32) (σ : sw_St) : sw_J X ad t 30 [(0, .ref (ad 37)), (1, .int v1), (2, .int v2)] [.int s0] σ (fX10_doFit_B30  v1 v2 s0 σ) := by
  unfold fX10_doFit_B30
  refine sw_istoren (pc := 30) 3 [(3, .int s0), (0, .ref (ad 37)), (1, .int v1), (2, .int v2)] C dX10_doFit_30 (by rw [hn]; decide) rfl ?_
  refine sw_iloadn (pc := 31) 2 3 C dX10_doFit_31 rfl ?_
  refine sw_if_ge (pc := 32) 39 C dX10_doFit_32 (by decide) ?_ ?_
  · refine sw_aloadn (pc := 39) 0 1 C dX10_doFit_39 rfl ?_
    refine sw_aloadn (pc := 40) 0 1 C dX10_doFit_40 rfl ?_
    refine sw_getR (pc := 41) C kfX10_49 sh37 ff10_25 dX10_doFit_41 ?_
    refine sw_iloadn (pc := 44) 2 3 C dX10_doFit_44 rfl ?_
    refine sw_iald (pc := 45) C sh51 dX10_doFit_45 ?_
    refine sw_aloadn (pc := 46) 0 1 C dX10_doFit_46 rfl ?_
    refine sw_getR (pc := 47) C kfX10_52 sh37 ff10_26 dX10_doFit_47 ?_
    refine sw_iloadn (pc := 50) 2 3 C dX10_doFit_50 rfl ?_
    refine sw_iald (pc := 51) C sh52 dX10_doFit_51 ?_
    refine sw_aloadn (pc := 52) 0 1 C dX10_doFit_52 rfl ?_
    refine sw_getR (pc := 53) C kfX10_55 sh37 ff10_27 dX10_doFit_53 ?_
    refine sw_iloadn (pc := 56) 2 3 C dX10_doFit_56 rfl ?_
    refine sw_iald (pc := 57) C sh53 dX10_doFit_57 ?_
    refine sw_callVi (pc := 58) C (mX10_change (σ 51 (Int32.toNatClampNeg v2)) (σ 52 (Int32.toNatClampNeg v2)) (σ 53 (Int32.toNatClampNeg v2))) sgX10_change mlX10_157 dX10_doFit_58 (by decide) [.int (σ 51 (Int32.toNatClampNeg v2)), .int (σ 52 (Int32.toNatClampNeg v2)), .int (σ 53 (Int32.toNatClampNeg v2))] [] sh37 rfl rfl rfl rfl (Nat.le_of_ble_eq_true rfl) (fun r3 σ4 => ?_)
    refine sw_lpick (pc := 61) (L' := [(0, .ref (ad 37)), (1, .int v1), (2, .int v2), (3, .int s0)]) [1, 2, 3, 0] rfl ?_
    exact jX10_doFit_B61 C hn M  _ _ _ _ _
  · refine sw_iconst (pc := 35) (v := 0) C dX10_doFit_35 (by decide) ?_
    refine sw_goto (pc := 36) 61 C dX10_doFit_36 (by decide) ?_
    refine sw_lpick (pc := 61) (L' := [(0, .ref (ad 37)), (1, .int v1), (2, .int v2), (3, .int s0)]) [1, 2, 3, 0] rfl ?_
    exact jX10_doFit_B61 C hn M  _ _ _ _ _
set_option maxRecDepth 100000 in
set_option maxHeartbeats 4000000 in
theorem mX10_doFit   (a0 : Int32) (a1 : Int32) : sw_Ki yX10_doFit cX10_doFit 6 (some .boolean) 6 (fun ad => [.ref (ad 37), .int a0, .int a1]) (fX10_doFit a0 a1) := by
  refine sw_enteri (by decide) (fun ad => Nat.le_of_ble_eq_true rfl) (fun X ad t σ C hn M => ?_)
  change sw_J X ad t 0 [(0, .ref (ad 37)), (1, .int a0), (2, .int a1)] [] σ _
  replace C : sw_C X ad cX10_doFit RX10 6 := C
  unfold fX10_doFit
  refine sw_iloadn (pc := 0) 1 1 C dX10_doFit_0 rfl ?_
  refine sw_if_ge (pc := 1) 8 C dX10_doFit_1 (by decide) ?_ ?_
  · refine sw_aloadn (pc := 8) 0 0 C dX10_doFit_8 rfl ?_
    refine sw_aloadn (pc := 9) 0 0 C dX10_doFit_9 rfl ?_
    refine sw_getR (pc := 10) C kfX10_49 sh37 ff10_25 dX10_doFit_10 ?_
    refine sw_iloadn (pc := 13) 1 1 C dX10_doFit_13 rfl ?_
    refine sw_iald (pc := 14) C sh51 dX10_doFit_14 ?_
    refine sw_aloadn (pc := 15) 0 0 C dX10_doFit_15 rfl ?_
    refine sw_getR (pc := 16) C kfX10_52 sh37 ff10_26 dX10_doFit_16 ?_
    refine sw_iloadn (pc := 19) 1 1 C dX10_doFit_19 rfl ?_
    refine sw_iald (pc := 20) C sh52 dX10_doFit_20 ?_
    refine sw_aloadn (pc := 21) 0 0 C dX10_doFit_21 rfl ?_
    refine sw_getR (pc := 22) C kfX10_55 sh37 ff10_27 dX10_doFit_22 ?_
    refine sw_iloadn (pc := 25) 1 1 C dX10_doFit_25 rfl ?_
    refine sw_iald (pc := 26) C sh53 dX10_doFit_26 ?_
    refine sw_callVi (pc := 27) C (mX10_change (σ 51 (Int32.toNatClampNeg a0)) (σ 52 (Int32.toNatClampNeg a0)) (σ 53 (Int32.toNatClampNeg a0))) sgX10_change mlX10_157 dX10_doFit_27 (by decide) [.int (σ 51 (Int32.toNatClampNeg a0)), .int (σ 52 (Int32.toNatClampNeg a0)), .int (σ 53 (Int32.toNatClampNeg a0))] [] sh37 rfl rfl rfl rfl (Nat.le_of_ble_eq_true rfl) (fun r1 σ2 => ?_)
    exact jX10_doFit_B30 C hn M  _ _ _ _
  · refine sw_iconst (pc := 4) (v := 0) C dX10_doFit_4 (by decide) ?_
    refine sw_goto (pc := 5) 30 C dX10_doFit_5 (by decide) ?_
    exact jX10_doFit_B30 C hn M  _ _ _ _
set_option maxRecDepth 100000 in
set_option maxHeartbeats 4000000 in
theorem jX10_layLikely_B223 {X : sw_X} {ad : Nat → Nat} {t : Unit × sw_St} (C : sw_C X ad cX10_layLikely RX10 7) (hn : sw_nL X = 4) (M : sw_Mv X ad none t)   {K140 : Int32 → Int32 → sw_St → Option (Unit × sw_St)} (hK140 : ∀ (z1 : Int32) (z2 : Int32) (τ : sw_St), sw_J X ad t 140 [(0, .ref (ad 37)), (1, .int z1), (2, .int z2)] [] τ (K140 z1 z2 τ)) {K150 : Int32 → Int32 → Int32 → sw_St → Option (Unit × sw_St)} (hK150 : ∀ (z1 : Int32) (z2 : Int32) (z3 : Int32) (τ : sw_St), sw_J X ad t 150 [(0, .ref (ad 37)), (1, .int z1), (2, .int z2), (3, .int z3)] [] τ (K150 z1 z2 z3 τ)) (v1 : Int32) (v2 : Int32) (v3 : Int32) (σ : sw_St) : sw_J X ad t 223 [(0, .ref (ad 37)), (1, .int v1), (2, .int v2), (3, .int v3)] [] σ (fX10_layLikely_B223 K140 K150 v1 v2 v3 σ) := by
  unfold fX10_layLikely_B223
  refine sw_iinc (pc := 223) (v3 + 1) 3 [(3, .int (v3 + 1)), (0, .ref (ad 37)), (1, .int v1), (2, .int v2)] C dX10_layLikely_223 (by rw [hn]; decide) rfl rfl rfl ?_
  refine sw_goto (pc := 226) 150 C dX10_layLikely_226 (by decide) ?_
  refine sw_lpick (pc := 150) (L' := [(0, .ref (ad 37)), (1, .int v1), (2, .int v2), (3, .int (v3 + 1))]) [1, 2, 3, 0] rfl ?_
  exact hK150 _ _ _ _
set_option maxRecDepth 100000 in
set_option maxHeartbeats 4000000 in
theorem jX10_layLikely_B220 {X : sw_X} {ad : Nat → Nat} {t : Unit × sw_St} (C : sw_C X ad cX10_layLikely RX10 7) (hn : sw_nL X = 4) (M : sw_Mv X ad none t)   {K140 : Int32 → Int32 → sw_St → Option (Unit × sw_St)} (hK140 : ∀ (z1 : Int32) (z2 : Int32) (τ : sw_St), sw_J X ad t 140 [(0, .ref (ad 37)), (1, .int z1), (2, .int z2)] [] τ (K140 z1 z2 τ)) {K150 : Int32 → Int32 → Int32 → sw_St → Option (Unit × sw_St)} (hK150 : ∀ (z1 : Int32) (z2 : Int32) (z3 : Int32) (τ : sw_St), sw_J X ad t 150 [(0, .ref (ad 37)), (1, .int z1), (2, .int z2), (3, .int z3)] [] τ (K150 z1 z2 z3 τ)) (v1 : Int32) (v2 : Int32) (v3 : Int32) (s0 : Int32) (σ : sw_St) : sw_J X ad t 220 [(0, .ref (ad 37)), (1, .int v1), (2, .int v2), (3, .int v3)] [.int s0, .ref (ad 37)] σ (fX10_layLikely_B220 K140 K150 v1 v2 v3 s0 σ) := by
  unfold fX10_layLikely_B220
  refine sw_putL (pc := 220) C kpX10_234 sh37 ff10_32 dX10_layLikely_220 (fun σ18 => ?_)
  exact jX10_layLikely_B223 C hn M hK140 hK150 _ _ _ _
set_option maxRecDepth 100000 in
set_option maxHeartbeats 4000000 in
theorem jX10_layLikely_B216 {X : sw_X} {ad : Nat → Nat} {t : Unit × sw_St} (C : sw_C X ad cX10_layLikely RX10 7) (hn : sw_nL X = 4) (M : sw_Mv X ad none t)   {K140 : Int32 → Int32 → sw_St → Option (Unit × sw_St)} (hK140 : ∀ (z1 : Int32) (z2 : Int32) (τ : sw_St), sw_J X ad t 140 [(0, .ref (ad 37)), (1, .int z1), (2, .int z2)] [] τ (K140 z1 z2 τ)) {K150 : Int32 → Int32 → Int32 → sw_St → Option (Unit × sw_St)} (hK150 : ∀ (z1 : Int32) (z2 : Int32) (z3 : Int32) (τ : sw_St), sw_J X ad t 150 [(0, .ref (ad 37)), (1, .int z1), (2, .int z2), (3, .int z3)] [] τ (K150 z1 z2 z3 τ)) (v1 : Int32) (v2 : Int32) (v3 : Int32) (σ : sw_St) : sw_J X ad t 216 [(0, .ref (ad 37)), (1, .int v1), (2, .int v2), (3, .int v3)] [.ref (ad 37)] σ (fX10_layLikely_B216 K140 K150 v1 v2 v3 σ) := by
  unfold fX10_layLikely_B216
  refine sw_aloadn (pc := 216) 0 0 C dX10_layLikely_216 rfl ?_
  refine sw_getI (pc := 217) C kfX10_234 sh37 ff10_32 dX10_layLikely_217 ?_
  exact jX10_layLikely_B220 C hn M hK140 hK150 _ _ _ _ _
set_option maxRecDepth 100000 in
set_option maxHeartbeats 4000000 in
theorem jX10_layLikely_L150 {X : sw_X} {ad : Nat → Nat} {t : Unit × sw_St} (C : sw_C X ad cX10_layLikely RX10 7) (hn : sw_nL X = 4) (M : sw_Mv X ad none t)   {K140 : Int32 → Int32 → sw_St → Option (Unit × sw_St)} (hK140 : ∀ (z1 : Int32) (z2 : Int32) (τ : sw_St), sw_J X ad t 140 [(0, .ref (ad 37)), (1, .int z1), (2, .int z2)] [] τ (K140 z1 z2 τ)) : ∀ (n : Nat) (v1 : Int32) (v2 : Int32) (v3 : Int32) (σ : sw_St), sw_J X ad t 150 [(0, .ref (ad 37)), (1, .int v1), (2, .int v2), (3, .int v3)] [] σ (fX10_layLikely_L150 K140 n v1 v2 v3 σ) := by
  intro n
  induction n with
  | zero => exact fun _ _ _ _ => sw_none
  | succ n ih =>
    intro v1 v2 v3 σ
    unfold fX10_layLikely_L150
    refine sw_iloadn (pc := 150) 3 3 C dX10_layLikely_150 rfl ?_
    refine sw_iloadn (pc := 151) 2 2 C dX10_layLikely_151 rfl ?_
    refine sw_icmp_ge (pc := 152) 229 C dX10_layLikely_152 (by decide) ?_ ?_
    · refine sw_iinc (pc := 229) (v2 + 1) 2 [(2, .int (v2 + 1)), (0, .ref (ad 37)), (1, .int v1), (3, .int v3)] C dX10_layLikely_229 (by rw [hn]; decide) rfl rfl rfl ?_
      refine sw_goto (pc := 232) 140 C dX10_layLikely_232 (by decide) ?_
      refine sw_lpick (pc := 140) (L' := [(0, .ref (ad 37)), (1, .int v1), (2, .int (v2 + 1))]) [1, 2, 0] rfl ?_
      exact hK140 _ _ _
    · refine sw_aloadn (pc := 155) 0 0 C dX10_layLikely_155 rfl ?_
      refine sw_iloadn (pc := 156) 3 3 C dX10_layLikely_156 rfl ?_
      refine sw_iloadn (pc := 157) 2 2 C dX10_layLikely_157 rfl ?_
      refine sw_callVi (pc := 158) C (mX10_doFit v3 v2) sgX10_doFit mlX10_237 dX10_layLikely_158 (by decide) [.int v3, .int v2] [] sh37 rfl rfl rfl rfl (Nat.le_of_ble_eq_true rfl) (fun r13 σ14 => ?_)
      refine sw_if_eq (pc := 161) 223 C dX10_layLikely_161 (by decide) ?_ ?_
      · exact jX10_layLikely_B223 C hn M hK140 ih _ _ _ _
      · refine sw_aloadn (pc := 164) 0 0 C dX10_layLikely_164 rfl ?_
        refine sw_dup (pc := 165) C dX10_layLikely_165 rfl ?_
        refine sw_getI (pc := 166) C kfX10_231 sh37 ff10_31 dX10_layLikely_166 ?_
        refine sw_iconst (pc := 169) (v := 1) C dX10_layLikely_169 (by decide) ?_
        refine sw_iadd (pc := 170) C dX10_layLikely_170 ?_
        refine sw_putL (pc := 171) C kpX10_231 sh37 ff10_31 dX10_layLikely_171 (fun σ15 => ?_)
        refine sw_aloadn (pc := 174) 0 0 C dX10_layLikely_174 rfl ?_
        refine sw_getR (pc := 175) C kfX10_64 sh37 ff10_33 dX10_layLikely_175 ?_
        refine sw_iloadn (pc := 178) 3 3 C dX10_layLikely_178 rfl ?_
        refine sw_dup2 (pc := 179) C dX10_layLikely_179 rfl rfl ?_
        refine sw_iald (pc := 180) C sh56 dX10_layLikely_180 ?_
        refine sw_iconst (pc := 181) (v := 1) C dX10_layLikely_181 (by decide) ?_
        refine sw_iadd (pc := 182) C dX10_layLikely_182 ?_
        refine sw_iastL (pc := 183) C sh56 dX10_layLikely_183 (fun σ16 => ?_)
        refine sw_aloadn (pc := 184) 0 0 C dX10_layLikely_184 rfl ?_
        refine sw_getR (pc := 185) C kfX10_64 sh37 ff10_33 dX10_layLikely_185 ?_
        refine sw_iloadn (pc := 188) 2 2 C dX10_layLikely_188 rfl ?_
        refine sw_dup2 (pc := 189) C dX10_layLikely_189 rfl rfl ?_
        refine sw_iald (pc := 190) C sh56 dX10_layLikely_190 ?_
        refine sw_iconst (pc := 191) (v := 1) C dX10_layLikely_191 (by decide) ?_
        refine sw_iadd (pc := 192) C dX10_layLikely_192 ?_
        refine sw_iastL (pc := 193) C sh56 dX10_layLikely_193 (fun σ17 => ?_)
        refine sw_aloadn (pc := 194) 0 0 C dX10_layLikely_194 rfl ?_
        refine sw_iloadn (pc := 195) 1 1 C dX10_layLikely_195 rfl ?_
        refine sw_if_ne (pc := 196) 216 C dX10_layLikely_196 (by decide) ?_ ?_
        · exact jX10_layLikely_B216 C hn M hK140 ih _ _ _ _
        · refine sw_aloadn (pc := 199) 0 0 C dX10_layLikely_199 rfl ?_
          refine sw_getI (pc := 200) C kfX10_234 sh37 ff10_32 dX10_layLikely_200 ?_
          refine sw_if_ge (pc := 203) 216 C dX10_layLikely_203 (by decide) ?_ ?_
          · exact jX10_layLikely_B216 C hn M hK140 ih _ _ _ _
          · refine sw_iconst (pc := 206) (v := 1) C dX10_layLikely_206 (by decide) ?_
            refine sw_iloadn (pc := 207) 3 3 C dX10_layLikely_207 rfl ?_
            refine sw_ishl (pc := 208) C dX10_layLikely_208 ?_
            refine sw_iconst (pc := 209) (v := 1) C dX10_layLikely_209 (by decide) ?_
            refine sw_iloadn (pc := 210) 2 2 C dX10_layLikely_210 rfl ?_
            refine sw_ishl (pc := 211) C dX10_layLikely_211 ?_
            refine sw_ior (pc := 212) C dX10_layLikely_212 ?_
            refine sw_goto (pc := 213) 220 C dX10_layLikely_213 (by decide) ?_
            exact jX10_layLikely_B220 C hn M hK140 ih _ _ _ _ _
set_option maxRecDepth 100000 in
set_option maxHeartbeats 4000000 in
theorem jX10_layLikely_L140 {X : sw_X} {ad : Nat → Nat} {t : Unit × sw_St} (C : sw_C X ad cX10_layLikely RX10 7) (hn : sw_nL X = 4) (M : sw_Mv X ad none t)   : ∀ (n : Nat) (v1 : Int32) (v2 : Int32) (σ : sw_St), sw_J X ad t 140 [(0, .ref (ad 37)), (1, .int v1), (2, .int v2)] [] σ (fX10_layLikely_L140  n v1 v2 σ) := by
  intro n
  induction n with
  | zero => exact fun _ _ _ => sw_none
  | succ n ih =>
    intro v1 v2 σ
    unfold fX10_layLikely_L140
    refine sw_iloadn (pc := 140) 2 2 C dX10_layLikely_140 rfl ?_
    refine sw_aloadn (pc := 141) 0 0 C dX10_layLikely_141 rfl ?_
    refine sw_getI (pc := 142) C kfX10_142 sh37 ff10_24 dX10_layLikely_142 ?_
    refine sw_icmp_ge (pc := 145) 235 C dX10_layLikely_145 (by decide) ?_ ?_
    · exact sw_retv (pc := 235) C M dX10_layLikely_235
    · refine sw_iconst (pc := 148) (v := 0) C dX10_layLikely_148 (by decide) ?_
      refine sw_istoren (pc := 149) 3 [(3, .int 0), (0, .ref (ad 37)), (1, .int v1), (2, .int v2)] C dX10_layLikely_149 (by rw [hn]; decide) rfl ?_
      refine sw_lpick (pc := 150) (L' := [(0, .ref (ad 37)), (1, .int v1), (2, .int v2), (3, .int 0)]) [1, 2, 3, 0] rfl ?_
      exact jX10_layLikely_L150 C hn M ih _ _ _ _ _
set_option maxRecDepth 100000 in
set_option maxHeartbeats 4000000 in
theorem jX10_layLikely_B137 {X : sw_X} {ad : Nat → Nat} {t : Unit × sw_St} (C : sw_C X ad cX10_layLikely RX10 7) (hn : sw_nL X = 4) (M : sw_Mv X ad none t)   (s0 : Int32) (σ : sw_St) : sw_J X ad t 137 [(0, .ref (ad 37))] [.int s0] σ (fX10_layLikely_B137  s0 σ) := by
  unfold fX10_layLikely_B137
  refine sw_istoren (pc := 137) 1 [(1, .int s0), (0, .ref (ad 37))] C dX10_layLikely_137 (by rw [hn]; decide) rfl ?_
  refine sw_iconst (pc := 138) (v := 1) C dX10_layLikely_138 (by decide) ?_
  refine sw_istoren (pc := 139) 2 [(2, .int 1), (1, .int s0), (0, .ref (ad 37))] C dX10_layLikely_139 (by rw [hn]; decide) rfl ?_
  refine sw_lpick (pc := 140) (L' := [(0, .ref (ad 37)), (1, .int s0), (2, .int 1)]) [2, 1, 0] rfl ?_
  exact jX10_layLikely_L140 C hn M  _ _ _ _
set_option maxRecDepth 100000 in
set_option maxHeartbeats 4000000 in
theorem jX10_layLikely_B119 {X : sw_X} {ad : Nat → Nat} {t : Unit × sw_St} (C : sw_C X ad cX10_layLikely RX10 7) (hn : sw_nL X = 4) (M : sw_Mv X ad none t)   {K60 : Int32 → sw_St → Option (Unit × sw_St)} (hK60 : ∀ (z1 : Int32) (τ : sw_St), sw_J X ad t 60 [(0, .ref (ad 37)), (1, .int z1)] [] τ (K60 z1 τ)) (v1 : Int32) (σ : sw_St) : sw_J X ad t 119 [(0, .ref (ad 37)), (1, .int v1)] [] σ (fX10_layLikely_B119 K60 v1 σ) := by
  unfold fX10_layLikely_B119
  refine sw_iinc (pc := 119) (v1 + 1) 1 [(1, .int (v1 + 1)), (0, .ref (ad 37))] C dX10_layLikely_119 (by rw [hn]; decide) rfl rfl rfl ?_
  refine sw_goto (pc := 122) 60 C dX10_layLikely_122 (by decide) ?_
  refine sw_lpick (pc := 60) (L' := [(0, .ref (ad 37)), (1, .int (v1 + 1))]) [1, 0] rfl ?_
  exact hK60 _ _
set_option maxRecDepth 100000 in
set_option maxHeartbeats 4000000 in
theorem jX10_layLikely_B116 {X : sw_X} {ad : Nat → Nat} {t : Unit × sw_St} (C : sw_C X ad cX10_layLikely RX10 7) (hn : sw_nL X = 4) (M : sw_Mv X ad none t)   {K60 : Int32 → sw_St → Option (Unit × sw_St)} (hK60 : ∀ (z1 : Int32) (τ : sw_St), sw_J X ad t 60 [(0, .ref (ad 37)), (1, .int z1)] [] τ (K60 z1 τ)) (v1 : Int32) (s0 : Int32) (σ : sw_St) : sw_J X ad t 116 [(0, .ref (ad 37)), (1, .int v1)] [.int s0, .ref (ad 37)] σ (fX10_layLikely_B116 K60 v1 s0 σ) := by
  unfold fX10_layLikely_B116
  refine sw_putL (pc := 116) C kpX10_234 sh37 ff10_32 dX10_layLikely_116 (fun σ12 => ?_)
  exact jX10_layLikely_B119 C hn M hK60 _ _
set_option maxRecDepth 100000 in
set_option maxHeartbeats 4000000 in
theorem jX10_layLikely_L60 {X : sw_X} {ad : Nat → Nat} {t : Unit × sw_St} (C : sw_C X ad cX10_layLikely RX10 7) (hn : sw_nL X = 4) (M : sw_Mv X ad none t)   : ∀ (n : Nat) (v1 : Int32) (σ : sw_St), sw_J X ad t 60 [(0, .ref (ad 37)), (1, .int v1)] [] σ (fX10_layLikely_L60  n v1 σ) := by
  intro n
  induction n with
  | zero => exact fun _ _ => sw_none
  | succ n ih =>
    intro v1 σ
    unfold fX10_layLikely_L60
    refine sw_iloadn (pc := 60) 1 1 C dX10_layLikely_60 rfl ?_
    refine sw_aloadn (pc := 61) 0 0 C dX10_layLikely_61 rfl ?_
    refine sw_getI (pc := 62) C kfX10_142 sh37 ff10_24 dX10_layLikely_62 ?_
    refine sw_icmp_ge (pc := 65) 125 C dX10_layLikely_65 (by decide) ?_ ?_
    · refine sw_aloadn (pc := 125) 0 0 C dX10_layLikely_125 rfl ?_
      refine sw_getI (pc := 126) C kfX10_234 sh37 ff10_32 dX10_layLikely_126 ?_
      refine sw_if_lt (pc := 129) 136 C dX10_layLikely_129 (by decide) ?_ ?_
      · refine sw_iconst (pc := 136) (v := 0) C dX10_layLikely_136 (by decide) ?_
        refine sw_lpick (pc := 137) (L' := [(0, .ref (ad 37))]) [0] rfl ?_
        exact jX10_layLikely_B137 C hn M  _ _
      · refine sw_iconst (pc := 132) (v := 1) C dX10_layLikely_132 (by decide) ?_
        refine sw_goto (pc := 133) 137 C dX10_layLikely_133 (by decide) ?_
        refine sw_lpick (pc := 137) (L' := [(0, .ref (ad 37))]) [0] rfl ?_
        exact jX10_layLikely_B137 C hn M  _ _
    · refine sw_aloadn (pc := 68) 0 0 C dX10_layLikely_68 rfl ?_
      refine sw_iloadn (pc := 69) 1 1 C dX10_layLikely_69 rfl ?_
      refine sw_bipush (pc := 70) (v := (-9)) C dX10_layLikely_70 (by decide) ?_
      refine sw_callVi (pc := 72) C (mX10_doFit v1 (-9)) sgX10_doFit mlX10_237 dX10_layLikely_72 (by decide) [.int v1, .int (-9)] [] sh37 rfl rfl rfl rfl (Nat.le_of_ble_eq_true rfl) (fun r8 σ9 => ?_)
      refine sw_if_eq (pc := 75) 119 C dX10_layLikely_75 (by decide) ?_ ?_
      · exact jX10_layLikely_B119 C hn M ih _ _
      · refine sw_aloadn (pc := 78) 0 0 C dX10_layLikely_78 rfl ?_
        refine sw_dup (pc := 79) C dX10_layLikely_79 rfl ?_
        refine sw_getI (pc := 80) C kfX10_231 sh37 ff10_31 dX10_layLikely_80 ?_
        refine sw_iconst (pc := 83) (v := 1) C dX10_layLikely_83 (by decide) ?_
        refine sw_iadd (pc := 84) C dX10_layLikely_84 ?_
        refine sw_putL (pc := 85) C kpX10_231 sh37 ff10_31 dX10_layLikely_85 (fun σ10 => ?_)
        refine sw_aloadn (pc := 88) 0 0 C dX10_layLikely_88 rfl ?_
        refine sw_getR (pc := 89) C kfX10_64 sh37 ff10_33 dX10_layLikely_89 ?_
        refine sw_iloadn (pc := 92) 1 1 C dX10_layLikely_92 rfl ?_
        refine sw_dup2 (pc := 93) C dX10_layLikely_93 rfl rfl ?_
        refine sw_iald (pc := 94) C sh56 dX10_layLikely_94 ?_
        refine sw_iconst (pc := 95) (v := 1) C dX10_layLikely_95 (by decide) ?_
        refine sw_iadd (pc := 96) C dX10_layLikely_96 ?_
        refine sw_iastL (pc := 97) C sh56 dX10_layLikely_97 (fun σ11 => ?_)
        refine sw_aloadn (pc := 98) 0 0 C dX10_layLikely_98 rfl ?_
        refine sw_aloadn (pc := 99) 0 0 C dX10_layLikely_99 rfl ?_
        refine sw_getI (pc := 100) C kfX10_234 sh37 ff10_32 dX10_layLikely_100 ?_
        refine sw_if_ge (pc := 103) 112 C dX10_layLikely_103 (by decide) ?_ ?_
        · refine sw_aloadn (pc := 112) 0 0 C dX10_layLikely_112 rfl ?_
          refine sw_getI (pc := 113) C kfX10_234 sh37 ff10_32 dX10_layLikely_113 ?_
          exact jX10_layLikely_B116 C hn M ih _ _ _
        · refine sw_iconst (pc := 106) (v := 1) C dX10_layLikely_106 (by decide) ?_
          refine sw_iloadn (pc := 107) 1 1 C dX10_layLikely_107 rfl ?_
          refine sw_ishl (pc := 108) C dX10_layLikely_108 ?_
          refine sw_goto (pc := 109) 116 C dX10_layLikely_109 (by decide) ?_
          exact jX10_layLikely_B116 C hn M ih _ _ _
set_option maxRecDepth 100000 in
set_option maxHeartbeats 4000000 in
theorem jX10_layLikely_B58 {X : sw_X} {ad : Nat → Nat} {t : Unit × sw_St} (C : sw_C X ad cX10_layLikely RX10 7) (hn : sw_nL X = 4) (M : sw_Mv X ad none t)    (σ : sw_St) : sw_J X ad t 58 [(0, .ref (ad 37))] [] σ (fX10_layLikely_B58   σ) := by
  unfold fX10_layLikely_B58
  refine sw_iconst (pc := 58) (v := 0) C dX10_layLikely_58 (by decide) ?_
  refine sw_istoren (pc := 59) 1 [(1, .int 0), (0, .ref (ad 37))] C dX10_layLikely_59 (by rw [hn]; decide) rfl ?_
  refine sw_lpick (pc := 60) (L' := [(0, .ref (ad 37)), (1, .int 0)]) [1, 0] rfl ?_
  exact jX10_layLikely_L60 C hn M  _ _ _
set_option maxRecDepth 100000 in
set_option maxHeartbeats 4000000 in
theorem jX10_layLikely_L13 {X : sw_X} {ad : Nat → Nat} {t : Unit × sw_St} (C : sw_C X ad cX10_layLikely RX10 7) (hn : sw_nL X = 4) (M : sw_Mv X ad none t)   : ∀ (n : Nat) (v1 : Int32) (σ : sw_St), sw_J X ad t 13 [(0, .ref (ad 37)), (1, .int v1)] [] σ (fX10_layLikely_L13  n v1 σ) := by
  intro n
  induction n with
  | zero => exact fun _ _ => sw_none
  | succ n ih =>
    intro v1 σ
    unfold fX10_layLikely_L13
    refine sw_iloadn (pc := 13) 1 1 C dX10_layLikely_13 rfl ?_
    refine sw_bipush (pc := 14) (v := 6) C dX10_layLikely_14 (by decide) ?_
    refine sw_icmp_ge (pc := 16) 32 C dX10_layLikely_16 (by decide) ?_ ?_
    · refine sw_aloadn (pc := 32) 0 0 C dX10_layLikely_32 rfl ?_
      refine sw_bipush (pc := 33) (v := (-9)) C dX10_layLikely_33 (by decide) ?_
      refine sw_bipush (pc := 35) (v := (-9)) C dX10_layLikely_35 (by decide) ?_
      refine sw_callVi (pc := 37) C (mX10_doFit (-9) (-9)) sgX10_doFit mlX10_237 dX10_layLikely_37 (by decide) [.int (-9), .int (-9)] [] sh37 rfl rfl rfl rfl (Nat.le_of_ble_eq_true rfl) (fun r3 σ4 => ?_)
      refine sw_if_eq (pc := 40) 58 C dX10_layLikely_40 (by decide) ?_ ?_
      · refine sw_lpick (pc := 58) (L' := [(0, .ref (ad 37))]) [0] rfl ?_
        exact jX10_layLikely_B58 C hn M  _
      · refine sw_aloadn (pc := 43) 0 0 C dX10_layLikely_43 rfl ?_
        refine sw_dup (pc := 44) C dX10_layLikely_44 rfl ?_
        refine sw_getI (pc := 45) C kfX10_231 sh37 ff10_31 dX10_layLikely_45 ?_
        refine sw_iconst (pc := 48) (v := 1) C dX10_layLikely_48 (by decide) ?_
        refine sw_iadd (pc := 49) C dX10_layLikely_49 ?_
        refine sw_putL (pc := 50) C kpX10_231 sh37 ff10_31 dX10_layLikely_50 (fun σ5 => ?_)
        refine sw_aloadn (pc := 53) 0 0 C dX10_layLikely_53 rfl ?_
        refine sw_iconst (pc := 54) (v := 0) C dX10_layLikely_54 (by decide) ?_
        refine sw_putL (pc := 55) C kpX10_234 sh37 ff10_32 dX10_layLikely_55 (fun σ6 => ?_)
        refine sw_lpick (pc := 58) (L' := [(0, .ref (ad 37))]) [0] rfl ?_
        exact jX10_layLikely_B58 C hn M  _
    · refine sw_aloadn (pc := 19) 0 0 C dX10_layLikely_19 rfl ?_
      refine sw_getR (pc := 20) C kfX10_64 sh37 ff10_33 dX10_layLikely_20 ?_
      refine sw_iloadn (pc := 23) 1 1 C dX10_layLikely_23 rfl ?_
      refine sw_iconst (pc := 24) (v := 0) C dX10_layLikely_24 (by decide) ?_
      refine sw_iastL (pc := 25) C sh56 dX10_layLikely_25 (fun σ7 => ?_)
      refine sw_iinc (pc := 26) (v1 + 1) 1 [(1, .int (v1 + 1)), (0, .ref (ad 37))] C dX10_layLikely_26 (by rw [hn]; decide) rfl rfl rfl ?_
      refine sw_goto (pc := 29) 13 C dX10_layLikely_29 (by decide) ?_
      refine sw_lpick (pc := 13) (L' := [(0, .ref (ad 37)), (1, .int (v1 + 1))]) [1, 0] rfl ?_
      exact ih _ _
set_option maxRecDepth 100000 in
set_option maxHeartbeats 4000000 in
theorem mX10_layLikely    : sw_Kv yX10_layLikely cX10_layLikely 4 none 7 (fun ad => [.ref (ad 37)]) fX10_layLikely := by
  refine sw_enterv (by decide) (fun ad => Nat.le_of_ble_eq_true rfl) (fun X ad t σ C hn M => ?_)
  change sw_J X ad t 0 [(0, .ref (ad 37))] [] σ _
  replace C : sw_C X ad cX10_layLikely RX10 7 := C
  unfold fX10_layLikely
  refine sw_aloadn (pc := 0) 0 0 C dX10_layLikely_0 rfl ?_
  refine sw_iconst (pc := 1) (v := 0) C dX10_layLikely_1 (by decide) ?_
  refine sw_putL (pc := 2) C kpX10_231 sh37 ff10_31 dX10_layLikely_2 (fun σ1 => ?_)
  refine sw_aloadn (pc := 5) 0 0 C dX10_layLikely_5 rfl ?_
  refine sw_bipush (pc := 6) (v := (-9)) C dX10_layLikely_6 (by decide) ?_
  refine sw_putL (pc := 8) C kpX10_234 sh37 ff10_32 dX10_layLikely_8 (fun σ2 => ?_)
  refine sw_iconst (pc := 11) (v := 0) C dX10_layLikely_11 (by decide) ?_
  refine sw_istoren (pc := 12) 1 [(1, .int 0), (0, .ref (ad 37))] C dX10_layLikely_12 (by rw [hn]; decide) rfl ?_
  refine sw_lpick (pc := 13) (L' := [(0, .ref (ad 37)), (1, .int 0)]) [1, 0] rfl ?_
  exact jX10_layLikely_L13 C hn M  _ _ _
set_option maxRecDepth 100000 in
set_option maxHeartbeats 4000000 in
theorem mX10_likely   (a0 : Int32) : sw_Ki yX10_likely cX10_likely 2 (some .int) 8 (fun ad => [.ref (ad 37), .int a0]) (fX10_likely a0) := by
  refine sw_enteri (by decide) (fun ad => Nat.le_of_ble_eq_true rfl) (fun X ad t σ C hn M => ?_)
  change sw_J X ad t 0 [(0, .ref (ad 37)), (1, .int a0)] [] σ _
  replace C : sw_C X ad cX10_likely RX10 8 := C
  unfold fX10_likely
  refine sw_iloadn (pc := 0) 1 1 C dX10_likely_0 rfl ?_
  refine sw_i2l (pc := 1) C dX10_likely_1 ?_
  refine sw_lconst (pc := 2) (v := 0) C dX10_likely_2 (by decide) ?_
  refine sw_lconst (pc := 3) (v := 1) C dX10_likely_3 (by decide) ?_
  refine sw_callSi (pc := 4) C (mX10_in (Int32.toInt64 a0) (0 : Int64) (1 : Int64)) sgX10_in mlX10_105 dX10_likely_4 (by decide) [.long (Int32.toInt64 a0), .long (0 : Int64), .long (1 : Int64)] [] rfl rfl rfl (Nat.le_of_ble_eq_true rfl) (fun r1 σ2 => ?_)
  refine sw_if_ne (pc := 7) 13 C dX10_likely_7 (by decide) ?_ ?_
  · refine sw_aloadn (pc := 13) 0 0 C dX10_likely_13 rfl ?_
    refine sw_callVi (pc := 14) C mX10_isBare sgX10_isBare mlX10_216 dX10_likely_14 (by decide) [] [] sh37 rfl rfl rfl rfl (Nat.le_of_ble_eq_true rfl) (fun r3 σ4 => ?_)
    refine sw_if_eq (pc := 17) 23 C dX10_likely_17 (by decide) ?_ ?_
    · refine sw_aloadn (pc := 23) 0 0 C dX10_likely_23 rfl ?_
      refine sw_callVv (pc := 24) C mX10_layLikely sgX10_layLikely mlX10_240 dX10_likely_24 (by decide) [] [] sh37 rfl rfl rfl rfl (Nat.le_of_ble_eq_true rfl) (fun r5 σ6 => ?_)
      refine sw_iloadn (pc := 27) 1 1 C dX10_likely_27 rfl ?_
      refine sw_if_ne (pc := 28) 38 C dX10_likely_28 (by decide) ?_ ?_
      · refine sw_aloadn (pc := 38) 0 0 C dX10_likely_38 rfl ?_
        refine sw_getI (pc := 39) C kfX10_234 sh37 ff10_32 dX10_likely_39 ?_
        exact sw_reti (pc := 42) C M dX10_likely_42
      · refine sw_aloadn (pc := 31) 0 0 C dX10_likely_31 rfl ?_
        refine sw_getI (pc := 32) C kfX10_231 sh37 ff10_31 dX10_likely_32 ?_
        refine sw_goto (pc := 35) 42 C dX10_likely_35 (by decide) ?_
        exact sw_reti (pc := 42) C M dX10_likely_42
    · refine sw_bipush (pc := 20) (v := (-3)) C dX10_likely_20 (by decide) ?_
      exact sw_reti (pc := 22) C M dX10_likely_22
  · refine sw_bipush (pc := 10) (v := (-2)) C dX10_likely_10 (by decide) ?_
    exact sw_reti (pc := 12) C M dX10_likely_12
set_option maxRecDepth 100000 in
set_option maxHeartbeats 4000000 in
theorem mX10_each   (a0 : Int32) : sw_Ki yX10_each cX10_each 2 (some .int) 8 (fun ad => [.ref (ad 37), .int a0]) (fX10_each a0) := by
  refine sw_enteri (by decide) (fun ad => Nat.le_of_ble_eq_true rfl) (fun X ad t σ C hn M => ?_)
  change sw_J X ad t 0 [(0, .ref (ad 37)), (1, .int a0)] [] σ _
  replace C : sw_C X ad cX10_each RX10 8 := C
  unfold fX10_each
  refine sw_aloadn (pc := 0) 0 0 C dX10_each_0 rfl ?_
  refine sw_iloadn (pc := 1) 1 1 C dX10_each_1 rfl ?_
  refine sw_callVi (pc := 2) C (mX10_noFlaw a0) sgX10_noFlaw mlX10_225 dX10_each_2 (by decide) [.int a0] [] sh37 rfl rfl rfl rfl (Nat.le_of_ble_eq_true rfl) (fun r1 σ2 => ?_)
  refine sw_if_eq (pc := 5) 10 C dX10_each_5 (by decide) ?_ ?_
  · refine sw_aloadn (pc := 10) 0 0 C dX10_each_10 rfl ?_
    refine sw_callVi (pc := 11) C mX10_isBare sgX10_isBare mlX10_216 dX10_each_11 (by decide) [] [] sh37 rfl rfl rfl rfl (Nat.le_of_ble_eq_true rfl) (fun r3 σ4 => ?_)
    refine sw_if_eq (pc := 14) 20 C dX10_each_14 (by decide) ?_ ?_
    · refine sw_aloadn (pc := 20) 0 0 C dX10_each_20 rfl ?_
      refine sw_callVv (pc := 21) C mX10_layLikely sgX10_layLikely mlX10_240 dX10_each_21 (by decide) [] [] sh37 rfl rfl rfl rfl (Nat.le_of_ble_eq_true rfl) (fun r5 σ6 => ?_)
      refine sw_aloadn (pc := 24) 0 0 C dX10_each_24 rfl ?_
      refine sw_getR (pc := 25) C kfX10_64 sh37 ff10_33 dX10_each_25 ?_
      refine sw_iloadn (pc := 28) 1 1 C dX10_each_28 rfl ?_
      refine sw_iald (pc := 29) C sh56 dX10_each_29 ?_
      exact sw_reti (pc := 30) C M dX10_each_30
    · refine sw_bipush (pc := 17) (v := (-3)) C dX10_each_17 (by decide) ?_
      exact sw_reti (pc := 19) C M dX10_each_19
  · refine sw_iconst (pc := 8) (v := (-1)) C dX10_each_8 (by decide) ?_
    exact sw_reti (pc := 9) C M dX10_each_9
set_option maxRecDepth 100000 in
set_option maxHeartbeats 4000000 in
theorem mX10_mayBe   (a0 : Int32) (a1 : Int32) : sw_Ki yX10_mayBe cX10_mayBe 3 (some .boolean) 1 (fun ad => [.ref (ad 37), .int a0, .int a1]) (fX10_mayBe a0 a1) := by
  refine sw_enteri (by decide) (fun ad => Nat.le_of_ble_eq_true rfl) (fun X ad t σ C hn M => ?_)
  change sw_J X ad t 0 [(0, .ref (ad 37)), (1, .int a0), (2, .int a1)] [] σ _
  replace C : sw_C X ad cX10_mayBe RX10 1 := C
  unfold fX10_mayBe
  refine sw_iloadn (pc := 0) 2 2 C dX10_mayBe_0 rfl ?_
  refine sw_ite (fun h1 => ?_) (fun h1 => ?_)
  · refine sw_tabIn (pc := 1) (off := 27) 28 C dX10_mayBe_1 (by rw [h1]; decide) (by rw [h1]; decide) (by rw [h1]; rfl) (by decide) ?_
    refine sw_aloadn (pc := 28) 0 0 C dX10_mayBe_28 rfl ?_
    refine sw_getR (pc := 29) C kfX10_22 sh37 ff10_6 dX10_mayBe_29 ?_
    refine sw_iloadn (pc := 32) 1 1 C dX10_mayBe_32 rfl ?_
    refine sw_iald (pc := 33) C sh42 dX10_mayBe_33 ?_
    refine sw_bipush (pc := 34) (v := 8) C dX10_mayBe_34 (by decide) ?_
    refine sw_icmp_ge (pc := 36) 52 C dX10_mayBe_36 (by decide) ?_ ?_
    · refine sw_iconst (pc := 52) (v := 0) C dX10_mayBe_52 (by decide) ?_
      exact sw_retiz (pc := 53) rfl C M dX10_mayBe_53
    · refine sw_aloadn (pc := 39) 0 0 C dX10_mayBe_39 rfl ?_
      refine sw_getR (pc := 40) C kfX10_19 sh37 ff10_5 dX10_mayBe_40 ?_
      refine sw_iloadn (pc := 43) 1 1 C dX10_mayBe_43 rfl ?_
      refine sw_iald (pc := 44) C sh41 dX10_mayBe_44 ?_
      refine sw_if_le (pc := 45) 52 C dX10_mayBe_45 (by decide) ?_ ?_
      · refine sw_iconst (pc := 52) (v := 0) C dX10_mayBe_52 (by decide) ?_
        exact sw_retiz (pc := 53) rfl C M dX10_mayBe_53
      · refine sw_iconst (pc := 48) (v := 1) C dX10_mayBe_48 (by decide) ?_
        refine sw_goto (pc := 49) 53 C dX10_mayBe_49 (by decide) ?_
        exact sw_retiz (pc := 53) rfl C M dX10_mayBe_53
  · skip
    refine sw_ite (fun h2 => ?_) (fun h2 => ?_)
    · refine sw_tabIn (pc := 1) (off := 53) 54 C dX10_mayBe_1 (by rw [h2]; decide) (by rw [h2]; decide) (by rw [h2]; rfl) (by decide) ?_
      refine sw_aloadn (pc := 54) 0 0 C dX10_mayBe_54 rfl ?_
      refine sw_getR (pc := 55) C kfX10_7 sh37 ff10_2 dX10_mayBe_55 ?_
      refine sw_iloadn (pc := 58) 1 1 C dX10_mayBe_58 rfl ?_
      refine sw_iald (pc := 59) C sh38 dX10_mayBe_59 ?_
      refine sw_if_le (pc := 60) 76 C dX10_mayBe_60 (by decide) ?_ ?_
      · refine sw_iconst (pc := 76) (v := 0) C dX10_mayBe_76 (by decide) ?_
        exact sw_retiz (pc := 77) rfl C M dX10_mayBe_77
      · refine sw_aloadn (pc := 63) 0 0 C dX10_mayBe_63 rfl ?_
        refine sw_getR (pc := 64) C kfX10_16 sh37 ff10_4 dX10_mayBe_64 ?_
        refine sw_iloadn (pc := 67) 1 1 C dX10_mayBe_67 rfl ?_
        refine sw_iald (pc := 68) C sh40 dX10_mayBe_68 ?_
        refine sw_if_le (pc := 69) 76 C dX10_mayBe_69 (by decide) ?_ ?_
        · refine sw_iconst (pc := 76) (v := 0) C dX10_mayBe_76 (by decide) ?_
          exact sw_retiz (pc := 77) rfl C M dX10_mayBe_77
        · refine sw_iconst (pc := 72) (v := 1) C dX10_mayBe_72 (by decide) ?_
          refine sw_goto (pc := 73) 77 C dX10_mayBe_73 (by decide) ?_
          exact sw_retiz (pc := 77) rfl C M dX10_mayBe_77
    · skip
      refine sw_ite (fun h3 => ?_) (fun h3 => ?_)
      · refine sw_tabIn (pc := 1) (off := 77) 78 C dX10_mayBe_1 (by rw [h3]; decide) (by rw [h3]; decide) (by rw [h3]; rfl) (by decide) ?_
        refine sw_aloadn (pc := 78) 0 0 C dX10_mayBe_78 rfl ?_
        refine sw_getR (pc := 79) C kfX10_7 sh37 ff10_2 dX10_mayBe_79 ?_
        refine sw_iloadn (pc := 82) 1 1 C dX10_mayBe_82 rfl ?_
        refine sw_iald (pc := 83) C sh38 dX10_mayBe_83 ?_
        refine sw_if_le (pc := 84) 102 C dX10_mayBe_84 (by decide) ?_ ?_
        · refine sw_iconst (pc := 102) (v := 0) C dX10_mayBe_102 (by decide) ?_
          exact sw_retiz (pc := 103) rfl C M dX10_mayBe_103
        · refine sw_aloadn (pc := 87) 0 0 C dX10_mayBe_87 rfl ?_
          refine sw_getR (pc := 88) C kfX10_16 sh37 ff10_4 dX10_mayBe_88 ?_
          refine sw_iloadn (pc := 91) 1 1 C dX10_mayBe_91 rfl ?_
          refine sw_iald (pc := 92) C sh40 dX10_mayBe_92 ?_
          refine sw_bipush (pc := 93) (v := 9) C dX10_mayBe_93 (by decide) ?_
          refine sw_icmp_ge (pc := 95) 102 C dX10_mayBe_95 (by decide) ?_ ?_
          · refine sw_iconst (pc := 102) (v := 0) C dX10_mayBe_102 (by decide) ?_
            exact sw_retiz (pc := 103) rfl C M dX10_mayBe_103
          · refine sw_iconst (pc := 98) (v := 1) C dX10_mayBe_98 (by decide) ?_
            refine sw_goto (pc := 99) 103 C dX10_mayBe_99 (by decide) ?_
            exact sw_retiz (pc := 103) rfl C M dX10_mayBe_103
      · skip
        refine sw_tabOut (pc := 1) 104 C dX10_mayBe_1 (by have qh1 := lv_neT (a := 0) h1 (by decide); have qh2 := lv_neT (a := 1) h2 (by decide); have qh3 := lv_neT (a := 2) h3 (by decide); omega) (by decide) ?_
        refine sw_aloadn (pc := 104) 0 0 C dX10_mayBe_104 rfl ?_
        refine sw_getR (pc := 105) C kfX10_19 sh37 ff10_5 dX10_mayBe_105 ?_
        refine sw_iloadn (pc := 108) 1 1 C dX10_mayBe_108 rfl ?_
        refine sw_iald (pc := 109) C sh41 dX10_mayBe_109 ?_
        refine sw_if_le (pc := 110) 117 C dX10_mayBe_110 (by decide) ?_ ?_
        · refine sw_iconst (pc := 117) (v := 0) C dX10_mayBe_117 (by decide) ?_
          exact sw_retiz (pc := 118) rfl C M dX10_mayBe_118
        · refine sw_iconst (pc := 113) (v := 1) C dX10_mayBe_113 (by decide) ?_
          refine sw_goto (pc := 114) 118 C dX10_mayBe_114 (by decide) ?_
          exact sw_retiz (pc := 118) rfl C M dX10_mayBe_118
set_option maxRecDepth 100000 in
set_option maxHeartbeats 4000000 in
theorem mX10_doAct   (a0 : Int32) (a1 : Int32) : sw_Kv yX10_doAct cX10_doAct 3 none 1 (fun ad => [.ref (ad 37), .int a0, .int a1]) (fX10_doAct a0 a1) := by
  refine sw_enterv (by decide) (fun ad => Nat.le_of_ble_eq_true rfl) (fun X ad t σ C hn M => ?_)
  change sw_J X ad t 0 [(0, .ref (ad 37)), (1, .int a0), (2, .int a1)] [] σ _
  replace C : sw_C X ad cX10_doAct RX10 1 := C
  unfold fX10_doAct
  refine sw_iloadn (pc := 0) 2 2 C dX10_doAct_0 rfl ?_
  refine sw_if_ne (pc := 1) 27 C dX10_doAct_1 (by decide) ?_ ?_
  · refine sw_iloadn (pc := 27) 2 2 C dX10_doAct_27 rfl ?_
    refine sw_iconst (pc := 28) (v := 1) C dX10_doAct_28 (by decide) ?_
    refine sw_icmp_ne (pc := 29) 45 C dX10_doAct_29 (by decide) ?_ ?_
    · refine sw_iloadn (pc := 45) 2 2 C dX10_doAct_45 rfl ?_
      refine sw_iconst (pc := 46) (v := 2) C dX10_doAct_46 (by decide) ?_
      refine sw_icmp_ne (pc := 47) 63 C dX10_doAct_47 (by decide) ?_ ?_
      · refine sw_aloadn (pc := 63) 0 0 C dX10_doAct_63 rfl ?_
        refine sw_getR (pc := 64) C kfX10_19 sh37 ff10_5 dX10_doAct_64 ?_
        refine sw_iloadn (pc := 67) 1 1 C dX10_doAct_67 rfl ?_
        refine sw_iconst (pc := 68) (v := 0) C dX10_doAct_68 (by decide) ?_
        refine sw_iastL (pc := 69) C sh41 dX10_doAct_69 (fun σ1 => ?_)
        exact sw_retv (pc := 70) C M dX10_doAct_70
      · refine sw_aloadn (pc := 50) 0 0 C dX10_doAct_50 rfl ?_
        refine sw_getR (pc := 51) C kfX10_16 sh37 ff10_4 dX10_doAct_51 ?_
        refine sw_iloadn (pc := 54) 1 1 C dX10_doAct_54 rfl ?_
        refine sw_dup2 (pc := 55) C dX10_doAct_55 rfl rfl ?_
        refine sw_iald (pc := 56) C sh40 dX10_doAct_56 ?_
        refine sw_iconst (pc := 57) (v := 1) C dX10_doAct_57 (by decide) ?_
        refine sw_iadd (pc := 58) C dX10_doAct_58 ?_
        refine sw_iastL (pc := 59) C sh40 dX10_doAct_59 (fun σ2 => ?_)
        refine sw_goto (pc := 60) 70 C dX10_doAct_60 (by decide) ?_
        exact sw_retv (pc := 70) C M dX10_doAct_70
    · refine sw_aloadn (pc := 32) 0 0 C dX10_doAct_32 rfl ?_
      refine sw_getR (pc := 33) C kfX10_16 sh37 ff10_4 dX10_doAct_33 ?_
      refine sw_iloadn (pc := 36) 1 1 C dX10_doAct_36 rfl ?_
      refine sw_dup2 (pc := 37) C dX10_doAct_37 rfl rfl ?_
      refine sw_iald (pc := 38) C sh40 dX10_doAct_38 ?_
      refine sw_iconst (pc := 39) (v := 1) C dX10_doAct_39 (by decide) ?_
      refine sw_isub (pc := 40) C dX10_doAct_40 ?_
      refine sw_iastL (pc := 41) C sh40 dX10_doAct_41 (fun σ3 => ?_)
      refine sw_goto (pc := 42) 70 C dX10_doAct_42 (by decide) ?_
      exact sw_retv (pc := 70) C M dX10_doAct_70
  · refine sw_aloadn (pc := 4) 0 0 C dX10_doAct_4 rfl ?_
    refine sw_getR (pc := 5) C kfX10_22 sh37 ff10_6 dX10_doAct_5 ?_
    refine sw_iloadn (pc := 8) 1 1 C dX10_doAct_8 rfl ?_
    refine sw_dup2 (pc := 9) C dX10_doAct_9 rfl rfl ?_
    refine sw_iald (pc := 10) C sh42 dX10_doAct_10 ?_
    refine sw_iconst (pc := 11) (v := 2) C dX10_doAct_11 (by decide) ?_
    refine sw_iadd (pc := 12) C dX10_doAct_12 ?_
    refine sw_iastL (pc := 13) C sh42 dX10_doAct_13 (fun σ4 => ?_)
    refine sw_aloadn (pc := 14) 0 0 C dX10_doAct_14 rfl ?_
    refine sw_getR (pc := 15) C kfX10_19 sh37 ff10_5 dX10_doAct_15 ?_
    refine sw_iloadn (pc := 18) 1 1 C dX10_doAct_18 rfl ?_
    refine sw_dup2 (pc := 19) C dX10_doAct_19 rfl rfl ?_
    refine sw_iald (pc := 20) C sh41 dX10_doAct_20 ?_
    refine sw_iconst (pc := 21) (v := 1) C dX10_doAct_21 (by decide) ?_
    refine sw_isub (pc := 22) C dX10_doAct_22 ?_
    refine sw_iastL (pc := 23) C sh41 dX10_doAct_23 (fun σ5 => ?_)
    refine sw_goto (pc := 24) 70 C dX10_doAct_24 (by decide) ?_
    exact sw_retv (pc := 70) C M dX10_doAct_70
set_option maxRecDepth 100000 in
set_option maxHeartbeats 4000000 in
theorem mX10_costOf   (a0 : Int32) : sw_Ki yX10_costOf cX10_costOf 1 (some .int) 1 (fun ad => [.int a0]) (fX10_costOf a0) := by
  refine sw_enteri (by decide) (fun ad => Nat.le_of_ble_eq_true rfl) (fun X ad t σ C hn M => ?_)
  change sw_J X ad t 0 [(0, .int a0)] [] σ _
  replace C : sw_C X ad cX10_costOf RX10 1 := C
  unfold fX10_costOf
  refine sw_iloadn (pc := 0) 0 0 C dX10_costOf_0 rfl ?_
  refine sw_if_ne (pc := 1) 8 C dX10_costOf_1 (by decide) ?_ ?_
  · refine sw_iloadn (pc := 8) 0 0 C dX10_costOf_8 rfl ?_
    refine sw_iconst (pc := 9) (v := 3) C dX10_costOf_9 (by decide) ?_
    refine sw_icmp_ne (pc := 10) 17 C dX10_costOf_10 (by decide) ?_ ?_
    · refine sw_iconst (pc := 17) (v := 1) C dX10_costOf_17 (by decide) ?_
      exact sw_reti (pc := 18) C M dX10_costOf_18
    · refine sw_iconst (pc := 13) (v := 4) C dX10_costOf_13 (by decide) ?_
      refine sw_goto (pc := 14) 18 C dX10_costOf_14 (by decide) ?_
      exact sw_reti (pc := 18) C M dX10_costOf_18
  · refine sw_iconst (pc := 4) (v := 2) C dX10_costOf_4 (by decide) ?_
    refine sw_goto (pc := 5) 18 C dX10_costOf_5 (by decide) ?_
    exact sw_reti (pc := 18) C M dX10_costOf_18
set_option maxRecDepth 100000 in
set_option maxHeartbeats 4000000 in
theorem mX10_act   (a0 : Int32) (a1 : Int32) : sw_Ki yX10_act cX10_act 3 (some .int) 3 (fun ad => [.ref (ad 37), .int a0, .int a1]) (fX10_act a0 a1) := by
  refine sw_enteri (by decide) (fun ad => Nat.le_of_ble_eq_true rfl) (fun X ad t σ C hn M => ?_)
  change sw_J X ad t 0 [(0, .ref (ad 37)), (1, .int a0), (2, .int a1)] [] σ _
  replace C : sw_C X ad cX10_act RX10 3 := C
  unfold fX10_act
  refine sw_aloadn (pc := 0) 0 0 C dX10_act_0 rfl ?_
  refine sw_iloadn (pc := 1) 1 1 C dX10_act_1 rfl ?_
  refine sw_callVi (pc := 2) C (mX10_noTooth a0) sgX10_noTooth mlX10_151 dX10_act_2 (by decide) [.int a0] [] sh37 rfl rfl rfl rfl (Nat.le_of_ble_eq_true rfl) (fun r1 σ2 => ?_)
  refine sw_if_eq (pc := 5) 10 C dX10_act_5 (by decide) ?_ ?_
  · refine sw_iloadn (pc := 10) 2 2 C dX10_act_10 rfl ?_
    refine sw_i2l (pc := 11) C dX10_act_11 ?_
    refine sw_lconst (pc := 12) (v := 0) C dX10_act_12 (by decide) ?_
    refine sw_ldc2 (pc := 13) C dX10_act_13 klX10_223 ?_
    refine sw_callSi (pc := 16) C (mX10_in (Int32.toInt64 a1) (0 : Int64) (3 : Int64)) sgX10_in mlX10_105 dX10_act_16 (by decide) [.long (Int32.toInt64 a1), .long (0 : Int64), .long (3 : Int64)] [] rfl rfl rfl (Nat.le_of_ble_eq_true rfl) (fun r3 σ4 => ?_)
    refine sw_if_ne (pc := 19) 25 C dX10_act_19 (by decide) ?_ ?_
    · refine sw_aloadn (pc := 25) 0 0 C dX10_act_25 rfl ?_
      refine sw_iloadn (pc := 26) 1 1 C dX10_act_26 rfl ?_
      refine sw_iloadn (pc := 27) 2 2 C dX10_act_27 rfl ?_
      refine sw_callVi (pc := 28) C (mX10_mayBe a0 a1) sgX10_mayBe mlX10_243 dX10_act_28 (by decide) [.int a0, .int a1] [] sh37 rfl rfl rfl rfl (Nat.le_of_ble_eq_true rfl) (fun r5 σ6 => ?_)
      refine sw_if_ne (pc := 31) 36 C dX10_act_31 (by decide) ?_ ?_
      · refine sw_aloadn (pc := 36) 0 0 C dX10_act_36 rfl ?_
        refine sw_iloadn (pc := 37) 1 1 C dX10_act_37 rfl ?_
        refine sw_iloadn (pc := 38) 2 2 C dX10_act_38 rfl ?_
        refine sw_callVv (pc := 39) C (mX10_doAct a0 a1) sgX10_doAct mlX10_246 dX10_act_39 (by decide) [.int a0, .int a1] [] sh37 rfl rfl rfl rfl (Nat.le_of_ble_eq_true rfl) (fun r7 σ8 => ?_)
        refine sw_iconst (pc := 42) (v := 1) C dX10_act_42 (by decide) ?_
        exact sw_reti (pc := 43) C M dX10_act_43
      · refine sw_iconst (pc := 34) (v := 0) C dX10_act_34 (by decide) ?_
        exact sw_reti (pc := 35) C M dX10_act_35
    · refine sw_bipush (pc := 22) (v := (-2)) C dX10_act_22 (by decide) ?_
      exact sw_reti (pc := 24) C M dX10_act_24
  · refine sw_iconst (pc := 8) (v := (-1)) C dX10_act_8 (by decide) ?_
    exact sw_reti (pc := 9) C M dX10_act_9
set_option maxRecDepth 100000 in
set_option maxHeartbeats 4000000 in
theorem jX10_look_B40 {X : sw_X} {ad : Nat → Nat} {t : Unit × sw_St} (C : sw_C X ad cX10_look RX10 5) (hn : sw_nL X = 7) (M : sw_Mv X ad none t)   (v1 : Int32) (v2 : Int32) (v3 : Int32) (v4 : Int32) (v5 : Int32) (s0 : Int32) (σ : sw_St) : sw_J X ad t 40 [(0, .ref (ad 37)), (1, .int v1), (2, .int v2), (3, .int v3), (4, .int v4), (5, .int v5)] [.int s0] σ (fX10_look_B40  v1 v2 v3 v4 v5 s0 σ) := by
  unfold fX10_look_B40
  refine sw_istore (pc := 40) [(6, .int s0), (0, .ref (ad 37)), (1, .int v1), (2, .int v2), (3, .int v3), (4, .int v4), (5, .int v5)] C dX10_look_40 (by rw [hn]; decide) rfl ?_
  refine sw_aloadn (pc := 42) 0 1 C dX10_look_42 rfl ?_
  refine sw_getI (pc := 43) C kfX10_201 sh37 ff10_20 dX10_look_43 ?_
  refine sw_aloadn (pc := 46) 0 1 C dX10_look_46 rfl ?_
  refine sw_getI (pc := 47) C kfX10_172 sh37 ff10_12 dX10_look_47 ?_
  refine sw_icmp_ne (pc := 50) 88 C dX10_look_50 (by decide) ?_ ?_
  · exact sw_retv (pc := 88) C M dX10_look_88
  · refine sw_aloadn (pc := 53) 0 1 C dX10_look_53 rfl ?_
    refine sw_getI (pc := 54) C kfX10_204 sh37 ff10_23 dX10_look_54 ?_
    refine sw_iloadn (pc := 57) 1 2 C dX10_look_57 rfl ?_
    refine sw_icmp_gt (pc := 58) 88 C dX10_look_58 (by decide) ?_ ?_
    · exact sw_retv (pc := 88) C M dX10_look_88
    · refine sw_iload (pc := 61) 0 C dX10_look_61 rfl ?_
      refine sw_if_eq (pc := 63) 88 C dX10_look_63 (by decide) ?_ ?_
      · exact sw_retv (pc := 88) C M dX10_look_88
      · refine sw_aloadn (pc := 66) 0 1 C dX10_look_66 rfl ?_
        refine sw_iloadn (pc := 67) 2 3 C dX10_look_67 rfl ?_
        refine sw_putL (pc := 68) C kpX10_250 sh37 ff10_34 dX10_look_68 (fun σ3 => ?_)
        refine sw_aloadn (pc := 71) 0 1 C dX10_look_71 rfl ?_
        refine sw_iloadn (pc := 72) 3 4 C dX10_look_72 rfl ?_
        refine sw_putL (pc := 73) C kpX10_253 sh37 ff10_35 dX10_look_73 (fun σ4 => ?_)
        refine sw_aloadn (pc := 76) 0 1 C dX10_look_76 rfl ?_
        refine sw_iload (pc := 77) 5 C dX10_look_77 rfl ?_
        refine sw_putL (pc := 79) C kpX10_256 sh37 ff10_36 dX10_look_79 (fun σ5 => ?_)
        refine sw_aloadn (pc := 82) 0 1 C dX10_look_82 rfl ?_
        refine sw_iload (pc := 83) 6 C dX10_look_83 rfl ?_
        refine sw_putL (pc := 85) C kpX10_259 sh37 ff10_37 dX10_look_85 (fun σ6 => ?_)
        exact sw_retv (pc := 88) C M dX10_look_88
set_option maxRecDepth 100000 in
set_option maxHeartbeats 4000000 in
theorem jX10_look_B35 {X : sw_X} {ad : Nat → Nat} {t : Unit × sw_St} (C : sw_C X ad cX10_look RX10 5) (hn : sw_nL X = 7) (M : sw_Mv X ad none t)   (v1 : Int32) (v2 : Int32) (v3 : Int32) (v4 : Int32) (v5 : Int32) (σ : sw_St) : sw_J X ad t 35 [(0, .ref (ad 37)), (1, .int v1), (2, .int v2), (3, .int v3), (4, .int v4), (5, .int v5)] [] σ (fX10_look_B35  v1 v2 v3 v4 v5 σ) := by
  unfold fX10_look_B35
  refine sw_iconst (pc := 35) (v := 1) C dX10_look_35 (by decide) ?_
  refine sw_goto (pc := 36) 40 C dX10_look_36 (by decide) ?_
  exact jX10_look_B40 C hn M  _ _ _ _ _ _ _
set_option maxRecDepth 100000 in
set_option maxHeartbeats 4000000 in
theorem jX10_look_B39 {X : sw_X} {ad : Nat → Nat} {t : Unit × sw_St} (C : sw_C X ad cX10_look RX10 5) (hn : sw_nL X = 7) (M : sw_Mv X ad none t)   (v1 : Int32) (v2 : Int32) (v3 : Int32) (v4 : Int32) (v5 : Int32) (σ : sw_St) : sw_J X ad t 39 [(0, .ref (ad 37)), (1, .int v1), (2, .int v2), (3, .int v3), (4, .int v4), (5, .int v5)] [] σ (fX10_look_B39  v1 v2 v3 v4 v5 σ) := by
  unfold fX10_look_B39
  refine sw_iconst (pc := 39) (v := 0) C dX10_look_39 (by decide) ?_
  exact jX10_look_B40 C hn M  _ _ _ _ _ _ _
set_option maxRecDepth 100000 in
set_option maxHeartbeats 4000000 in
theorem mX10_look   (a0 : Int32) (a1 : Int32) (a2 : Int32) (a3 : Int32) (a4 : Int32) : sw_Kv yX10_look cX10_look 7 none 5 (fun ad => [.ref (ad 37), .int a0, .int a1, .int a2, .int a3, .int a4]) (fX10_look a0 a1 a2 a3 a4) := by
  refine sw_enterv (by decide) (fun ad => Nat.le_of_ble_eq_true rfl) (fun X ad t σ C hn M => ?_)
  change sw_J X ad t 0 [(0, .ref (ad 37)), (1, .int a0), (2, .int a1), (3, .int a2), (4, .int a3), (5, .int a4)] [] σ _
  replace C : sw_C X ad cX10_look RX10 5 := C
  unfold fX10_look
  refine sw_aloadn (pc := 0) 0 0 C dX10_look_0 rfl ?_
  refine sw_callVv (pc := 1) C mX10_cut sgX10_cut mlX10_210 dX10_look_1 (by decide) [] [] sh37 rfl rfl rfl rfl (Nat.le_of_ble_eq_true rfl) (fun r1 σ2 => ?_)
  refine sw_aloadn (pc := 4) 0 0 C dX10_look_4 rfl ?_
  refine sw_getI (pc := 5) C kfX10_250 sh37 ff10_34 dX10_look_5 ?_
  refine sw_if_lt (pc := 8) 35 C dX10_look_8 (by decide) ?_ ?_
  · exact jX10_look_B35 C hn M  _ _ _ _ _ _
  · refine sw_iloadn (pc := 11) 2 2 C dX10_look_11 rfl ?_
    refine sw_aloadn (pc := 12) 0 0 C dX10_look_12 rfl ?_
    refine sw_getI (pc := 13) C kfX10_250 sh37 ff10_34 dX10_look_13 ?_
    refine sw_icmp_lt (pc := 16) 35 C dX10_look_16 (by decide) ?_ ?_
    · exact jX10_look_B35 C hn M  _ _ _ _ _ _
    · refine sw_iloadn (pc := 19) 2 2 C dX10_look_19 rfl ?_
      refine sw_aloadn (pc := 20) 0 0 C dX10_look_20 rfl ?_
      refine sw_getI (pc := 21) C kfX10_250 sh37 ff10_34 dX10_look_21 ?_
      refine sw_icmp_ne (pc := 24) 39 C dX10_look_24 (by decide) ?_ ?_
      · exact jX10_look_B39 C hn M  _ _ _ _ _ _
      · refine sw_iloadn (pc := 27) 3 3 C dX10_look_27 rfl ?_
        refine sw_aloadn (pc := 28) 0 0 C dX10_look_28 rfl ?_
        refine sw_getI (pc := 29) C kfX10_253 sh37 ff10_35 dX10_look_29 ?_
        refine sw_icmp_ge (pc := 32) 39 C dX10_look_32 (by decide) ?_ ?_
        · exact jX10_look_B39 C hn M  _ _ _ _ _ _
        · exact jX10_look_B35 C hn M  _ _ _ _ _ _
set_option maxRecDepth 100000 in
set_option maxHeartbeats 4000000 in
theorem mX10_keep   (a0 : Int32) (a1 : Int32) : sw_Kv yX10_keep cX10_keep 3 none 1 (fun ad => [.ref (ad 37), .int a0, .int a1]) (fX10_keep a0 a1) := by
  refine sw_enterv (by decide) (fun ad => Nat.le_of_ble_eq_true rfl) (fun X ad t σ C hn M => ?_)
  change sw_J X ad t 0 [(0, .ref (ad 37)), (1, .int a0), (2, .int a1)] [] σ _
  replace C : sw_C X ad cX10_keep RX10 1 := C
  unfold fX10_keep
  refine sw_aloadn (pc := 0) 0 0 C dX10_keep_0 rfl ?_
  refine sw_getR (pc := 1) C kfX10_67 sh37 ff10_38 dX10_keep_1 ?_
  refine sw_iloadn (pc := 4) 2 2 C dX10_keep_4 rfl ?_
  refine sw_aloadn (pc := 5) 0 0 C dX10_keep_5 rfl ?_
  refine sw_getR (pc := 6) C kfX10_16 sh37 ff10_4 dX10_keep_6 ?_
  refine sw_iloadn (pc := 9) 1 1 C dX10_keep_9 rfl ?_
  refine sw_iald (pc := 10) C sh40 dX10_keep_10 ?_
  refine sw_iastL (pc := 11) C sh57 dX10_keep_11 (fun σ1 => ?_)
  refine sw_aloadn (pc := 12) 0 0 C dX10_keep_12 rfl ?_
  refine sw_getR (pc := 13) C kfX10_67 sh37 ff10_38 dX10_keep_13 ?_
  refine sw_iloadn (pc := 16) 2 2 C dX10_keep_16 rfl ?_
  refine sw_iconst (pc := 17) (v := 1) C dX10_keep_17 (by decide) ?_
  refine sw_iadd (pc := 18) C dX10_keep_18 ?_
  refine sw_aloadn (pc := 19) 0 0 C dX10_keep_19 rfl ?_
  refine sw_getR (pc := 20) C kfX10_19 sh37 ff10_5 dX10_keep_20 ?_
  refine sw_iloadn (pc := 23) 1 1 C dX10_keep_23 rfl ?_
  refine sw_iald (pc := 24) C sh41 dX10_keep_24 ?_
  refine sw_iastL (pc := 25) C sh57 dX10_keep_25 (fun σ2 => ?_)
  refine sw_aloadn (pc := 26) 0 0 C dX10_keep_26 rfl ?_
  refine sw_getR (pc := 27) C kfX10_67 sh37 ff10_38 dX10_keep_27 ?_
  refine sw_iloadn (pc := 30) 2 2 C dX10_keep_30 rfl ?_
  refine sw_iconst (pc := 31) (v := 2) C dX10_keep_31 (by decide) ?_
  refine sw_iadd (pc := 32) C dX10_keep_32 ?_
  refine sw_aloadn (pc := 33) 0 0 C dX10_keep_33 rfl ?_
  refine sw_getR (pc := 34) C kfX10_22 sh37 ff10_6 dX10_keep_34 ?_
  refine sw_iloadn (pc := 37) 1 1 C dX10_keep_37 rfl ?_
  refine sw_iald (pc := 38) C sh42 dX10_keep_38 ?_
  refine sw_iastL (pc := 39) C sh57 dX10_keep_39 (fun σ3 => ?_)
  exact sw_retv (pc := 40) C M dX10_keep_40
set_option maxRecDepth 100000 in
set_option maxHeartbeats 4000000 in
theorem mX10_putBack   (a0 : Int32) (a1 : Int32) : sw_Kv yX10_putBack cX10_putBack 3 none 1 (fun ad => [.ref (ad 37), .int a0, .int a1]) (fX10_putBack a0 a1) := by
  refine sw_enterv (by decide) (fun ad => Nat.le_of_ble_eq_true rfl) (fun X ad t σ C hn M => ?_)
  change sw_J X ad t 0 [(0, .ref (ad 37)), (1, .int a0), (2, .int a1)] [] σ _
  replace C : sw_C X ad cX10_putBack RX10 1 := C
  unfold fX10_putBack
  refine sw_aloadn (pc := 0) 0 0 C dX10_putBack_0 rfl ?_
  refine sw_getR (pc := 1) C kfX10_16 sh37 ff10_4 dX10_putBack_1 ?_
  refine sw_iloadn (pc := 4) 1 1 C dX10_putBack_4 rfl ?_
  refine sw_aloadn (pc := 5) 0 0 C dX10_putBack_5 rfl ?_
  refine sw_getR (pc := 6) C kfX10_67 sh37 ff10_38 dX10_putBack_6 ?_
  refine sw_iloadn (pc := 9) 2 2 C dX10_putBack_9 rfl ?_
  refine sw_iald (pc := 10) C sh57 dX10_putBack_10 ?_
  refine sw_iastL (pc := 11) C sh40 dX10_putBack_11 (fun σ1 => ?_)
  refine sw_aloadn (pc := 12) 0 0 C dX10_putBack_12 rfl ?_
  refine sw_getR (pc := 13) C kfX10_19 sh37 ff10_5 dX10_putBack_13 ?_
  refine sw_iloadn (pc := 16) 1 1 C dX10_putBack_16 rfl ?_
  refine sw_aloadn (pc := 17) 0 0 C dX10_putBack_17 rfl ?_
  refine sw_getR (pc := 18) C kfX10_67 sh37 ff10_38 dX10_putBack_18 ?_
  refine sw_iloadn (pc := 21) 2 2 C dX10_putBack_21 rfl ?_
  refine sw_iconst (pc := 22) (v := 1) C dX10_putBack_22 (by decide) ?_
  refine sw_iadd (pc := 23) C dX10_putBack_23 ?_
  refine sw_iald (pc := 24) C sh57 dX10_putBack_24 ?_
  refine sw_iastL (pc := 25) C sh41 dX10_putBack_25 (fun σ2 => ?_)
  refine sw_aloadn (pc := 26) 0 0 C dX10_putBack_26 rfl ?_
  refine sw_getR (pc := 27) C kfX10_22 sh37 ff10_6 dX10_putBack_27 ?_
  refine sw_iloadn (pc := 30) 1 1 C dX10_putBack_30 rfl ?_
  refine sw_aloadn (pc := 31) 0 0 C dX10_putBack_31 rfl ?_
  refine sw_getR (pc := 32) C kfX10_67 sh37 ff10_38 dX10_putBack_32 ?_
  refine sw_iloadn (pc := 35) 2 2 C dX10_putBack_35 rfl ?_
  refine sw_iconst (pc := 36) (v := 2) C dX10_putBack_36 (by decide) ?_
  refine sw_iadd (pc := 37) C dX10_putBack_37 ?_
  refine sw_iald (pc := 38) C sh57 dX10_putBack_38 ?_
  refine sw_iastL (pc := 39) C sh42 dX10_putBack_39 (fun σ3 => ?_)
  exact sw_retv (pc := 40) C M dX10_putBack_40
set_option maxRecDepth 100000 in
set_option maxHeartbeats 4000000 in
theorem jX10_lookFurther_B89 {X : sw_X} {ad : Nat → Nat} {t : Unit × sw_St} (C : sw_C X ad cX10_lookFurther RX10 6) (hn : sw_nL X = 7) (M : sw_Mv X ad none t)   {K3 : Int32 → Int32 → Int32 → Int32 → sw_St → Option (Unit × sw_St)} (hK3 : ∀ (z1 : Int32) (z2 : Int32) (z3 : Int32) (z4 : Int32) (τ : sw_St), sw_J X ad t 3 [(0, .ref (ad 37)), (1, .int z1), (2, .int z2), (3, .int z3), (4, .int z4)] [] τ (K3 z1 z2 z3 z4 τ)) (v1 : Int32) (v2 : Int32) (v3 : Int32) (v4 : Int32) (σ : sw_St) : sw_J X ad t 89 [(0, .ref (ad 37)), (1, .int v1), (2, .int v2), (3, .int v3), (4, .int v4)] [] σ (fX10_lookFurther_B89 K3 v1 v2 v3 v4 σ) := by
  unfold fX10_lookFurther_B89
  refine sw_iinc (pc := 89) (v4 + 1) 4 [(4, .int (v4 + 1)), (0, .ref (ad 37)), (1, .int v1), (2, .int v2), (3, .int v3)] C dX10_lookFurther_89 (by rw [hn]; decide) rfl rfl rfl ?_
  refine sw_goto (pc := 92) 3 C dX10_lookFurther_92 (by decide) ?_
  refine sw_lpick (pc := 3) (L' := [(0, .ref (ad 37)), (1, .int v1), (2, .int v2), (3, .int v3), (4, .int (v4 + 1))]) [1, 2, 3, 4, 0] rfl ?_
  exact hK3 _ _ _ _ _
set_option maxRecDepth 100000 in
set_option maxHeartbeats 4000000 in
theorem jX10_lookFurther_L3 {X : sw_X} {ad : Nat → Nat} {t : Unit × sw_St} (C : sw_C X ad cX10_lookFurther RX10 6) (hn : sw_nL X = 7) (M : sw_Mv X ad none t)   : ∀ (n : Nat) (v1 : Int32) (v2 : Int32) (v3 : Int32) (v4 : Int32) (σ : sw_St), sw_J X ad t 3 [(0, .ref (ad 37)), (1, .int v1), (2, .int v2), (3, .int v3), (4, .int v4)] [] σ (fX10_lookFurther_L3  n v1 v2 v3 v4 σ) := by
  intro n
  induction n with
  | zero => exact fun _ _ _ _ _ => sw_none
  | succ n ih =>
    intro v1 v2 v3 v4 σ
    unfold fX10_lookFurther_L3
    refine sw_iload (pc := 3) 4 C dX10_lookFurther_3 rfl ?_
    refine sw_iconst (pc := 5) (v := 4) C dX10_lookFurther_5 (by decide) ?_
    refine sw_aloadn (pc := 6) 0 0 C dX10_lookFurther_6 rfl ?_
    refine sw_getI (pc := 7) C kfX10_116 sh37 ff10_1 dX10_lookFurther_7 ?_
    refine sw_imul (pc := 10) C dX10_lookFurther_10 ?_
    refine sw_icmp_ge (pc := 11) 95 C dX10_lookFurther_11 (by decide) ?_ ?_
    · exact sw_retv (pc := 95) C M dX10_lookFurther_95
    · refine sw_iload (pc := 14) 4 C dX10_lookFurther_14 rfl ?_
      refine sw_iconst (pc := 16) (v := 4) C dX10_lookFurther_16 (by decide) ?_
      refine sw_idivc (pc := 17) C dX10_lookFurther_17 (by decide) ?_
      refine sw_leti (fun x1 => ?_)
      refine sw_istore (pc := 18) [(5, .int x1), (0, .ref (ad 37)), (1, .int v1), (2, .int v2), (3, .int v3), (4, .int v4)] C dX10_lookFurther_18 (by rw [hn]; decide) rfl ?_
      refine sw_iload (pc := 20) 5 C dX10_lookFurther_20 rfl ?_
      refine sw_iconst (pc := 22) (v := 4) C dX10_lookFurther_22 (by decide) ?_
      refine sw_iremc (pc := 23) C dX10_lookFurther_23 (by decide) ?_
      refine sw_leti (fun x2 => ?_)
      refine sw_istore (pc := 24) [(6, .int x2), (5, .int x1), (0, .ref (ad 37)), (1, .int v1), (2, .int v2), (3, .int v3), (4, .int v4)] C dX10_lookFurther_24 (by rw [hn]; decide) rfl ?_
      refine sw_aloadn (pc := 26) 0 2 C dX10_lookFurther_26 rfl ?_
      refine sw_iload (pc := 27) 1 C dX10_lookFurther_27 rfl ?_
      refine sw_iload (pc := 29) 0 C dX10_lookFurther_29 rfl ?_
      refine sw_callVi (pc := 31) C (mX10_mayBe x1 x2) sgX10_mayBe mlX10_243 dX10_lookFurther_31 (by decide) [.int x1, .int x2] [] sh37 rfl rfl rfl rfl (Nat.le_of_ble_eq_true rfl) (fun r3 σ4 => ?_)
      refine sw_if_eq (pc := 34) 89 C dX10_lookFurther_34 (by decide) ?_ ?_
      · refine sw_lpick (pc := 89) (L' := [(0, .ref (ad 37)), (1, .int v1), (2, .int v2), (3, .int v3), (4, .int v4)]) [2, 3, 4, 5, 6] rfl ?_
        exact jX10_lookFurther_B89 C hn M ih _ _ _ _ _
      · refine sw_aloadn (pc := 37) 0 2 C dX10_lookFurther_37 rfl ?_
        refine sw_iload (pc := 38) 1 C dX10_lookFurther_38 rfl ?_
        refine sw_iconst (pc := 40) (v := 3) C dX10_lookFurther_40 (by decide) ?_
        refine sw_callVv (pc := 41) C (mX10_keep x1 3) sgX10_keep mlX10_262 dX10_lookFurther_41 (by decide) [.int x1, .int 3] [] sh37 rfl rfl rfl rfl (Nat.le_of_ble_eq_true rfl) (fun r5 σ6 => ?_)
        refine sw_aloadn (pc := 44) 0 2 C dX10_lookFurther_44 rfl ?_
        refine sw_iload (pc := 45) 1 C dX10_lookFurther_45 rfl ?_
        refine sw_iload (pc := 47) 0 C dX10_lookFurther_47 rfl ?_
        refine sw_callVv (pc := 49) C (mX10_doAct x1 x2) sgX10_doAct mlX10_246 dX10_lookFurther_49 (by decide) [.int x1, .int x2] [] sh37 rfl rfl rfl rfl (Nat.le_of_ble_eq_true rfl) (fun r7 σ8 => ?_)
        refine sw_aloadn (pc := 52) 0 2 C dX10_lookFurther_52 rfl ?_
        refine sw_iloadn (pc := 53) 1 3 C dX10_lookFurther_53 rfl ?_
        refine sw_iloadn (pc := 54) 3 5 C dX10_lookFurther_54 rfl ?_
        refine sw_callSi (pc := 55) C (mX10_costOf v3) sgX10_costOf mlX10_265 dX10_lookFurther_55 (by decide) [.int v3] [.int v1, .ref (ad 37)] rfl rfl rfl (Nat.le_of_ble_eq_true rfl) (fun r9 σ10 => ?_)
        refine sw_iload (pc := 58) 0 C dX10_lookFurther_58 rfl ?_
        refine sw_callSi (pc := 60) C (mX10_costOf x2) sgX10_costOf mlX10_265 dX10_lookFurther_60 (by decide) [.int x2] [.int r9, .int v1, .ref (ad 37)] rfl rfl rfl (Nat.le_of_ble_eq_true rfl) (fun r11 σ12 => ?_)
        refine sw_iadd (pc := 63) C dX10_lookFurther_63 ?_
        refine sw_iconst (pc := 64) (v := 2) C dX10_lookFurther_64 (by decide) ?_
        refine sw_bipush (pc := 65) (v := 10) C dX10_lookFurther_65 (by decide) ?_
        refine sw_iloadn (pc := 67) 2 4 C dX10_lookFurther_67 rfl ?_
        refine sw_imul (pc := 68) C dX10_lookFurther_68 ?_
        refine sw_iloadn (pc := 69) 3 5 C dX10_lookFurther_69 rfl ?_
        refine sw_iadd (pc := 70) C dX10_lookFurther_70 ?_
        refine sw_bipush (pc := 71) (v := 10) C dX10_lookFurther_71 (by decide) ?_
        refine sw_iload (pc := 73) 1 C dX10_lookFurther_73 rfl ?_
        refine sw_imul (pc := 75) C dX10_lookFurther_75 ?_
        refine sw_iload (pc := 76) 0 C dX10_lookFurther_76 rfl ?_
        refine sw_iadd (pc := 78) C dX10_lookFurther_78 ?_
        refine sw_callVv (pc := 79) C (mX10_look v1 (r9 + r11) 2 ((10 * v2) + v3) ((10 * x1) + x2)) sgX10_look mlX10_268 dX10_lookFurther_79 (by decide) [.int v1, .int (r9 + r11), .int 2, .int ((10 * v2) + v3), .int ((10 * x1) + x2)] [] sh37 rfl rfl rfl rfl (Nat.le_of_ble_eq_true rfl) (fun r13 σ14 => ?_)
        refine sw_aloadn (pc := 82) 0 2 C dX10_lookFurther_82 rfl ?_
        refine sw_iload (pc := 83) 1 C dX10_lookFurther_83 rfl ?_
        refine sw_iconst (pc := 85) (v := 3) C dX10_lookFurther_85 (by decide) ?_
        refine sw_callVv (pc := 86) C (mX10_putBack x1 3) sgX10_putBack mlX10_272 dX10_lookFurther_86 (by decide) [.int x1, .int 3] [] sh37 rfl rfl rfl rfl (Nat.le_of_ble_eq_true rfl) (fun r15 σ16 => ?_)
        refine sw_lpick (pc := 89) (L' := [(0, .ref (ad 37)), (1, .int v1), (2, .int v2), (3, .int v3), (4, .int v4)]) [2, 3, 4, 5, 6] rfl ?_
        exact jX10_lookFurther_B89 C hn M ih _ _ _ _ _
set_option maxRecDepth 100000 in
set_option maxHeartbeats 4000000 in
theorem mX10_lookFurther   (a0 : Int32) (a1 : Int32) (a2 : Int32) : sw_Kv yX10_lookFurther cX10_lookFurther 7 none 6 (fun ad => [.ref (ad 37), .int a0, .int a1, .int a2]) (fX10_lookFurther a0 a1 a2) := by
  refine sw_enterv (by decide) (fun ad => Nat.le_of_ble_eq_true rfl) (fun X ad t σ C hn M => ?_)
  change sw_J X ad t 0 [(0, .ref (ad 37)), (1, .int a0), (2, .int a1), (3, .int a2)] [] σ _
  replace C : sw_C X ad cX10_lookFurther RX10 6 := C
  unfold fX10_lookFurther
  refine sw_iconst (pc := 0) (v := 0) C dX10_lookFurther_0 (by decide) ?_
  refine sw_istore (pc := 1) [(4, .int 0), (0, .ref (ad 37)), (1, .int a0), (2, .int a1), (3, .int a2)] C dX10_lookFurther_1 (by rw [hn]; decide) rfl ?_
  refine sw_lpick (pc := 3) (L' := [(0, .ref (ad 37)), (1, .int a0), (2, .int a1), (3, .int a2), (4, .int 0)]) [1, 2, 3, 4, 0] rfl ?_
  exact jX10_lookFurther_L3 C hn M  _ _ _ _ _ _
set_option maxRecDepth 100000 in
set_option maxHeartbeats 4000000 in
theorem jX10_layMend_B112 {X : sw_X} {ad : Nat → Nat} {t : Unit × sw_St} (C : sw_C X ad cX10_layMend RX10 7) (hn : sw_nL X = 5) (M : sw_Mv X ad none t)   {K36 : Int32 → Int32 → sw_St → Option (Unit × sw_St)} (hK36 : ∀ (z1 : Int32) (z2 : Int32) (τ : sw_St), sw_J X ad t 36 [(0, .ref (ad 37)), (1, .int z1), (2, .int z2)] [] τ (K36 z1 z2 τ)) (v1 : Int32) (v2 : Int32) (σ : sw_St) : sw_J X ad t 112 [(0, .ref (ad 37)), (1, .int v1), (2, .int v2)] [] σ (fX10_layMend_B112 K36 v1 v2 σ) := by
  unfold fX10_layMend_B112
  refine sw_iinc (pc := 112) (v2 + 1) 2 [(2, .int (v2 + 1)), (0, .ref (ad 37)), (1, .int v1)] C dX10_layMend_112 (by rw [hn]; decide) rfl rfl rfl ?_
  refine sw_goto (pc := 115) 36 C dX10_layMend_115 (by decide) ?_
  refine sw_lpick (pc := 36) (L' := [(0, .ref (ad 37)), (1, .int v1), (2, .int (v2 + 1))]) [1, 2, 0] rfl ?_
  exact hK36 _ _ _
set_option maxRecDepth 100000 in
set_option maxHeartbeats 4000000 in
theorem jX10_layMend_L36 {X : sw_X} {ad : Nat → Nat} {t : Unit × sw_St} (C : sw_C X ad cX10_layMend RX10 7) (hn : sw_nL X = 5) (M : sw_Mv X ad none t)   : ∀ (n : Nat) (v1 : Int32) (v2 : Int32) (σ : sw_St), sw_J X ad t 36 [(0, .ref (ad 37)), (1, .int v1), (2, .int v2)] [] σ (fX10_layMend_L36  n v1 v2 σ) := by
  intro n
  induction n with
  | zero => exact fun _ _ _ => sw_none
  | succ n ih =>
    intro v1 v2 σ
    unfold fX10_layMend_L36
    refine sw_iloadn (pc := 36) 2 2 C dX10_layMend_36 rfl ?_
    refine sw_iconst (pc := 37) (v := 4) C dX10_layMend_37 (by decide) ?_
    refine sw_aloadn (pc := 38) 0 0 C dX10_layMend_38 rfl ?_
    refine sw_getI (pc := 39) C kfX10_116 sh37 ff10_1 dX10_layMend_39 ?_
    refine sw_imul (pc := 42) C dX10_layMend_42 ?_
    refine sw_icmp_ge (pc := 43) 118 C dX10_layMend_43 (by decide) ?_ ?_
    · exact sw_retv (pc := 118) C M dX10_layMend_118
    · refine sw_iloadn (pc := 46) 2 2 C dX10_layMend_46 rfl ?_
      refine sw_iconst (pc := 47) (v := 4) C dX10_layMend_47 (by decide) ?_
      refine sw_idivc (pc := 48) C dX10_layMend_48 (by decide) ?_
      refine sw_leti (fun x7 => ?_)
      refine sw_istoren (pc := 49) 3 [(3, .int x7), (0, .ref (ad 37)), (1, .int v1), (2, .int v2)] C dX10_layMend_49 (by rw [hn]; decide) rfl ?_
      refine sw_iloadn (pc := 50) 2 3 C dX10_layMend_50 rfl ?_
      refine sw_iconst (pc := 51) (v := 4) C dX10_layMend_51 (by decide) ?_
      refine sw_iremc (pc := 52) C dX10_layMend_52 (by decide) ?_
      refine sw_leti (fun x8 => ?_)
      refine sw_istore (pc := 53) [(4, .int x8), (3, .int x7), (0, .ref (ad 37)), (1, .int v1), (2, .int v2)] C dX10_layMend_53 (by rw [hn]; decide) rfl ?_
      refine sw_aloadn (pc := 55) 0 2 C dX10_layMend_55 rfl ?_
      refine sw_iloadn (pc := 56) 3 1 C dX10_layMend_56 rfl ?_
      refine sw_iload (pc := 57) 0 C dX10_layMend_57 rfl ?_
      refine sw_callVi (pc := 59) C (mX10_mayBe x7 x8) sgX10_mayBe mlX10_243 dX10_layMend_59 (by decide) [.int x7, .int x8] [] sh37 rfl rfl rfl rfl (Nat.le_of_ble_eq_true rfl) (fun r9 σ10 => ?_)
      refine sw_if_eq (pc := 62) 112 C dX10_layMend_62 (by decide) ?_ ?_
      · refine sw_lpick (pc := 112) (L' := [(0, .ref (ad 37)), (1, .int v1), (2, .int v2)]) [2, 3, 4] rfl ?_
        exact jX10_layMend_B112 C hn M ih _ _ _
      · refine sw_aloadn (pc := 65) 0 2 C dX10_layMend_65 rfl ?_
        refine sw_iloadn (pc := 66) 3 1 C dX10_layMend_66 rfl ?_
        refine sw_iconst (pc := 67) (v := 0) C dX10_layMend_67 (by decide) ?_
        refine sw_callVv (pc := 68) C (mX10_keep x7 0) sgX10_keep mlX10_262 dX10_layMend_68 (by decide) [.int x7, .int 0] [] sh37 rfl rfl rfl rfl (Nat.le_of_ble_eq_true rfl) (fun r11 σ12 => ?_)
        refine sw_aloadn (pc := 71) 0 2 C dX10_layMend_71 rfl ?_
        refine sw_iloadn (pc := 72) 3 1 C dX10_layMend_72 rfl ?_
        refine sw_iload (pc := 73) 0 C dX10_layMend_73 rfl ?_
        refine sw_callVv (pc := 75) C (mX10_doAct x7 x8) sgX10_doAct mlX10_246 dX10_layMend_75 (by decide) [.int x7, .int x8] [] sh37 rfl rfl rfl rfl (Nat.le_of_ble_eq_true rfl) (fun r13 σ14 => ?_)
        refine sw_aloadn (pc := 78) 0 2 C dX10_layMend_78 rfl ?_
        refine sw_iloadn (pc := 79) 1 3 C dX10_layMend_79 rfl ?_
        refine sw_iload (pc := 80) 0 C dX10_layMend_80 rfl ?_
        refine sw_callSi (pc := 82) C (mX10_costOf x8) sgX10_costOf mlX10_265 dX10_layMend_82 (by decide) [.int x8] [.int v1, .ref (ad 37)] rfl rfl rfl (Nat.le_of_ble_eq_true rfl) (fun r15 σ16 => ?_)
        refine sw_iconst (pc := 85) (v := 1) C dX10_layMend_85 (by decide) ?_
        refine sw_bipush (pc := 86) (v := 10) C dX10_layMend_86 (by decide) ?_
        refine sw_iloadn (pc := 88) 3 1 C dX10_layMend_88 rfl ?_
        refine sw_imul (pc := 89) C dX10_layMend_89 ?_
        refine sw_iload (pc := 90) 0 C dX10_layMend_90 rfl ?_
        refine sw_iadd (pc := 92) C dX10_layMend_92 ?_
        refine sw_bipush (pc := 93) (v := (-9)) C dX10_layMend_93 (by decide) ?_
        refine sw_callVv (pc := 95) C (mX10_look v1 r15 1 ((10 * x7) + x8) (-9)) sgX10_look mlX10_268 dX10_layMend_95 (by decide) [.int v1, .int r15, .int 1, .int ((10 * x7) + x8), .int (-9)] [] sh37 rfl rfl rfl rfl (Nat.le_of_ble_eq_true rfl) (fun r17 σ18 => ?_)
        refine sw_aloadn (pc := 98) 0 2 C dX10_layMend_98 rfl ?_
        refine sw_iloadn (pc := 99) 1 3 C dX10_layMend_99 rfl ?_
        refine sw_iloadn (pc := 100) 3 1 C dX10_layMend_100 rfl ?_
        refine sw_iload (pc := 101) 0 C dX10_layMend_101 rfl ?_
        refine sw_callVv (pc := 103) C (mX10_lookFurther v1 x7 x8) sgX10_lookFurther mlX10_275 dX10_layMend_103 (by decide) [.int v1, .int x7, .int x8] [] sh37 rfl rfl rfl rfl (Nat.le_of_ble_eq_true rfl) (fun r19 σ20 => ?_)
        refine sw_aloadn (pc := 106) 0 2 C dX10_layMend_106 rfl ?_
        refine sw_iloadn (pc := 107) 3 1 C dX10_layMend_107 rfl ?_
        refine sw_iconst (pc := 108) (v := 0) C dX10_layMend_108 (by decide) ?_
        refine sw_callVv (pc := 109) C (mX10_putBack x7 0) sgX10_putBack mlX10_272 dX10_layMend_109 (by decide) [.int x7, .int 0] [] sh37 rfl rfl rfl rfl (Nat.le_of_ble_eq_true rfl) (fun r21 σ22 => ?_)
        refine sw_lpick (pc := 112) (L' := [(0, .ref (ad 37)), (1, .int v1), (2, .int v2)]) [2, 3, 4] rfl ?_
        exact jX10_layMend_B112 C hn M ih _ _ _
set_option maxRecDepth 100000 in
set_option maxHeartbeats 4000000 in
theorem mX10_layMend   (a0 : Int32) : sw_Kv yX10_layMend cX10_layMend 5 none 7 (fun ad => [.ref (ad 37), .int a0]) (fX10_layMend a0) := by
  refine sw_enterv (by decide) (fun ad => Nat.le_of_ble_eq_true rfl) (fun X ad t σ C hn M => ?_)
  change sw_J X ad t 0 [(0, .ref (ad 37)), (1, .int a0)] [] σ _
  replace C : sw_C X ad cX10_layMend RX10 7 := C
  unfold fX10_layMend
  refine sw_aloadn (pc := 0) 0 0 C dX10_layMend_0 rfl ?_
  refine sw_bipush (pc := 1) (v := (-9)) C dX10_layMend_1 (by decide) ?_
  refine sw_putL (pc := 3) C kpX10_250 sh37 ff10_34 dX10_layMend_3 (fun σ1 => ?_)
  refine sw_aloadn (pc := 6) 0 0 C dX10_layMend_6 rfl ?_
  refine sw_iconst (pc := 7) (v := 0) C dX10_layMend_7 (by decide) ?_
  refine sw_putL (pc := 8) C kpX10_253 sh37 ff10_35 dX10_layMend_8 (fun σ2 => ?_)
  refine sw_aloadn (pc := 11) 0 0 C dX10_layMend_11 rfl ?_
  refine sw_bipush (pc := 12) (v := (-9)) C dX10_layMend_12 (by decide) ?_
  refine sw_putL (pc := 14) C kpX10_256 sh37 ff10_36 dX10_layMend_14 (fun σ3 => ?_)
  refine sw_aloadn (pc := 17) 0 0 C dX10_layMend_17 rfl ?_
  refine sw_bipush (pc := 18) (v := (-9)) C dX10_layMend_18 (by decide) ?_
  refine sw_putL (pc := 20) C kpX10_259 sh37 ff10_37 dX10_layMend_20 (fun σ4 => ?_)
  refine sw_aloadn (pc := 23) 0 0 C dX10_layMend_23 rfl ?_
  refine sw_iloadn (pc := 24) 1 1 C dX10_layMend_24 rfl ?_
  refine sw_iconst (pc := 25) (v := 0) C dX10_layMend_25 (by decide) ?_
  refine sw_iconst (pc := 26) (v := 0) C dX10_layMend_26 (by decide) ?_
  refine sw_bipush (pc := 27) (v := (-9)) C dX10_layMend_27 (by decide) ?_
  refine sw_bipush (pc := 29) (v := (-9)) C dX10_layMend_29 (by decide) ?_
  refine sw_callVv (pc := 31) C (mX10_look a0 0 0 (-9) (-9)) sgX10_look mlX10_268 dX10_layMend_31 (by decide) [.int a0, .int 0, .int 0, .int (-9), .int (-9)] [] sh37 rfl rfl rfl rfl (Nat.le_of_ble_eq_true rfl) (fun r5 σ6 => ?_)
  refine sw_iconst (pc := 34) (v := 0) C dX10_layMend_34 (by decide) ?_
  refine sw_istoren (pc := 35) 2 [(2, .int 0), (0, .ref (ad 37)), (1, .int a0)] C dX10_layMend_35 (by rw [hn]; decide) rfl ?_
  refine sw_lpick (pc := 36) (L' := [(0, .ref (ad 37)), (1, .int a0), (2, .int 0)]) [1, 2, 0] rfl ?_
  exact jX10_layMend_L36 C hn M  _ _ _ _
set_option maxRecDepth 100000 in
set_option maxHeartbeats 4000000 in
theorem mX10_mend   (a0 : Int32) (a1 : Int32) : sw_Ki yX10_mend cX10_mend 3 (some .int) 8 (fun ad => [.ref (ad 37), .int a0, .int a1]) (fX10_mend a0 a1) := by
  refine sw_enteri (by decide) (fun ad => Nat.le_of_ble_eq_true rfl) (fun X ad t σ C hn M => ?_)
  change sw_J X ad t 0 [(0, .ref (ad 37)), (1, .int a0), (2, .int a1)] [] σ _
  replace C : sw_C X ad cX10_mend RX10 8 := C
  unfold fX10_mend
  refine sw_iloadn (pc := 0) 1 1 C dX10_mend_0 rfl ?_
  refine sw_i2l (pc := 1) C dX10_mend_1 ?_
  refine sw_lconst (pc := 2) (v := 0) C dX10_mend_2 (by decide) ?_
  refine sw_ldc2 (pc := 3) C dX10_mend_3 klX10_279 ?_
  refine sw_callSi (pc := 6) C (mX10_in (Int32.toInt64 a0) (0 : Int64) (9999 : Int64)) sgX10_in mlX10_105 dX10_mend_6 (by decide) [.long (Int32.toInt64 a0), .long (0 : Int64), .long (9999 : Int64)] [] rfl rfl rfl (Nat.le_of_ble_eq_true rfl) (fun r1 σ2 => ?_)
  refine sw_if_ne (pc := 9) 15 C dX10_mend_9 (by decide) ?_ ?_
  · refine sw_iloadn (pc := 15) 2 2 C dX10_mend_15 rfl ?_
    refine sw_i2l (pc := 16) C dX10_mend_16 ?_
    refine sw_ldc2 (pc := 17) C dX10_mend_17 klX10_281 ?_
    refine sw_lconst (pc := 20) (v := 1) C dX10_mend_20 (by decide) ?_
    refine sw_callSi (pc := 21) C (mX10_in (Int32.toInt64 a1) (-2 : Int64) (1 : Int64)) sgX10_in mlX10_105 dX10_mend_21 (by decide) [.long (Int32.toInt64 a1), .long (-2 : Int64), .long (1 : Int64)] [] rfl rfl rfl (Nat.le_of_ble_eq_true rfl) (fun r3 σ4 => ?_)
    refine sw_if_ne (pc := 24) 29 C dX10_mend_24 (by decide) ?_ ?_
    · refine sw_aloadn (pc := 29) 0 0 C dX10_mend_29 rfl ?_
      refine sw_callVi (pc := 30) C mX10_isBare sgX10_isBare mlX10_216 dX10_mend_30 (by decide) [] [] sh37 rfl rfl rfl rfl (Nat.le_of_ble_eq_true rfl) (fun r5 σ6 => ?_)
      refine sw_if_eq (pc := 33) 39 C dX10_mend_33 (by decide) ?_ ?_
      · refine sw_aloadn (pc := 39) 0 0 C dX10_mend_39 rfl ?_
        refine sw_iloadn (pc := 40) 1 1 C dX10_mend_40 rfl ?_
        refine sw_callVv (pc := 41) C (mX10_layMend a0) sgX10_layMend mlX10_283 dX10_mend_41 (by decide) [.int a0] [] sh37 rfl rfl rfl rfl (Nat.le_of_ble_eq_true rfl) (fun r7 σ8 => ?_)
        refine sw_aloadn (pc := 44) 0 0 C dX10_mend_44 rfl ?_
        refine sw_getI (pc := 45) C kfX10_250 sh37 ff10_34 dX10_mend_45 ?_
        refine sw_if_ge (pc := 48) 54 C dX10_mend_48 (by decide) ?_ ?_
        · refine sw_iloadn (pc := 54) 2 2 C dX10_mend_54 rfl ?_
          refine sw_iconst (pc := 55) (v := (-1)) C dX10_mend_55 (by decide) ?_
          refine sw_icmp_ne (pc := 56) 66 C dX10_mend_56 (by decide) ?_ ?_
          · refine sw_iloadn (pc := 66) 2 2 C dX10_mend_66 rfl ?_
            refine sw_bipush (pc := 67) (v := (-2)) C dX10_mend_67 (by decide) ?_
            refine sw_icmp_ne (pc := 69) 79 C dX10_mend_69 (by decide) ?_ ?_
            · refine sw_iloadn (pc := 79) 2 2 C dX10_mend_79 rfl ?_
              refine sw_if_ne (pc := 80) 90 C dX10_mend_80 (by decide) ?_ ?_
              · refine sw_aloadn (pc := 90) 0 0 C dX10_mend_90 rfl ?_
                refine sw_getI (pc := 91) C kfX10_259 sh37 ff10_37 dX10_mend_91 ?_
                exact sw_reti (pc := 94) C M dX10_mend_94
              · refine sw_aloadn (pc := 83) 0 0 C dX10_mend_83 rfl ?_
                refine sw_getI (pc := 84) C kfX10_256 sh37 ff10_36 dX10_mend_84 ?_
                refine sw_goto (pc := 87) 94 C dX10_mend_87 (by decide) ?_
                exact sw_reti (pc := 94) C M dX10_mend_94
            · refine sw_aloadn (pc := 72) 0 0 C dX10_mend_72 rfl ?_
              refine sw_getI (pc := 73) C kfX10_253 sh37 ff10_35 dX10_mend_73 ?_
              refine sw_goto (pc := 76) 94 C dX10_mend_76 (by decide) ?_
              exact sw_reti (pc := 94) C M dX10_mend_94
          · refine sw_aloadn (pc := 59) 0 0 C dX10_mend_59 rfl ?_
            refine sw_getI (pc := 60) C kfX10_250 sh37 ff10_34 dX10_mend_60 ?_
            refine sw_goto (pc := 63) 94 C dX10_mend_63 (by decide) ?_
            exact sw_reti (pc := 94) C M dX10_mend_94
        · refine sw_bipush (pc := 51) (v := (-9)) C dX10_mend_51 (by decide) ?_
          exact sw_reti (pc := 53) C M dX10_mend_53
      · refine sw_bipush (pc := 36) (v := (-3)) C dX10_mend_36 (by decide) ?_
        exact sw_reti (pc := 38) C M dX10_mend_38
    · refine sw_iconst (pc := 27) (v := (-1)) C dX10_mend_27 (by decide) ?_
      exact sw_reti (pc := 28) C M dX10_mend_28
  · refine sw_bipush (pc := 12) (v := (-2)) C dX10_mend_12 (by decide) ?_
    exact sw_reti (pc := 14) C M dX10_mend_14
set_option maxRecDepth 100000 in
set_option maxHeartbeats 4000000 in
theorem jX10_cutIn_L7 {X : sw_X} {ad : Nat → Nat} {t : Int32 × sw_St} (C : sw_C X ad cX10_cutIn RX10 1) (hn : sw_nL X = 5) (M : sw_Mi X ad (some .int) t)   : ∀ (n : Nat) (v2 : Int32) (v3 : Int32) (v4 : Int32) (σ : sw_St), sw_J X ad t 7 [(2, .int v2), (3, .int v3), (4, .int v4)] [] σ (fX10_cutIn_L7  n v2 v3 v4 σ) := by
  intro n
  induction n with
  | zero => exact fun _ _ _ _ => sw_none
  | succ n ih =>
    intro v2 v3 v4 σ
    unfold fX10_cutIn_L7
    refine sw_iload (pc := 7) 2 C dX10_cutIn_7 rfl ?_
    refine sw_iloadn (pc := 9) 2 0 C dX10_cutIn_9 rfl ?_
    refine sw_icmp_le (pc := 10) 24 C dX10_cutIn_10 (by decide) ?_ ?_
    · refine sw_iloadn (pc := 24) 3 1 C dX10_cutIn_24 rfl ?_
      refine sw_bipush (pc := 25) (v := 7) C dX10_cutIn_25 (by decide) ?_
      refine sw_iremc (pc := 27) C dX10_cutIn_27 (by decide) ?_
      exact sw_reti (pc := 28) C M dX10_cutIn_28
    · refine sw_iloadn (pc := 13) 3 1 C dX10_cutIn_13 rfl ?_
      refine sw_bipush (pc := 14) (v := 7) C dX10_cutIn_14 (by decide) ?_
      refine sw_idivc (pc := 16) C dX10_cutIn_16 (by decide) ?_
      refine sw_leti (fun x2 => ?_)
      refine sw_istoren (pc := 17) 3 [(3, .int x2), (2, .int v2), (4, .int v4)] C dX10_cutIn_17 (by rw [hn]; decide) rfl ?_
      refine sw_iinc (pc := 18) (v4 + (-1)) 2 [(4, .int (v4 + (-1))), (3, .int x2), (2, .int v2)] C dX10_cutIn_18 (by rw [hn]; decide) rfl rfl rfl ?_
      refine sw_goto (pc := 21) 7 C dX10_cutIn_21 (by decide) ?_
      refine sw_lpick (pc := 7) (L' := [(2, .int v2), (3, .int x2), (4, .int (v4 + (-1)))]) [2, 1, 0] rfl ?_
      exact ih _ _ _ _
set_option maxRecDepth 100000 in
set_option maxHeartbeats 4000000 in
theorem mX10_cutIn   (a0 : Int32) (a1 : Int32) (a2 : Int32) : sw_Ki yX10_cutIn cX10_cutIn 5 (some .int) 1 (fun ad => [.int a0, .int a1, .int a2]) (fX10_cutIn a0 a1 a2) := by
  refine sw_enteri (by decide) (fun ad => Nat.le_of_ble_eq_true rfl) (fun X ad t σ C hn M => ?_)
  change sw_J X ad t 0 [(0, .int a0), (1, .int a1), (2, .int a2)] [] σ _
  replace C : sw_C X ad cX10_cutIn RX10 1 := C
  unfold fX10_cutIn
  refine sw_iloadn (pc := 0) 0 0 C dX10_cutIn_0 rfl ?_
  refine sw_istoren (pc := 1) 3 [(3, .int a0), (0, .int a0), (1, .int a1), (2, .int a2)] C dX10_cutIn_1 (by rw [hn]; decide) rfl ?_
  refine sw_iloadn (pc := 2) 1 2 C dX10_cutIn_2 rfl ?_
  refine sw_iconst (pc := 3) (v := 1) C dX10_cutIn_3 (by decide) ?_
  refine sw_isub (pc := 4) C dX10_cutIn_4 ?_
  refine sw_leti (fun x1 => ?_)
  refine sw_istore (pc := 5) [(4, .int x1), (3, .int a0), (0, .int a0), (1, .int a1), (2, .int a2)] C dX10_cutIn_5 (by rw [hn]; decide) rfl ?_
  refine sw_lpick (pc := 7) (L' := [(2, .int a2), (3, .int a0), (4, .int x1)]) [4, 1, 0] rfl ?_
  exact jX10_cutIn_L7 C hn M  _ _ _ _ _
set_option maxRecDepth 100000 in
set_option maxHeartbeats 4000000 in
theorem jX10_costOfOrder_B144 {X : sw_X} {ad : Nat → Nat} {t : Int32 × sw_St} (C : sw_C X ad cX10_costOfOrder RX10 2) (hn : sw_nL X = 9) (M : sw_Mi X ad (some .int) t)   {K8 : Int32 → Int32 → Int32 → Int32 → Int32 → sw_St → Option (Int32 × sw_St)} (hK8 : ∀ (z1 : Int32) (z2 : Int32) (z3 : Int32) (z4 : Int32) (z5 : Int32) (τ : sw_St), sw_J X ad t 8 [(0, .ref (ad 37)), (1, .int z1), (2, .int z2), (3, .int z3), (4, .int z4), (5, .int z5)] [] τ (K8 z1 z2 z3 z4 z5 τ)) (v1 : Int32) (v2 : Int32) (v3 : Int32) (v4 : Int32) (v5 : Int32) (v6 : Int32) (v7 : Int32) (σ : sw_St) : sw_J X ad t 144 [(0, .ref (ad 37)), (1, .int v1), (2, .int v2), (3, .int v3), (4, .int v4), (5, .int v5), (6, .int v6), (7, .int v7)] [] σ (fX10_costOfOrder_B144 K8 v1 v2 v3 v4 v5 v6 v7 σ) := by
  unfold fX10_costOfOrder_B144
  refine sw_iload (pc := 144) 4 C dX10_costOfOrder_144 rfl ?_
  refine sw_iload (pc := 146) 7 C dX10_costOfOrder_146 rfl ?_
  refine sw_callSi (pc := 148) C (mX10_size v7) sgX10_size mlX10_207 dX10_costOfOrder_148 (by decide) [.int v7] [.int v4] rfl rfl rfl (Nat.le_of_ble_eq_true rfl) (fun r5 σ6 => ?_)
  refine sw_iadd (pc := 151) C dX10_costOfOrder_151 ?_
  refine sw_leti (fun x7 => ?_)
  refine sw_istore (pc := 152) [(4, .int x7), (0, .ref (ad 37)), (1, .int v1), (2, .int v2), (3, .int v3), (5, .int v5), (6, .int v6), (7, .int v7)] C dX10_costOfOrder_152 (by rw [hn]; decide) rfl ?_
  refine sw_iloadn (pc := 154) 3 4 C dX10_costOfOrder_154 rfl ?_
  refine sw_iconst (pc := 155) (v := 1) C dX10_costOfOrder_155 (by decide) ?_
  refine sw_iload (pc := 156) 6 C dX10_costOfOrder_156 rfl ?_
  refine sw_ishl (pc := 158) C dX10_costOfOrder_158 ?_
  refine sw_ior (pc := 159) C dX10_costOfOrder_159 ?_
  refine sw_leti (fun x8 => ?_)
  refine sw_istoren (pc := 160) 3 [(3, .int x8), (4, .int x7), (0, .ref (ad 37)), (1, .int v1), (2, .int v2), (5, .int v5), (6, .int v6), (7, .int v7)] C dX10_costOfOrder_160 (by rw [hn]; decide) rfl ?_
  refine sw_iinc (pc := 161) (v5 + 1) 5 [(5, .int (v5 + 1)), (3, .int x8), (4, .int x7), (0, .ref (ad 37)), (1, .int v1), (2, .int v2), (6, .int v6), (7, .int v7)] C dX10_costOfOrder_161 (by rw [hn]; decide) rfl rfl rfl ?_
  refine sw_goto (pc := 164) 8 C dX10_costOfOrder_164 (by decide) ?_
  refine sw_lpick (pc := 8) (L' := [(0, .ref (ad 37)), (1, .int v1), (2, .int v2), (3, .int x8), (4, .int x7), (5, .int (v5 + 1))]) [3, 4, 5, 1, 2, 0] rfl ?_
  exact hK8 _ _ _ _ _ _
set_option maxRecDepth 100000 in
set_option maxHeartbeats 4000000 in
theorem jX10_costOfOrder_B126 {X : sw_X} {ad : Nat → Nat} {t : Int32 × sw_St} (C : sw_C X ad cX10_costOfOrder RX10 2) (hn : sw_nL X = 9) (M : sw_Mi X ad (some .int) t)   {K8 : Int32 → Int32 → Int32 → Int32 → Int32 → sw_St → Option (Int32 × sw_St)} (hK8 : ∀ (z1 : Int32) (z2 : Int32) (z3 : Int32) (z4 : Int32) (z5 : Int32) (τ : sw_St), sw_J X ad t 8 [(0, .ref (ad 37)), (1, .int z1), (2, .int z2), (3, .int z3), (4, .int z4), (5, .int z5)] [] τ (K8 z1 z2 z3 z4 z5 τ)) {K100 : Int32 → Int32 → Int32 → Int32 → Int32 → Int32 → Int32 → Int32 → sw_St → Option (Int32 × sw_St)} (hK100 : ∀ (z1 : Int32) (z2 : Int32) (z3 : Int32) (z4 : Int32) (z5 : Int32) (z6 : Int32) (z7 : Int32) (z8 : Int32) (τ : sw_St), sw_J X ad t 100 [(0, .ref (ad 37)), (1, .int z1), (2, .int z2), (3, .int z3), (4, .int z4), (5, .int z5), (6, .int z6), (7, .int z7), (8, .int z8)] [] τ (K100 z1 z2 z3 z4 z5 z6 z7 z8 τ)) (v1 : Int32) (v2 : Int32) (v3 : Int32) (v4 : Int32) (v5 : Int32) (v6 : Int32) (v7 : Int32) (v8 : Int32) (σ : sw_St) : sw_J X ad t 126 [(0, .ref (ad 37)), (1, .int v1), (2, .int v2), (3, .int v3), (4, .int v4), (5, .int v5), (6, .int v6), (7, .int v7), (8, .int v8)] [] σ (fX10_costOfOrder_B126 K8 K100 v1 v2 v3 v4 v5 v6 v7 v8 σ) := by
  unfold fX10_costOfOrder_B126
  refine sw_iload (pc := 126) 7 C dX10_costOfOrder_126 rfl ?_
  refine sw_aloadn (pc := 128) 0 0 C dX10_costOfOrder_128 rfl ?_
  refine sw_getR (pc := 129) C kfX10_70 sh37 ff10_39 dX10_costOfOrder_129 ?_
  refine sw_iload (pc := 132) 8 C dX10_costOfOrder_132 rfl ?_
  refine sw_iald (pc := 134) C sh58 dX10_costOfOrder_134 ?_
  refine sw_isub (pc := 135) C dX10_costOfOrder_135 ?_
  refine sw_leti (fun x9 => ?_)
  refine sw_istore (pc := 136) [(7, .int x9), (0, .ref (ad 37)), (1, .int v1), (2, .int v2), (3, .int v3), (4, .int v4), (5, .int v5), (6, .int v6), (8, .int v8)] C dX10_costOfOrder_136 (by rw [hn]; decide) rfl ?_
  refine sw_iinc (pc := 138) (v8 + 1) 8 [(8, .int (v8 + 1)), (7, .int x9), (0, .ref (ad 37)), (1, .int v1), (2, .int v2), (3, .int v3), (4, .int v4), (5, .int v5), (6, .int v6)] C dX10_costOfOrder_138 (by rw [hn]; decide) rfl rfl rfl ?_
  refine sw_goto (pc := 141) 100 C dX10_costOfOrder_141 (by decide) ?_
  refine sw_lpick (pc := 100) (L' := [(0, .ref (ad 37)), (1, .int v1), (2, .int v2), (3, .int v3), (4, .int v4), (5, .int v5), (6, .int v6), (7, .int x9), (8, .int (v8 + 1))]) [2, 3, 4, 5, 6, 7, 8, 1, 0] rfl ?_
  exact hK100 _ _ _ _ _ _ _ _ _
set_option maxRecDepth 100000 in
set_option maxHeartbeats 4000000 in
theorem jX10_costOfOrder_L100 {X : sw_X} {ad : Nat → Nat} {t : Int32 × sw_St} (C : sw_C X ad cX10_costOfOrder RX10 2) (hn : sw_nL X = 9) (M : sw_Mi X ad (some .int) t)   {K8 : Int32 → Int32 → Int32 → Int32 → Int32 → sw_St → Option (Int32 × sw_St)} (hK8 : ∀ (z1 : Int32) (z2 : Int32) (z3 : Int32) (z4 : Int32) (z5 : Int32) (τ : sw_St), sw_J X ad t 8 [(0, .ref (ad 37)), (1, .int z1), (2, .int z2), (3, .int z3), (4, .int z4), (5, .int z5)] [] τ (K8 z1 z2 z3 z4 z5 τ)) : ∀ (n : Nat) (v1 : Int32) (v2 : Int32) (v3 : Int32) (v4 : Int32) (v5 : Int32) (v6 : Int32) (v7 : Int32) (v8 : Int32) (σ : sw_St), sw_J X ad t 100 [(0, .ref (ad 37)), (1, .int v1), (2, .int v2), (3, .int v3), (4, .int v4), (5, .int v5), (6, .int v6), (7, .int v7), (8, .int v8)] [] σ (fX10_costOfOrder_L100 K8 n v1 v2 v3 v4 v5 v6 v7 v8 σ) := by
  intro n
  induction n with
  | zero => exact fun _ _ _ _ _ _ _ _ _ => sw_none
  | succ n ih =>
    intro v1 v2 v3 v4 v5 v6 v7 v8 σ
    unfold fX10_costOfOrder_L100
    refine sw_iload (pc := 100) 8 C dX10_costOfOrder_100 rfl ?_
    refine sw_iloadn (pc := 102) 2 2 C dX10_costOfOrder_102 rfl ?_
    refine sw_icmp_ge (pc := 103) 144 C dX10_costOfOrder_103 (by decide) ?_ ?_
    · refine sw_lpick (pc := 144) (L' := [(0, .ref (ad 37)), (1, .int v1), (2, .int v2), (3, .int v3), (4, .int v4), (5, .int v5), (6, .int v6), (7, .int v7)]) [0, 1, 2, 3, 4, 5, 6, 7] rfl ?_
      exact jX10_costOfOrder_B144 C hn M hK8 _ _ _ _ _ _ _ _
    · refine sw_iload (pc := 106) 8 C dX10_costOfOrder_106 rfl ?_
      refine sw_iload (pc := 108) 6 C dX10_costOfOrder_108 rfl ?_
      refine sw_iconst (pc := 110) (v := 1) C dX10_costOfOrder_110 (by decide) ?_
      refine sw_iadd (pc := 111) C dX10_costOfOrder_111 ?_
      refine sw_icmp_eq (pc := 112) 126 C dX10_costOfOrder_112 (by decide) ?_ ?_
      · exact jX10_costOfOrder_B126 C hn M hK8 ih _ _ _ _ _ _ _ _ _
      · refine sw_iloadn (pc := 115) 3 3 C dX10_costOfOrder_115 rfl ?_
        refine sw_iload (pc := 116) 8 C dX10_costOfOrder_116 rfl ?_
        refine sw_iconst (pc := 118) (v := 1) C dX10_costOfOrder_118 (by decide) ?_
        refine sw_isub (pc := 119) C dX10_costOfOrder_119 ?_
        refine sw_ishr (pc := 120) C dX10_costOfOrder_120 ?_
        refine sw_iconst (pc := 121) (v := 1) C dX10_costOfOrder_121 (by decide) ?_
        refine sw_iand (pc := 122) C dX10_costOfOrder_122 ?_
        refine sw_if_ne (pc := 123) 144 C dX10_costOfOrder_123 (by decide) ?_ ?_
        · refine sw_lpick (pc := 144) (L' := [(0, .ref (ad 37)), (1, .int v1), (2, .int v2), (3, .int v3), (4, .int v4), (5, .int v5), (6, .int v6), (7, .int v7)]) [0, 1, 2, 3, 4, 5, 6, 7] rfl ?_
          exact jX10_costOfOrder_B144 C hn M hK8 _ _ _ _ _ _ _ _
        · exact jX10_costOfOrder_B126 C hn M hK8 ih _ _ _ _ _ _ _ _ _
set_option maxRecDepth 100000 in
set_option maxHeartbeats 4000000 in
theorem jX10_costOfOrder_B94 {X : sw_X} {ad : Nat → Nat} {t : Int32 × sw_St} (C : sw_C X ad cX10_costOfOrder RX10 2) (hn : sw_nL X = 9) (M : sw_Mi X ad (some .int) t)   {K8 : Int32 → Int32 → Int32 → Int32 → Int32 → sw_St → Option (Int32 × sw_St)} (hK8 : ∀ (z1 : Int32) (z2 : Int32) (z3 : Int32) (z4 : Int32) (z5 : Int32) (τ : sw_St), sw_J X ad t 8 [(0, .ref (ad 37)), (1, .int z1), (2, .int z2), (3, .int z3), (4, .int z4), (5, .int z5)] [] τ (K8 z1 z2 z3 z4 z5 τ)) (v1 : Int32) (v2 : Int32) (v3 : Int32) (v4 : Int32) (v5 : Int32) (v6 : Int32) (v7 : Int32) (σ : sw_St) : sw_J X ad t 94 [(0, .ref (ad 37)), (1, .int v1), (2, .int v2), (3, .int v3), (4, .int v4), (5, .int v5), (6, .int v6), (7, .int v7)] [] σ (fX10_costOfOrder_B94 K8 v1 v2 v3 v4 v5 v6 v7 σ) := by
  unfold fX10_costOfOrder_B94
  refine sw_iload (pc := 94) 6 C dX10_costOfOrder_94 rfl ?_
  refine sw_iconst (pc := 96) (v := 1) C dX10_costOfOrder_96 (by decide) ?_
  refine sw_iadd (pc := 97) C dX10_costOfOrder_97 ?_
  refine sw_leti (fun x3 => ?_)
  refine sw_istore (pc := 98) [(8, .int x3), (0, .ref (ad 37)), (1, .int v1), (2, .int v2), (3, .int v3), (4, .int v4), (5, .int v5), (6, .int v6), (7, .int v7)] C dX10_costOfOrder_98 (by rw [hn]; decide) rfl ?_
  refine sw_lpick (pc := 100) (L' := [(0, .ref (ad 37)), (1, .int v1), (2, .int v2), (3, .int v3), (4, .int v4), (5, .int v5), (6, .int v6), (7, .int v7), (8, .int x3)]) [1, 2, 3, 4, 5, 6, 7, 8, 0] rfl ?_
  exact jX10_costOfOrder_L100 C hn M hK8 _ _ _ _ _ _ _ _ _ _
set_option maxRecDepth 100000 in
set_option maxHeartbeats 4000000 in
theorem jX10_costOfOrder_B76 {X : sw_X} {ad : Nat → Nat} {t : Int32 × sw_St} (C : sw_C X ad cX10_costOfOrder RX10 2) (hn : sw_nL X = 9) (M : sw_Mi X ad (some .int) t)   {K8 : Int32 → Int32 → Int32 → Int32 → Int32 → sw_St → Option (Int32 × sw_St)} (hK8 : ∀ (z1 : Int32) (z2 : Int32) (z3 : Int32) (z4 : Int32) (z5 : Int32) (τ : sw_St), sw_J X ad t 8 [(0, .ref (ad 37)), (1, .int z1), (2, .int z2), (3, .int z3), (4, .int z4), (5, .int z5)] [] τ (K8 z1 z2 z3 z4 z5 τ)) {K55 : Int32 → Int32 → Int32 → Int32 → Int32 → Int32 → Int32 → Int32 → sw_St → Option (Int32 × sw_St)} (hK55 : ∀ (z1 : Int32) (z2 : Int32) (z3 : Int32) (z4 : Int32) (z5 : Int32) (z6 : Int32) (z7 : Int32) (z8 : Int32) (τ : sw_St), sw_J X ad t 55 [(0, .ref (ad 37)), (1, .int z1), (2, .int z2), (3, .int z3), (4, .int z4), (5, .int z5), (6, .int z6), (7, .int z7), (8, .int z8)] [] τ (K55 z1 z2 z3 z4 z5 z6 z7 z8 τ)) (v1 : Int32) (v2 : Int32) (v3 : Int32) (v4 : Int32) (v5 : Int32) (v6 : Int32) (v7 : Int32) (v8 : Int32) (σ : sw_St) : sw_J X ad t 76 [(0, .ref (ad 37)), (1, .int v1), (2, .int v2), (3, .int v3), (4, .int v4), (5, .int v5), (6, .int v6), (7, .int v7), (8, .int v8)] [] σ (fX10_costOfOrder_B76 K8 K55 v1 v2 v3 v4 v5 v6 v7 v8 σ) := by
  unfold fX10_costOfOrder_B76
  refine sw_iload (pc := 76) 7 C dX10_costOfOrder_76 rfl ?_
  refine sw_aloadn (pc := 78) 0 0 C dX10_costOfOrder_78 rfl ?_
  refine sw_getR (pc := 79) C kfX10_70 sh37 ff10_39 dX10_costOfOrder_79 ?_
  refine sw_iload (pc := 82) 8 C dX10_costOfOrder_82 rfl ?_
  refine sw_iald (pc := 84) C sh58 dX10_costOfOrder_84 ?_
  refine sw_iadd (pc := 85) C dX10_costOfOrder_85 ?_
  refine sw_leti (fun x4 => ?_)
  refine sw_istore (pc := 86) [(7, .int x4), (0, .ref (ad 37)), (1, .int v1), (2, .int v2), (3, .int v3), (4, .int v4), (5, .int v5), (6, .int v6), (8, .int v8)] C dX10_costOfOrder_86 (by rw [hn]; decide) rfl ?_
  refine sw_iinc (pc := 88) (v8 + (-1)) 8 [(8, .int (v8 + (-1))), (7, .int x4), (0, .ref (ad 37)), (1, .int v1), (2, .int v2), (3, .int v3), (4, .int v4), (5, .int v5), (6, .int v6)] C dX10_costOfOrder_88 (by rw [hn]; decide) rfl rfl rfl ?_
  refine sw_goto (pc := 91) 55 C dX10_costOfOrder_91 (by decide) ?_
  refine sw_lpick (pc := 55) (L' := [(0, .ref (ad 37)), (1, .int v1), (2, .int v2), (3, .int v3), (4, .int v4), (5, .int v5), (6, .int v6), (7, .int x4), (8, .int (v8 + (-1)))]) [2, 3, 4, 5, 6, 7, 8, 1, 0] rfl ?_
  exact hK55 _ _ _ _ _ _ _ _ _
set_option maxRecDepth 100000 in
set_option maxHeartbeats 4000000 in
theorem jX10_costOfOrder_L55 {X : sw_X} {ad : Nat → Nat} {t : Int32 × sw_St} (C : sw_C X ad cX10_costOfOrder RX10 2) (hn : sw_nL X = 9) (M : sw_Mi X ad (some .int) t)   {K8 : Int32 → Int32 → Int32 → Int32 → Int32 → sw_St → Option (Int32 × sw_St)} (hK8 : ∀ (z1 : Int32) (z2 : Int32) (z3 : Int32) (z4 : Int32) (z5 : Int32) (τ : sw_St), sw_J X ad t 8 [(0, .ref (ad 37)), (1, .int z1), (2, .int z2), (3, .int z3), (4, .int z4), (5, .int z5)] [] τ (K8 z1 z2 z3 z4 z5 τ)) : ∀ (n : Nat) (v1 : Int32) (v2 : Int32) (v3 : Int32) (v4 : Int32) (v5 : Int32) (v6 : Int32) (v7 : Int32) (v8 : Int32) (σ : sw_St), sw_J X ad t 55 [(0, .ref (ad 37)), (1, .int v1), (2, .int v2), (3, .int v3), (4, .int v4), (5, .int v5), (6, .int v6), (7, .int v7), (8, .int v8)] [] σ (fX10_costOfOrder_L55 K8 n v1 v2 v3 v4 v5 v6 v7 v8 σ) := by
  intro n
  induction n with
  | zero => exact fun _ _ _ _ _ _ _ _ _ => sw_none
  | succ n ih =>
    intro v1 v2 v3 v4 v5 v6 v7 v8 σ
    unfold fX10_costOfOrder_L55
    refine sw_iload (pc := 55) 8 C dX10_costOfOrder_55 rfl ?_
    refine sw_if_lt (pc := 57) 94 C dX10_costOfOrder_57 (by decide) ?_ ?_
    · refine sw_lpick (pc := 94) (L' := [(0, .ref (ad 37)), (1, .int v1), (2, .int v2), (3, .int v3), (4, .int v4), (5, .int v5), (6, .int v6), (7, .int v7)]) [0, 1, 2, 3, 4, 5, 6, 7] rfl ?_
      exact jX10_costOfOrder_B94 C hn M hK8 _ _ _ _ _ _ _ _
    · refine sw_iload (pc := 60) 8 C dX10_costOfOrder_60 rfl ?_
      refine sw_iload (pc := 62) 6 C dX10_costOfOrder_62 rfl ?_
      refine sw_icmp_eq (pc := 64) 76 C dX10_costOfOrder_64 (by decide) ?_ ?_
      · exact jX10_costOfOrder_B76 C hn M hK8 ih _ _ _ _ _ _ _ _ _
      · refine sw_iloadn (pc := 67) 3 3 C dX10_costOfOrder_67 rfl ?_
        refine sw_iload (pc := 68) 8 C dX10_costOfOrder_68 rfl ?_
        refine sw_ishr (pc := 70) C dX10_costOfOrder_70 ?_
        refine sw_iconst (pc := 71) (v := 1) C dX10_costOfOrder_71 (by decide) ?_
        refine sw_iand (pc := 72) C dX10_costOfOrder_72 ?_
        refine sw_if_ne (pc := 73) 94 C dX10_costOfOrder_73 (by decide) ?_ ?_
        · refine sw_lpick (pc := 94) (L' := [(0, .ref (ad 37)), (1, .int v1), (2, .int v2), (3, .int v3), (4, .int v4), (5, .int v5), (6, .int v6), (7, .int v7)]) [0, 1, 2, 3, 4, 5, 6, 7] rfl ?_
          exact jX10_costOfOrder_B94 C hn M hK8 _ _ _ _ _ _ _ _
        · exact jX10_costOfOrder_B76 C hn M hK8 ih _ _ _ _ _ _ _ _ _
set_option maxRecDepth 100000 in
set_option maxHeartbeats 4000000 in
theorem jX10_costOfOrder_L8 {X : sw_X} {ad : Nat → Nat} {t : Int32 × sw_St} (C : sw_C X ad cX10_costOfOrder RX10 2) (hn : sw_nL X = 9) (M : sw_Mi X ad (some .int) t)   : ∀ (n : Nat) (v1 : Int32) (v2 : Int32) (v3 : Int32) (v4 : Int32) (v5 : Int32) (σ : sw_St), sw_J X ad t 8 [(0, .ref (ad 37)), (1, .int v1), (2, .int v2), (3, .int v3), (4, .int v4), (5, .int v5)] [] σ (fX10_costOfOrder_L8  n v1 v2 v3 v4 v5 σ) := by
  intro n
  induction n with
  | zero => exact fun _ _ _ _ _ _ => sw_none
  | succ n ih =>
    intro v1 v2 v3 v4 v5 σ
    unfold fX10_costOfOrder_L8
    refine sw_iload (pc := 8) 5 C dX10_costOfOrder_8 rfl ?_
    refine sw_iloadn (pc := 10) 2 2 C dX10_costOfOrder_10 rfl ?_
    refine sw_iconst (pc := 11) (v := 1) C dX10_costOfOrder_11 (by decide) ?_
    refine sw_isub (pc := 12) C dX10_costOfOrder_12 ?_
    refine sw_icmp_ge (pc := 13) 167 C dX10_costOfOrder_13 (by decide) ?_ ?_
    · refine sw_iload (pc := 167) 4 C dX10_costOfOrder_167 rfl ?_
      exact sw_reti (pc := 169) C M dX10_costOfOrder_169
    · refine sw_iloadn (pc := 16) 1 1 C dX10_costOfOrder_16 rfl ?_
      refine sw_iloadn (pc := 17) 2 2 C dX10_costOfOrder_17 rfl ?_
      refine sw_iconst (pc := 18) (v := 1) C dX10_costOfOrder_18 (by decide) ?_
      refine sw_isub (pc := 19) C dX10_costOfOrder_19 ?_
      refine sw_iload (pc := 20) 5 C dX10_costOfOrder_20 rfl ?_
      refine sw_callSi (pc := 22) C (mX10_cutIn v1 (v2 - 1) v5) sgX10_cutIn mlX10_287 dX10_costOfOrder_22 (by decide) [.int v1, .int (v2 - 1), .int v5] [] rfl rfl rfl (Nat.le_of_ble_eq_true rfl) (fun r1 σ2 => ?_)
      refine sw_istore (pc := 25) [(6, .int r1), (0, .ref (ad 37)), (1, .int v1), (2, .int v2), (3, .int v3), (4, .int v4), (5, .int v5)] C dX10_costOfOrder_25 (by rw [hn]; decide) rfl ?_
      refine sw_iload (pc := 27) 0 C dX10_costOfOrder_27 rfl ?_
      refine sw_iloadn (pc := 29) 2 3 C dX10_costOfOrder_29 rfl ?_
      refine sw_iconst (pc := 30) (v := 2) C dX10_costOfOrder_30 (by decide) ?_
      refine sw_isub (pc := 31) C dX10_costOfOrder_31 ?_
      refine sw_icmp_gt (pc := 32) 45 C dX10_costOfOrder_32 (by decide) ?_ ?_
      · refine sw_bipush (pc := 45) (v := (-9)) C dX10_costOfOrder_45 (by decide) ?_
        exact sw_reti (pc := 47) C M dX10_costOfOrder_47
      · refine sw_iloadn (pc := 35) 3 4 C dX10_costOfOrder_35 rfl ?_
        refine sw_iload (pc := 36) 0 C dX10_costOfOrder_36 rfl ?_
        refine sw_ishr (pc := 38) C dX10_costOfOrder_38 ?_
        refine sw_iconst (pc := 39) (v := 1) C dX10_costOfOrder_39 (by decide) ?_
        refine sw_iand (pc := 40) C dX10_costOfOrder_40 ?_
        refine sw_iconst (pc := 41) (v := 1) C dX10_costOfOrder_41 (by decide) ?_
        refine sw_icmp_ne (pc := 42) 48 C dX10_costOfOrder_42 (by decide) ?_ ?_
        · refine sw_iconst (pc := 48) (v := 0) C dX10_costOfOrder_48 (by decide) ?_
          refine sw_istore (pc := 49) [(7, .int 0), (6, .int r1), (0, .ref (ad 37)), (1, .int v1), (2, .int v2), (3, .int v3), (4, .int v4), (5, .int v5)] C dX10_costOfOrder_49 (by rw [hn]; decide) rfl ?_
          refine sw_iload (pc := 51) 1 C dX10_costOfOrder_51 rfl ?_
          refine sw_istore (pc := 53) [(8, .int r1), (7, .int 0), (6, .int r1), (0, .ref (ad 37)), (1, .int v1), (2, .int v2), (3, .int v3), (4, .int v4), (5, .int v5)] C dX10_costOfOrder_53 (by rw [hn]; decide) rfl ?_
          refine sw_lpick (pc := 55) (L' := [(0, .ref (ad 37)), (1, .int v1), (2, .int v2), (3, .int v3), (4, .int v4), (5, .int v5), (6, .int r1), (7, .int 0), (8, .int r1)]) [3, 4, 5, 6, 7, 8, 2, 1, 0] rfl ?_
          exact jX10_costOfOrder_L55 C hn M ih _ _ _ _ _ _ _ _ _ _
        · refine sw_bipush (pc := 45) (v := (-9)) C dX10_costOfOrder_45 (by decide) ?_
          exact sw_reti (pc := 47) C M dX10_costOfOrder_47
set_option maxRecDepth 100000 in
set_option maxHeartbeats 4000000 in
theorem mX10_costOfOrder   (a0 : Int32) (a1 : Int32) : sw_Ki yX10_costOfOrder cX10_costOfOrder 9 (some .int) 2 (fun ad => [.ref (ad 37), .int a0, .int a1]) (fX10_costOfOrder a0 a1) := by
  refine sw_enteri (by decide) (fun ad => Nat.le_of_ble_eq_true rfl) (fun X ad t σ C hn M => ?_)
  change sw_J X ad t 0 [(0, .ref (ad 37)), (1, .int a0), (2, .int a1)] [] σ _
  replace C : sw_C X ad cX10_costOfOrder RX10 2 := C
  unfold fX10_costOfOrder
  refine sw_iconst (pc := 0) (v := 0) C dX10_costOfOrder_0 (by decide) ?_
  refine sw_istoren (pc := 1) 3 [(3, .int 0), (0, .ref (ad 37)), (1, .int a0), (2, .int a1)] C dX10_costOfOrder_1 (by rw [hn]; decide) rfl ?_
  refine sw_iconst (pc := 2) (v := 0) C dX10_costOfOrder_2 (by decide) ?_
  refine sw_istore (pc := 3) [(4, .int 0), (3, .int 0), (0, .ref (ad 37)), (1, .int a0), (2, .int a1)] C dX10_costOfOrder_3 (by rw [hn]; decide) rfl ?_
  refine sw_iconst (pc := 5) (v := 0) C dX10_costOfOrder_5 (by decide) ?_
  refine sw_istore (pc := 6) [(5, .int 0), (4, .int 0), (3, .int 0), (0, .ref (ad 37)), (1, .int a0), (2, .int a1)] C dX10_costOfOrder_6 (by rw [hn]; decide) rfl ?_
  refine sw_lpick (pc := 8) (L' := [(0, .ref (ad 37)), (1, .int a0), (2, .int a1), (3, .int 0), (4, .int 0), (5, .int 0)]) [3, 4, 5, 2, 1, 0] rfl ?_
  exact jX10_costOfOrder_L8 C hn M  _ _ _ _ _ _ _
