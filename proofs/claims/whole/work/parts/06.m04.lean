set_option maxRecDepth 100000 in
set_option maxHeartbeats 4000000 in
theorem mX10_set   (a0 : Int32) (a1 : Int32) (a2 : Int32) : sw_Ki yX10_set cX10_set 4 (some .int) 3 (fun ad => [.ref (ad 37), .int a0, .int a1, .int a2]) (fX10_set a0 a1 a2) := by
  refine sw_enteri (by decide) (fun ad => Nat.le_of_ble_eq_true rfl) (fun X ad t σ C hn M => ?_)
  change sw_J X ad t 0 [(0, .ref (ad 37)), (1, .int a0), (2, .int a1), (3, .int a2)] [] σ _
  replace C : sw_C X ad cX10_set RX10 3 := C
  unfold fX10_set
  refine sw_aloadn (pc := 0) 0 0 C dX10_set_0 rfl ?_
  refine sw_iloadn (pc := 1) 1 1 C dX10_set_1 rfl ?_
  refine sw_callVi (pc := 2) C (mX10_noTooth a0) sgX10_noTooth mlX10_151 dX10_set_2 (by decide) [.int a0] [] sh37 rfl rfl rfl rfl (Nat.le_of_ble_eq_true rfl) (fun r1 σ2 => ?_)
  refine sw_if_eq (pc := 5) 10 C dX10_set_5 (by decide) ?_ ?_
  · refine sw_iloadn (pc := 10) 2 2 C dX10_set_10 rfl ?_
    refine sw_i2l (pc := 11) C dX10_set_11 ?_
    refine sw_lconst (pc := 12) (v := 0) C dX10_set_12 (by decide) ?_
    refine sw_ldc2 (pc := 13) C dX10_set_13 klX10_103 ?_
    refine sw_callSi (pc := 16) C (mX10_in (Int32.toInt64 a1) (0 : Int64) (2 : Int64)) sgX10_in mlX10_105 dX10_set_16 (by decide) [.long (Int32.toInt64 a1), .long (0 : Int64), .long (2 : Int64)] [] rfl rfl rfl (Nat.le_of_ble_eq_true rfl) (fun r3 σ4 => ?_)
    refine sw_if_eq (pc := 19) 44 C dX10_set_19 (by decide) ?_ ?_
    · refine sw_bipush (pc := 44) (v := (-2)) C dX10_set_44 (by decide) ?_
      exact sw_reti (pc := 46) C M dX10_set_46
    · refine sw_iloadn (pc := 22) 3 3 C dX10_set_22 rfl ?_
      refine sw_i2l (pc := 23) C dX10_set_23 ?_
      refine sw_lconst (pc := 24) (v := 0) C dX10_set_24 (by decide) ?_
      refine sw_ldc2 (pc := 25) C dX10_set_25 klX10_122 ?_
      refine sw_callSi (pc := 28) C (mX10_in (Int32.toInt64 a2) (0 : Int64) (9 : Int64)) sgX10_in mlX10_105 dX10_set_28 (by decide) [.long (Int32.toInt64 a2), .long (0 : Int64), .long (9 : Int64)] [] rfl rfl rfl (Nat.le_of_ble_eq_true rfl) (fun r5 σ6 => ?_)
      refine sw_if_eq (pc := 31) 44 C dX10_set_31 (by decide) ?_ ?_
      · refine sw_bipush (pc := 44) (v := (-2)) C dX10_set_44 (by decide) ?_
        exact sw_reti (pc := 46) C M dX10_set_46
      · refine sw_aloadn (pc := 34) 0 0 C dX10_set_34 rfl ?_
        refine sw_iloadn (pc := 35) 1 1 C dX10_set_35 rfl ?_
        refine sw_iloadn (pc := 36) 2 2 C dX10_set_36 rfl ?_
        refine sw_iloadn (pc := 37) 3 3 C dX10_set_37 rfl ?_
        refine sw_callVi (pc := 38) C (mX10_change a0 a1 a2) sgX10_change mlX10_157 dX10_set_38 (by decide) [.int a0, .int a1, .int a2] [] sh37 rfl rfl rfl rfl (Nat.le_of_ble_eq_true rfl) (fun r7 σ8 => ?_)
        refine sw_goto (pc := 41) 46 C dX10_set_41 (by decide) ?_
        exact sw_reti (pc := 46) C M dX10_set_46
  · refine sw_iconst (pc := 8) (v := (-1)) C dX10_set_8 (by decide) ?_
    exact sw_reti (pc := 9) C M dX10_set_9
set_option maxRecDepth 100000 in
set_option maxHeartbeats 4000000 in
theorem jX10_pushNow_L4 {X : sw_X} {ad : Nat → Nat} {t : Int32 × sw_St} (C : sw_C X ad cX10_pushNow RX10 3) (hn : sw_nL X = 3) (M : sw_Mi X ad (some .int) t)   : ∀ (n : Nat) (v1 : Int32) (v2 : Int32) (σ : sw_St), sw_J X ad t 4 [(0, .ref (ad 37)), (1, .int v1), (2, .int v2)] [] σ (fX10_pushNow_L4  n v1 v2 σ) := by
  intro n
  induction n with
  | zero => exact fun _ _ _ => sw_none
  | succ n ih =>
    intro v1 v2 σ
    unfold fX10_pushNow_L4
    refine sw_iloadn (pc := 4) 2 2 C dX10_pushNow_4 rfl ?_
    refine sw_aloadn (pc := 5) 0 0 C dX10_pushNow_5 rfl ?_
    refine sw_getI (pc := 6) C kfX10_116 sh37 ff10_1 dX10_pushNow_6 ?_
    refine sw_icmp_ge (pc := 9) 26 C dX10_pushNow_9 (by decide) ?_ ?_
    · refine sw_iloadn (pc := 26) 1 1 C dX10_pushNow_26 rfl ?_
      exact sw_reti (pc := 27) C M dX10_pushNow_27
    · refine sw_iloadn (pc := 12) 1 1 C dX10_pushNow_12 rfl ?_
      refine sw_aloadn (pc := 13) 0 0 C dX10_pushNow_13 rfl ?_
      refine sw_iloadn (pc := 14) 2 2 C dX10_pushNow_14 rfl ?_
      refine sw_callVi (pc := 15) C (mX10_pushOf v2) sgX10_pushOf mlX10_154 dX10_pushNow_15 (by decide) [.int v2] [.int v1] sh37 rfl rfl rfl rfl (Nat.le_of_ble_eq_true rfl) (fun r1 σ2 => ?_)
      refine sw_iadd (pc := 18) C dX10_pushNow_18 ?_
      refine sw_leti (fun x3 => ?_)
      refine sw_istoren (pc := 19) 1 [(1, .int x3), (0, .ref (ad 37)), (2, .int v2)] C dX10_pushNow_19 (by rw [hn]; decide) rfl ?_
      refine sw_iinc (pc := 20) (v2 + 1) 2 [(2, .int (v2 + 1)), (1, .int x3), (0, .ref (ad 37))] C dX10_pushNow_20 (by rw [hn]; decide) rfl rfl rfl ?_
      refine sw_goto (pc := 23) 4 C dX10_pushNow_23 (by decide) ?_
      refine sw_lpick (pc := 4) (L' := [(0, .ref (ad 37)), (1, .int x3), (2, .int (v2 + 1))]) [2, 1, 0] rfl ?_
      exact ih _ _ _
set_option maxRecDepth 100000 in
set_option maxHeartbeats 4000000 in
theorem mX10_pushNow    : sw_Ki yX10_pushNow cX10_pushNow 3 (some .int) 3 (fun ad => [.ref (ad 37)]) fX10_pushNow := by
  refine sw_enteri (by decide) (fun ad => Nat.le_of_ble_eq_true rfl) (fun X ad t σ C hn M => ?_)
  change sw_J X ad t 0 [(0, .ref (ad 37))] [] σ _
  replace C : sw_C X ad cX10_pushNow RX10 3 := C
  unfold fX10_pushNow
  refine sw_iconst (pc := 0) (v := 0) C dX10_pushNow_0 (by decide) ?_
  refine sw_istoren (pc := 1) 1 [(1, .int 0), (0, .ref (ad 37))] C dX10_pushNow_1 (by rw [hn]; decide) rfl ?_
  refine sw_iconst (pc := 2) (v := 0) C dX10_pushNow_2 (by decide) ?_
  refine sw_istoren (pc := 3) 2 [(2, .int 0), (1, .int 0), (0, .ref (ad 37))] C dX10_pushNow_3 (by rw [hn]; decide) rfl ?_
  refine sw_lpick (pc := 4) (L' := [(0, .ref (ad 37)), (1, .int 0), (2, .int 0)]) [2, 1, 0] rfl ?_
  exact jX10_pushNow_L4 C hn M  _ _ _ _
set_option maxRecDepth 100000 in
set_option maxHeartbeats 4000000 in
theorem jX10_kerfNow_B86 {X : sw_X} {ad : Nat → Nat} {t : Int32 × sw_St} (C : sw_C X ad cX10_kerfNow RX10 2) (hn : sw_nL X = 5) (M : sw_Mi X ad (some .int) t)   {K6 : Int32 → Int32 → Int32 → sw_St → Option (Int32 × sw_St)} (hK6 : ∀ (z1 : Int32) (z2 : Int32) (z3 : Int32) (τ : sw_St), sw_J X ad t 6 [(0, .ref (ad 37)), (1, .int z1), (2, .int z2), (3, .int z3)] [] τ (K6 z1 z2 z3 τ)) (v1 : Int32) (v3 : Int32) (s0 : Int32) (σ : sw_St) : sw_J X ad t 86 [(0, .ref (ad 37)), (1, .int v1), (3, .int v3)] [.int s0] σ (fX10_kerfNow_B86 K6 v1 v3 s0 σ) := by
  unfold fX10_kerfNow_B86
  refine sw_istoren (pc := 86) 2 [(2, .int s0), (0, .ref (ad 37)), (1, .int v1), (3, .int v3)] C dX10_kerfNow_86 (by rw [hn]; decide) rfl ?_
  refine sw_iinc (pc := 87) (v3 + 1) 3 [(3, .int (v3 + 1)), (2, .int s0), (0, .ref (ad 37)), (1, .int v1)] C dX10_kerfNow_87 (by rw [hn]; decide) rfl rfl rfl ?_
  refine sw_goto (pc := 90) 6 C dX10_kerfNow_90 (by decide) ?_
  refine sw_lpick (pc := 6) (L' := [(0, .ref (ad 37)), (1, .int v1), (2, .int s0), (3, .int (v3 + 1))]) [2, 3, 1, 0] rfl ?_
  exact hK6 _ _ _ _
set_option maxRecDepth 100000 in
set_option maxHeartbeats 4000000 in
theorem jX10_kerfNow_B85 {X : sw_X} {ad : Nat → Nat} {t : Int32 × sw_St} (C : sw_C X ad cX10_kerfNow RX10 2) (hn : sw_nL X = 5) (M : sw_Mi X ad (some .int) t)   {K6 : Int32 → Int32 → Int32 → sw_St → Option (Int32 × sw_St)} (hK6 : ∀ (z1 : Int32) (z2 : Int32) (z3 : Int32) (τ : sw_St), sw_J X ad t 6 [(0, .ref (ad 37)), (1, .int z1), (2, .int z2), (3, .int z3)] [] τ (K6 z1 z2 z3 τ)) (v1 : Int32) (v2 : Int32) (v3 : Int32) (σ : sw_St) : sw_J X ad t 85 [(0, .ref (ad 37)), (1, .int v1), (2, .int v2), (3, .int v3)] [] σ (fX10_kerfNow_B85 K6 v1 v2 v3 σ) := by
  unfold fX10_kerfNow_B85
  refine sw_iloadn (pc := 85) 2 2 C dX10_kerfNow_85 rfl ?_
  refine sw_lpick (pc := 86) (L' := [(0, .ref (ad 37)), (1, .int v1), (3, .int v3)]) [0, 1, 3] rfl ?_
  exact jX10_kerfNow_B86 C hn M hK6 _ _ _ _
set_option maxRecDepth 100000 in
set_option maxHeartbeats 4000000 in
theorem jX10_kerfNow_B57 {X : sw_X} {ad : Nat → Nat} {t : Int32 × sw_St} (C : sw_C X ad cX10_kerfNow RX10 2) (hn : sw_nL X = 5) (M : sw_Mi X ad (some .int) t)   {K6 : Int32 → Int32 → Int32 → sw_St → Option (Int32 × sw_St)} (hK6 : ∀ (z1 : Int32) (z2 : Int32) (z3 : Int32) (τ : sw_St), sw_J X ad t 6 [(0, .ref (ad 37)), (1, .int z1), (2, .int z2), (3, .int z3)] [] τ (K6 z1 z2 z3 τ)) (v2 : Int32) (v3 : Int32) (v4 : Int32) (s0 : Int32) (σ : sw_St) : sw_J X ad t 57 [(0, .ref (ad 37)), (2, .int v2), (3, .int v3), (4, .int v4)] [.int s0] σ (fX10_kerfNow_B57 K6 v2 v3 v4 s0 σ) := by
  unfold fX10_kerfNow_B57
  refine sw_istoren (pc := 57) 1 [(1, .int s0), (0, .ref (ad 37)), (2, .int v2), (3, .int v3), (4, .int v4)] C dX10_kerfNow_57 (by rw [hn]; decide) rfl ?_
  refine sw_iload (pc := 58) 4 C dX10_kerfNow_58 rfl ?_
  refine sw_if_eq (pc := 60) 85 C dX10_kerfNow_60 (by decide) ?_ ?_
  · refine sw_lpick (pc := 85) (L' := [(0, .ref (ad 37)), (1, .int s0), (2, .int v2), (3, .int v3)]) [1, 0, 2, 3] rfl ?_
    exact jX10_kerfNow_B85 C hn M hK6 _ _ _ _
  · refine sw_aloadn (pc := 63) 0 1 C dX10_kerfNow_63 rfl ?_
    refine sw_getR (pc := 64) C kfX10_13 sh37 ff10_3 dX10_kerfNow_64 ?_
    refine sw_iloadn (pc := 67) 3 3 C dX10_kerfNow_67 rfl ?_
    refine sw_iald (pc := 68) C sh39 dX10_kerfNow_68 ?_
    refine sw_if_le (pc := 69) 85 C dX10_kerfNow_69 (by decide) ?_ ?_
    · refine sw_lpick (pc := 85) (L' := [(0, .ref (ad 37)), (1, .int s0), (2, .int v2), (3, .int v3)]) [1, 0, 2, 3] rfl ?_
      exact jX10_kerfNow_B85 C hn M hK6 _ _ _ _
    · refine sw_iloadn (pc := 72) 2 2 C dX10_kerfNow_72 rfl ?_
      refine sw_aloadn (pc := 73) 0 1 C dX10_kerfNow_73 rfl ?_
      refine sw_getR (pc := 74) C kfX10_16 sh37 ff10_4 dX10_kerfNow_74 ?_
      refine sw_iloadn (pc := 77) 3 3 C dX10_kerfNow_77 rfl ?_
      refine sw_iald (pc := 78) C sh40 dX10_kerfNow_78 ?_
      refine sw_callSi (pc := 79) C (mX10_greater v2 (σ 40 (Int32.toNatClampNeg v3))) sgX10_greater mlX10_161 dX10_kerfNow_79 (by decide) [.int v2, .int (σ 40 (Int32.toNatClampNeg v3))] [] rfl rfl rfl (Nat.le_of_ble_eq_true rfl) (fun r5 σ6 => ?_)
      refine sw_goto (pc := 82) 86 C dX10_kerfNow_82 (by decide) ?_
      refine sw_lpick (pc := 86) (L' := [(0, .ref (ad 37)), (1, .int s0), (3, .int v3)]) [1, 0, 3] rfl ?_
      exact jX10_kerfNow_B86 C hn M hK6 _ _ _ _
set_option maxRecDepth 100000 in
set_option maxHeartbeats 4000000 in
theorem jX10_kerfNow_B56 {X : sw_X} {ad : Nat → Nat} {t : Int32 × sw_St} (C : sw_C X ad cX10_kerfNow RX10 2) (hn : sw_nL X = 5) (M : sw_Mi X ad (some .int) t)   {K6 : Int32 → Int32 → Int32 → sw_St → Option (Int32 × sw_St)} (hK6 : ∀ (z1 : Int32) (z2 : Int32) (z3 : Int32) (τ : sw_St), sw_J X ad t 6 [(0, .ref (ad 37)), (1, .int z1), (2, .int z2), (3, .int z3)] [] τ (K6 z1 z2 z3 τ)) (v1 : Int32) (v2 : Int32) (v3 : Int32) (v4 : Int32) (σ : sw_St) : sw_J X ad t 56 [(0, .ref (ad 37)), (1, .int v1), (2, .int v2), (3, .int v3), (4, .int v4)] [] σ (fX10_kerfNow_B56 K6 v1 v2 v3 v4 σ) := by
  unfold fX10_kerfNow_B56
  refine sw_iloadn (pc := 56) 1 1 C dX10_kerfNow_56 rfl ?_
  refine sw_lpick (pc := 57) (L' := [(0, .ref (ad 37)), (2, .int v2), (3, .int v3), (4, .int v4)]) [0, 2, 3, 4] rfl ?_
  exact jX10_kerfNow_B57 C hn M hK6 _ _ _ _ _
set_option maxRecDepth 100000 in
set_option maxHeartbeats 4000000 in
theorem jX10_kerfNow_B27 {X : sw_X} {ad : Nat → Nat} {t : Int32 × sw_St} (C : sw_C X ad cX10_kerfNow RX10 2) (hn : sw_nL X = 5) (M : sw_Mi X ad (some .int) t)   {K6 : Int32 → Int32 → Int32 → sw_St → Option (Int32 × sw_St)} (hK6 : ∀ (z1 : Int32) (z2 : Int32) (z3 : Int32) (τ : sw_St), sw_J X ad t 6 [(0, .ref (ad 37)), (1, .int z1), (2, .int z2), (3, .int z3)] [] τ (K6 z1 z2 z3 τ)) (v1 : Int32) (v2 : Int32) (v3 : Int32) (s0 : Int32) (σ : sw_St) : sw_J X ad t 27 [(0, .ref (ad 37)), (1, .int v1), (2, .int v2), (3, .int v3)] [.int s0] σ (fX10_kerfNow_B27 K6 v1 v2 v3 s0 σ) := by
  unfold fX10_kerfNow_B27
  refine sw_istore (pc := 27) [(4, .int s0), (0, .ref (ad 37)), (1, .int v1), (2, .int v2), (3, .int v3)] C dX10_kerfNow_27 (by rw [hn]; decide) rfl ?_
  refine sw_iload (pc := 29) 0 C dX10_kerfNow_29 rfl ?_
  refine sw_if_eq (pc := 31) 56 C dX10_kerfNow_31 (by decide) ?_ ?_
  · refine sw_lpick (pc := 56) (L' := [(0, .ref (ad 37)), (1, .int v1), (2, .int v2), (3, .int v3), (4, .int s0)]) [1, 2, 3, 4, 0] rfl ?_
    exact jX10_kerfNow_B56 C hn M hK6 _ _ _ _ _
  · refine sw_aloadn (pc := 34) 0 1 C dX10_kerfNow_34 rfl ?_
    refine sw_getR (pc := 35) C kfX10_13 sh37 ff10_3 dX10_kerfNow_35 ?_
    refine sw_iloadn (pc := 38) 3 4 C dX10_kerfNow_38 rfl ?_
    refine sw_iald (pc := 39) C sh39 dX10_kerfNow_39 ?_
    refine sw_if_ge (pc := 40) 56 C dX10_kerfNow_40 (by decide) ?_ ?_
    · refine sw_lpick (pc := 56) (L' := [(0, .ref (ad 37)), (1, .int v1), (2, .int v2), (3, .int v3), (4, .int s0)]) [1, 2, 3, 4, 0] rfl ?_
      exact jX10_kerfNow_B56 C hn M hK6 _ _ _ _ _
    · refine sw_iloadn (pc := 43) 1 2 C dX10_kerfNow_43 rfl ?_
      refine sw_aloadn (pc := 44) 0 1 C dX10_kerfNow_44 rfl ?_
      refine sw_getR (pc := 45) C kfX10_16 sh37 ff10_4 dX10_kerfNow_45 ?_
      refine sw_iloadn (pc := 48) 3 4 C dX10_kerfNow_48 rfl ?_
      refine sw_iald (pc := 49) C sh40 dX10_kerfNow_49 ?_
      refine sw_callSi (pc := 50) C (mX10_greater v1 (σ 40 (Int32.toNatClampNeg v3))) sgX10_greater mlX10_161 dX10_kerfNow_50 (by decide) [.int v1, .int (σ 40 (Int32.toNatClampNeg v3))] [] rfl rfl rfl (Nat.le_of_ble_eq_true rfl) (fun r3 σ4 => ?_)
      refine sw_goto (pc := 53) 57 C dX10_kerfNow_53 (by decide) ?_
      refine sw_lpick (pc := 57) (L' := [(0, .ref (ad 37)), (2, .int v2), (3, .int v3), (4, .int s0)]) [1, 3, 4, 0] rfl ?_
      exact jX10_kerfNow_B57 C hn M hK6 _ _ _ _ _
set_option maxRecDepth 100000 in
set_option maxHeartbeats 4000000 in
theorem jX10_kerfNow_L6 {X : sw_X} {ad : Nat → Nat} {t : Int32 × sw_St} (C : sw_C X ad cX10_kerfNow RX10 2) (hn : sw_nL X = 5) (M : sw_Mi X ad (some .int) t)   : ∀ (n : Nat) (v1 : Int32) (v2 : Int32) (v3 : Int32) (σ : sw_St), sw_J X ad t 6 [(0, .ref (ad 37)), (1, .int v1), (2, .int v2), (3, .int v3)] [] σ (fX10_kerfNow_L6  n v1 v2 v3 σ) := by
  intro n
  induction n with
  | zero => exact fun _ _ _ _ => sw_none
  | succ n ih =>
    intro v1 v2 v3 σ
    unfold fX10_kerfNow_L6
    refine sw_iloadn (pc := 6) 3 3 C dX10_kerfNow_6 rfl ?_
    refine sw_aloadn (pc := 7) 0 0 C dX10_kerfNow_7 rfl ?_
    refine sw_getI (pc := 8) C kfX10_116 sh37 ff10_1 dX10_kerfNow_8 ?_
    refine sw_icmp_ge (pc := 11) 93 C dX10_kerfNow_11 (by decide) ?_ ?_
    · refine sw_iconst (pc := 93) (v := 1) C dX10_kerfNow_93 (by decide) ?_
      refine sw_iloadn (pc := 94) 1 1 C dX10_kerfNow_94 rfl ?_
      refine sw_iadd (pc := 95) C dX10_kerfNow_95 ?_
      refine sw_iloadn (pc := 96) 2 2 C dX10_kerfNow_96 rfl ?_
      refine sw_iadd (pc := 97) C dX10_kerfNow_97 ?_
      exact sw_reti (pc := 98) C M dX10_kerfNow_98
    · refine sw_aloadn (pc := 14) 0 0 C dX10_kerfNow_14 rfl ?_
      refine sw_iloadn (pc := 15) 3 3 C dX10_kerfNow_15 rfl ?_
      refine sw_callVi (pc := 16) C (mX10_takesOf v3) sgX10_takesOf mlX10_148 dX10_kerfNow_16 (by decide) [.int v3] [] sh37 rfl rfl rfl rfl (Nat.le_of_ble_eq_true rfl) (fun r1 σ2 => ?_)
      refine sw_if_le (pc := 19) 26 C dX10_kerfNow_19 (by decide) ?_ ?_
      · refine sw_iconst (pc := 26) (v := 0) C dX10_kerfNow_26 (by decide) ?_
        exact jX10_kerfNow_B27 C hn M ih _ _ _ _ _
      · refine sw_iconst (pc := 22) (v := 1) C dX10_kerfNow_22 (by decide) ?_
        refine sw_goto (pc := 23) 27 C dX10_kerfNow_23 (by decide) ?_
        exact jX10_kerfNow_B27 C hn M ih _ _ _ _ _
set_option maxRecDepth 100000 in
set_option maxHeartbeats 4000000 in
theorem mX10_kerfNow    : sw_Ki yX10_kerfNow cX10_kerfNow 5 (some .int) 2 (fun ad => [.ref (ad 37)]) fX10_kerfNow := by
  refine sw_enteri (by decide) (fun ad => Nat.le_of_ble_eq_true rfl) (fun X ad t σ C hn M => ?_)
  change sw_J X ad t 0 [(0, .ref (ad 37))] [] σ _
  replace C : sw_C X ad cX10_kerfNow RX10 2 := C
  unfold fX10_kerfNow
  refine sw_iconst (pc := 0) (v := 0) C dX10_kerfNow_0 (by decide) ?_
  refine sw_istoren (pc := 1) 1 [(1, .int 0), (0, .ref (ad 37))] C dX10_kerfNow_1 (by rw [hn]; decide) rfl ?_
  refine sw_iconst (pc := 2) (v := 0) C dX10_kerfNow_2 (by decide) ?_
  refine sw_istoren (pc := 3) 2 [(2, .int 0), (1, .int 0), (0, .ref (ad 37))] C dX10_kerfNow_3 (by rw [hn]; decide) rfl ?_
  refine sw_iconst (pc := 4) (v := 0) C dX10_kerfNow_4 (by decide) ?_
  refine sw_istoren (pc := 5) 3 [(3, .int 0), (2, .int 0), (1, .int 0), (0, .ref (ad 37))] C dX10_kerfNow_5 (by rw [hn]; decide) rfl ?_
  refine sw_lpick (pc := 6) (L' := [(0, .ref (ad 37)), (1, .int 0), (2, .int 0), (3, .int 0)]) [3, 2, 1, 0] rfl ?_
  exact jX10_kerfNow_L6 C hn M  _ _ _ _ _
set_option maxRecDepth 100000 in
set_option maxHeartbeats 4000000 in
theorem jX10_ofSaw_L29 {X : sw_X} {ad : Nat → Nat} {t : Int32 × sw_St} (C : sw_C X ad cX10_ofSaw RX10 4) (hn : sw_nL X = 4) (M : sw_Mi X ad (some .int) t)   : ∀ (n : Nat) (v1 : Int32) (v2 : Int32) (v3 : Int32) (σ : sw_St), sw_J X ad t 29 [(0, .ref (ad 37)), (1, .int v1), (2, .int v2), (3, .int v3)] [] σ (fX10_ofSaw_L29  n v1 v2 v3 σ) := by
  intro n
  induction n with
  | zero => exact fun _ _ _ _ => sw_none
  | succ n ih =>
    intro v1 v2 v3 σ
    unfold fX10_ofSaw_L29
    refine sw_iloadn (pc := 29) 3 3 C dX10_ofSaw_29 rfl ?_
    refine sw_aloadn (pc := 30) 0 0 C dX10_ofSaw_30 rfl ?_
    refine sw_getI (pc := 31) C kfX10_116 sh37 ff10_1 dX10_ofSaw_31 ?_
    refine sw_icmp_ge (pc := 34) 51 C dX10_ofSaw_34 (by decide) ?_ ?_
    · refine sw_iloadn (pc := 51) 1 1 C dX10_ofSaw_51 rfl ?_
      refine sw_if_ne (pc := 52) 62 C dX10_ofSaw_52 (by decide) ?_ ?_
      · refine sw_iloadn (pc := 62) 1 1 C dX10_ofSaw_62 rfl ?_
        refine sw_iconst (pc := 63) (v := 1) C dX10_ofSaw_63 (by decide) ?_
        refine sw_icmp_ne (pc := 64) 74 C dX10_ofSaw_64 (by decide) ?_ ?_
        · refine sw_iloadn (pc := 74) 2 2 C dX10_ofSaw_74 rfl ?_
          exact sw_reti (pc := 75) C M dX10_ofSaw_75
        · refine sw_aloadn (pc := 67) 0 0 C dX10_ofSaw_67 rfl ?_
          refine sw_callVi (pc := 68) C mX10_kerfNow sgX10_kerfNow mlX10_169 dX10_ofSaw_68 (by decide) [] [] sh37 rfl rfl rfl rfl (Nat.le_of_ble_eq_true rfl) (fun r3 σ4 => ?_)
          refine sw_goto (pc := 71) 75 C dX10_ofSaw_71 (by decide) ?_
          exact sw_reti (pc := 75) C M dX10_ofSaw_75
      · refine sw_aloadn (pc := 55) 0 0 C dX10_ofSaw_55 rfl ?_
        refine sw_callVi (pc := 56) C mX10_pushNow sgX10_pushNow mlX10_165 dX10_ofSaw_56 (by decide) [] [] sh37 rfl rfl rfl rfl (Nat.le_of_ble_eq_true rfl) (fun r5 σ6 => ?_)
        refine sw_goto (pc := 59) 75 C dX10_ofSaw_59 (by decide) ?_
        exact sw_reti (pc := 75) C M dX10_ofSaw_75
    · refine sw_iloadn (pc := 37) 2 2 C dX10_ofSaw_37 rfl ?_
      refine sw_aloadn (pc := 38) 0 0 C dX10_ofSaw_38 rfl ?_
      refine sw_iloadn (pc := 39) 3 3 C dX10_ofSaw_39 rfl ?_
      refine sw_callVi (pc := 40) C (mX10_takesOf v3) sgX10_takesOf mlX10_148 dX10_ofSaw_40 (by decide) [.int v3] [.int v2] sh37 rfl rfl rfl rfl (Nat.le_of_ble_eq_true rfl) (fun r7 σ8 => ?_)
      refine sw_iadd (pc := 43) C dX10_ofSaw_43 ?_
      refine sw_leti (fun x9 => ?_)
      refine sw_istoren (pc := 44) 2 [(2, .int x9), (0, .ref (ad 37)), (1, .int v1), (3, .int v3)] C dX10_ofSaw_44 (by rw [hn]; decide) rfl ?_
      refine sw_iinc (pc := 45) (v3 + 1) 3 [(3, .int (v3 + 1)), (2, .int x9), (0, .ref (ad 37)), (1, .int v1)] C dX10_ofSaw_45 (by rw [hn]; decide) rfl rfl rfl ?_
      refine sw_goto (pc := 48) 29 C dX10_ofSaw_48 (by decide) ?_
      refine sw_lpick (pc := 29) (L' := [(0, .ref (ad 37)), (1, .int v1), (2, .int x9), (3, .int (v3 + 1))]) [2, 3, 1, 0] rfl ?_
      exact ih _ _ _ _
set_option maxRecDepth 100000 in
set_option maxHeartbeats 4000000 in
theorem mX10_ofSaw   (a0 : Int32) : sw_Ki yX10_ofSaw cX10_ofSaw 4 (some .int) 4 (fun ad => [.ref (ad 37), .int a0]) (fX10_ofSaw a0) := by
  refine sw_enteri (by decide) (fun ad => Nat.le_of_ble_eq_true rfl) (fun X ad t σ C hn M => ?_)
  change sw_J X ad t 0 [(0, .ref (ad 37)), (1, .int a0)] [] σ _
  replace C : sw_C X ad cX10_ofSaw RX10 4 := C
  unfold fX10_ofSaw
  refine sw_iloadn (pc := 0) 1 1 C dX10_ofSaw_0 rfl ?_
  refine sw_i2l (pc := 1) C dX10_ofSaw_1 ?_
  refine sw_lconst (pc := 2) (v := 0) C dX10_ofSaw_2 (by decide) ?_
  refine sw_ldc2 (pc := 3) C dX10_ofSaw_3 klX10_103 ?_
  refine sw_callSi (pc := 6) C (mX10_in (Int32.toInt64 a0) (0 : Int64) (2 : Int64)) sgX10_in mlX10_105 dX10_ofSaw_6 (by decide) [.long (Int32.toInt64 a0), .long (0 : Int64), .long (2 : Int64)] [] rfl rfl rfl (Nat.le_of_ble_eq_true rfl) (fun r1 σ2 => ?_)
  refine sw_if_ne (pc := 9) 15 C dX10_ofSaw_9 (by decide) ?_ ?_
  · refine sw_aloadn (pc := 15) 0 0 C dX10_ofSaw_15 rfl ?_
    refine sw_getI (pc := 16) C kfX10_116 sh37 ff10_1 dX10_ofSaw_16 ?_
    refine sw_if_ne (pc := 19) 25 C dX10_ofSaw_19 (by decide) ?_ ?_
    · refine sw_iconst (pc := 25) (v := 0) C dX10_ofSaw_25 (by decide) ?_
      refine sw_istoren (pc := 26) 2 [(2, .int 0), (0, .ref (ad 37)), (1, .int a0)] C dX10_ofSaw_26 (by rw [hn]; decide) rfl ?_
      refine sw_iconst (pc := 27) (v := 0) C dX10_ofSaw_27 (by decide) ?_
      refine sw_istoren (pc := 28) 3 [(3, .int 0), (2, .int 0), (0, .ref (ad 37)), (1, .int a0)] C dX10_ofSaw_28 (by rw [hn]; decide) rfl ?_
      refine sw_lpick (pc := 29) (L' := [(0, .ref (ad 37)), (1, .int a0), (2, .int 0), (3, .int 0)]) [2, 3, 1, 0] rfl ?_
      exact jX10_ofSaw_L29 C hn M  _ _ _ _ _
    · refine sw_bipush (pc := 22) (v := (-3)) C dX10_ofSaw_22 (by decide) ?_
      exact sw_reti (pc := 24) C M dX10_ofSaw_24
  · refine sw_bipush (pc := 12) (v := (-2)) C dX10_ofSaw_12 (by decide) ?_
    exact sw_reti (pc := 14) C M dX10_ofSaw_14
set_option maxRecDepth 100000 in
set_option maxHeartbeats 4000000 in
theorem mX10_noLine   (a0 : Int32) : sw_Ki yX10_noLine cX10_noLine 2 (some .boolean) 2 (fun ad => [.ref (ad 37), .int a0]) (fX10_noLine a0) := by
  refine sw_enteri (by decide) (fun ad => Nat.le_of_ble_eq_true rfl) (fun X ad t σ C hn M => ?_)
  change sw_J X ad t 0 [(0, .ref (ad 37)), (1, .int a0)] [] σ _
  replace C : sw_C X ad cX10_noLine RX10 2 := C
  unfold fX10_noLine
  refine sw_iloadn (pc := 0) 1 1 C dX10_noLine_0 rfl ?_
  refine sw_i2l (pc := 1) C dX10_noLine_1 ?_
  refine sw_lconst (pc := 2) (v := 0) C dX10_noLine_2 (by decide) ?_
  refine sw_aloadn (pc := 3) 0 0 C dX10_noLine_3 rfl ?_
  refine sw_getI (pc := 4) C kfX10_172 sh37 ff10_12 dX10_noLine_4 ?_
  refine sw_i2l (pc := 7) C dX10_noLine_7 ?_
  refine sw_lconst (pc := 8) (v := 1) C dX10_noLine_8 (by decide) ?_
  refine sw_lsub (pc := 9) C dX10_noLine_9 ?_
  refine sw_callSi (pc := 10) C (mX10_in (Int32.toInt64 a0) (0 : Int64) ((Int32.toInt64 (σ 37 12)) - (1 : Int64))) sgX10_in mlX10_105 dX10_noLine_10 (by decide) [.long (Int32.toInt64 a0), .long (0 : Int64), .long ((Int32.toInt64 (σ 37 12)) - (1 : Int64))] [] rfl rfl rfl (Nat.le_of_ble_eq_true rfl) (fun r1 σ2 => ?_)
  refine sw_if_ne (pc := 13) 20 C dX10_noLine_13 (by decide) ?_ ?_
  · refine sw_iconst (pc := 20) (v := 0) C dX10_noLine_20 (by decide) ?_
    exact sw_retiz (pc := 21) rfl C M dX10_noLine_21
  · refine sw_iconst (pc := 16) (v := 1) C dX10_noLine_16 (by decide) ?_
    refine sw_goto (pc := 17) 21 C dX10_noLine_17 (by decide) ?_
    exact sw_retiz (pc := 21) rfl C M dX10_noLine_21
set_option maxRecDepth 100000 in
set_option maxHeartbeats 4000000 in
theorem jX10_readsBoard_B165 {X : sw_X} {ad : Nat → Nat} {t : Int32 × sw_St} (C : sw_C X ad cX10_readsBoard RX10 2) (hn : sw_nL X = 6) (M : sw_Mi X ad (some .boolean) t)   {K10 : Int32 → Int32 → sw_St → Option (Int32 × sw_St)} (hK10 : ∀ (z1 : Int32) (z2 : Int32) (τ : sw_St), sw_J X ad t 10 [(0, .ref (ad 37)), (1, .int z1), (2, .int z2)] [] τ (K10 z1 z2 τ)) (v1 : Int32) (v2 : Int32) (v3 : Int32) (v4 : Int32) (s0 : Int32) (σ : sw_St) : sw_J X ad t 165 [(0, .ref (ad 37)), (1, .int v1), (2, .int v2), (3, .int v3), (4, .int v4)] [.int s0] σ (fX10_readsBoard_B165 K10 v1 v2 v3 v4 s0 σ) := by
  unfold fX10_readsBoard_B165
  refine sw_istore (pc := 165) [(5, .int s0), (0, .ref (ad 37)), (1, .int v1), (2, .int v2), (3, .int v3), (4, .int v4)] C dX10_readsBoard_165 (by rw [hn]; decide) rfl ?_
  refine sw_iload (pc := 167) 0 C dX10_readsBoard_167 rfl ?_
  refine sw_i2l (pc := 169) C dX10_readsBoard_169 ?_
  refine sw_lconst (pc := 170) (v := 0) C dX10_readsBoard_170 (by decide) ?_
  refine sw_ldc2 (pc := 171) C dX10_readsBoard_171 klX10_122 ?_
  refine sw_callSi (pc := 174) C (mX10_in (Int32.toInt64 s0) (0 : Int64) (9 : Int64)) sgX10_in mlX10_105 dX10_readsBoard_174 (by decide) [.long (Int32.toInt64 s0), .long (0 : Int64), .long (9 : Int64)] [] rfl rfl rfl (Nat.le_of_ble_eq_true rfl) (fun r8 σ9 => ?_)
  refine sw_if_ne (pc := 177) 192 C dX10_readsBoard_177 (by decide) ?_ ?_
  · refine sw_aloadn (pc := 192) 0 1 C dX10_readsBoard_192 rfl ?_
    refine sw_getR (pc := 193) C kfX10_31 sh37 ff10_11 dX10_readsBoard_193 ?_
    refine sw_iconst (pc := 196) (v := 3) C dX10_readsBoard_196 (by decide) ?_
    refine sw_aloadn (pc := 197) 0 1 C dX10_readsBoard_197 rfl ?_
    refine sw_getI (pc := 198) C kfX10_124 sh37 ff10_8 dX10_readsBoard_198 ?_
    refine sw_imul (pc := 201) C dX10_readsBoard_201 ?_
    refine sw_iloadn (pc := 202) 3 4 C dX10_readsBoard_202 rfl ?_
    refine sw_iastL (pc := 203) C sh45 dX10_readsBoard_203 (fun σ10 => ?_)
    refine sw_aloadn (pc := 204) 0 1 C dX10_readsBoard_204 rfl ?_
    refine sw_getR (pc := 205) C kfX10_31 sh37 ff10_11 dX10_readsBoard_205 ?_
    refine sw_iconst (pc := 208) (v := 3) C dX10_readsBoard_208 (by decide) ?_
    refine sw_aloadn (pc := 209) 0 1 C dX10_readsBoard_209 rfl ?_
    refine sw_getI (pc := 210) C kfX10_124 sh37 ff10_8 dX10_readsBoard_210 ?_
    refine sw_imul (pc := 213) C dX10_readsBoard_213 ?_
    refine sw_iconst (pc := 214) (v := 1) C dX10_readsBoard_214 (by decide) ?_
    refine sw_iadd (pc := 215) C dX10_readsBoard_215 ?_
    refine sw_iload (pc := 216) 5 C dX10_readsBoard_216 rfl ?_
    refine sw_iconst (pc := 218) (v := 4) C dX10_readsBoard_218 (by decide) ?_
    refine sw_isub (pc := 219) C dX10_readsBoard_219 ?_
    refine sw_iastL (pc := 220) C sh45 dX10_readsBoard_220 (fun σ11 => ?_)
    refine sw_aloadn (pc := 221) 0 1 C dX10_readsBoard_221 rfl ?_
    refine sw_getR (pc := 222) C kfX10_31 sh37 ff10_11 dX10_readsBoard_222 ?_
    refine sw_iconst (pc := 225) (v := 3) C dX10_readsBoard_225 (by decide) ?_
    refine sw_aloadn (pc := 226) 0 1 C dX10_readsBoard_226 rfl ?_
    refine sw_getI (pc := 227) C kfX10_124 sh37 ff10_8 dX10_readsBoard_227 ?_
    refine sw_imul (pc := 230) C dX10_readsBoard_230 ?_
    refine sw_iconst (pc := 231) (v := 2) C dX10_readsBoard_231 (by decide) ?_
    refine sw_iadd (pc := 232) C dX10_readsBoard_232 ?_
    refine sw_iload (pc := 233) 0 C dX10_readsBoard_233 rfl ?_
    refine sw_iastL (pc := 235) C sh45 dX10_readsBoard_235 (fun σ12 => ?_)
    refine sw_aloadn (pc := 236) 0 1 C dX10_readsBoard_236 rfl ?_
    refine sw_dup (pc := 237) C dX10_readsBoard_237 rfl ?_
    refine sw_getI (pc := 238) C kfX10_119 sh37 ff10_7 dX10_readsBoard_238 ?_
    refine sw_iconst (pc := 241) (v := 3) C dX10_readsBoard_241 (by decide) ?_
    refine sw_iadd (pc := 242) C dX10_readsBoard_242 ?_
    refine sw_putL (pc := 243) C kpX10_119 sh37 ff10_7 dX10_readsBoard_243 (fun σ13 => ?_)
    refine sw_aloadn (pc := 246) 0 1 C dX10_readsBoard_246 rfl ?_
    refine sw_dup (pc := 247) C dX10_readsBoard_247 rfl ?_
    refine sw_getI (pc := 248) C kfX10_124 sh37 ff10_8 dX10_readsBoard_248 ?_
    refine sw_iconst (pc := 251) (v := 1) C dX10_readsBoard_251 (by decide) ?_
    refine sw_iadd (pc := 252) C dX10_readsBoard_252 ?_
    refine sw_putL (pc := 253) C kpX10_124 sh37 ff10_8 dX10_readsBoard_253 (fun σ14 => ?_)
    refine sw_goto (pc := 256) 10 C dX10_readsBoard_256 (by decide) ?_
    refine sw_lpick (pc := 10) (L' := [(0, .ref (ad 37)), (1, .int v1), (2, .int v2)]) [1, 2, 3] rfl ?_
    exact hK10 _ _ _
  · refine sw_aloadn (pc := 180) 0 1 C dX10_readsBoard_180 rfl ?_
    refine sw_dup (pc := 181) C dX10_readsBoard_181 rfl ?_
    refine sw_getI (pc := 182) C kfX10_119 sh37 ff10_7 dX10_readsBoard_182 ?_
    refine sw_iconst (pc := 185) (v := 2) C dX10_readsBoard_185 (by decide) ?_
    refine sw_iadd (pc := 186) C dX10_readsBoard_186 ?_
    refine sw_putL (pc := 187) C kpX10_119 sh37 ff10_7 dX10_readsBoard_187 (fun σ15 => ?_)
    refine sw_iconst (pc := 190) (v := 0) C dX10_readsBoard_190 (by decide) ?_
    exact sw_retiz (pc := 191) rfl C M dX10_readsBoard_191
set_option maxRecDepth 100000 in
set_option maxHeartbeats 4000000 in
theorem jX10_readsBoard_B107 {X : sw_X} {ad : Nat → Nat} {t : Int32 × sw_St} (C : sw_C X ad cX10_readsBoard RX10 2) (hn : sw_nL X = 6) (M : sw_Mi X ad (some .boolean) t)   {K10 : Int32 → Int32 → sw_St → Option (Int32 × sw_St)} (hK10 : ∀ (z1 : Int32) (z2 : Int32) (τ : sw_St), sw_J X ad t 10 [(0, .ref (ad 37)), (1, .int z1), (2, .int z2)] [] τ (K10 z1 z2 τ)) (v1 : Int32) (v2 : Int32) (v3 : Int32) (s0 : Int32) (σ : sw_St) : sw_J X ad t 107 [(0, .ref (ad 37)), (1, .int v1), (2, .int v2), (3, .int v3)] [.int s0] σ (fX10_readsBoard_B107 K10 v1 v2 v3 s0 σ) := by
  unfold fX10_readsBoard_B107
  refine sw_istore (pc := 107) [(4, .int s0), (0, .ref (ad 37)), (1, .int v1), (2, .int v2), (3, .int v3)] C dX10_readsBoard_107 (by rw [hn]; decide) rfl ?_
  refine sw_iload (pc := 109) 0 C dX10_readsBoard_109 rfl ?_
  refine sw_i2l (pc := 111) C dX10_readsBoard_111 ?_
  refine sw_lconst (pc := 112) (v := 0) C dX10_readsBoard_112 (by decide) ?_
  refine sw_ldc2 (pc := 113) C dX10_readsBoard_113 klX10_175 ?_
  refine sw_callSi (pc := 116) C (mX10_in (Int32.toInt64 s0) (0 : Int64) (8 : Int64)) sgX10_in mlX10_105 dX10_readsBoard_116 (by decide) [.long (Int32.toInt64 s0), .long (0 : Int64), .long (8 : Int64)] [] rfl rfl rfl (Nat.le_of_ble_eq_true rfl) (fun r5 σ6 => ?_)
  refine sw_if_ne (pc := 119) 134 C dX10_readsBoard_119 (by decide) ?_ ?_
  · refine sw_aloadn (pc := 134) 0 1 C dX10_readsBoard_134 rfl ?_
    refine sw_getI (pc := 135) C kfX10_119 sh37 ff10_7 dX10_readsBoard_135 ?_
    refine sw_iconst (pc := 138) (v := 2) C dX10_readsBoard_138 (by decide) ?_
    refine sw_iadd (pc := 139) C dX10_readsBoard_139 ?_
    refine sw_iloadn (pc := 140) 2 3 C dX10_readsBoard_140 rfl ?_
    refine sw_icmp_ge (pc := 141) 163 C dX10_readsBoard_141 (by decide) ?_ ?_
    · refine sw_bipush (pc := 163) (v := (-9)) C dX10_readsBoard_163 (by decide) ?_
      refine sw_lpick (pc := 165) (L' := [(0, .ref (ad 37)), (1, .int v1), (2, .int v2), (3, .int v3), (4, .int s0)]) [1, 2, 3, 4, 0] rfl ?_
      exact jX10_readsBoard_B165 C hn M hK10 _ _ _ _ _ _
    · refine sw_aloadn (pc := 144) 0 1 C dX10_readsBoard_144 rfl ?_
      refine sw_getR (pc := 145) C kfX10_79 sh37 ff10_43 dX10_readsBoard_145 ?_
      refine sw_iloadn (pc := 148) 1 2 C dX10_readsBoard_148 rfl ?_
      refine sw_aloadn (pc := 149) 0 1 C dX10_readsBoard_149 rfl ?_
      refine sw_getI (pc := 150) C kfX10_119 sh37 ff10_7 dX10_readsBoard_150 ?_
      refine sw_iadd (pc := 153) C dX10_readsBoard_153 ?_
      refine sw_iconst (pc := 154) (v := 2) C dX10_readsBoard_154 (by decide) ?_
      refine sw_iadd (pc := 155) C dX10_readsBoard_155 ?_
      refine sw_iald (pc := 156) C sh61 dX10_readsBoard_156 ?_
      refine sw_bipush (pc := 157) (v := 48) C dX10_readsBoard_157 (by decide) ?_
      refine sw_isub (pc := 159) C dX10_readsBoard_159 ?_
      refine sw_goto (pc := 160) 165 C dX10_readsBoard_160 (by decide) ?_
      refine sw_lpick (pc := 165) (L' := [(0, .ref (ad 37)), (1, .int v1), (2, .int v2), (3, .int v3), (4, .int s0)]) [1, 2, 3, 4, 0] rfl ?_
      exact jX10_readsBoard_B165 C hn M hK10 _ _ _ _ _ _
  · refine sw_aloadn (pc := 122) 0 1 C dX10_readsBoard_122 rfl ?_
    refine sw_dup (pc := 123) C dX10_readsBoard_123 rfl ?_
    refine sw_getI (pc := 124) C kfX10_119 sh37 ff10_7 dX10_readsBoard_124 ?_
    refine sw_iconst (pc := 127) (v := 1) C dX10_readsBoard_127 (by decide) ?_
    refine sw_iadd (pc := 128) C dX10_readsBoard_128 ?_
    refine sw_putL (pc := 129) C kpX10_119 sh37 ff10_7 dX10_readsBoard_129 (fun σ7 => ?_)
    refine sw_iconst (pc := 132) (v := 0) C dX10_readsBoard_132 (by decide) ?_
    exact sw_retiz (pc := 133) rfl C M dX10_readsBoard_133
set_option maxRecDepth 100000 in
set_option maxHeartbeats 4000000 in
theorem jX10_readsBoard_B52 {X : sw_X} {ad : Nat → Nat} {t : Int32 × sw_St} (C : sw_C X ad cX10_readsBoard RX10 2) (hn : sw_nL X = 6) (M : sw_Mi X ad (some .boolean) t)   {K10 : Int32 → Int32 → sw_St → Option (Int32 × sw_St)} (hK10 : ∀ (z1 : Int32) (z2 : Int32) (τ : sw_St), sw_J X ad t 10 [(0, .ref (ad 37)), (1, .int z1), (2, .int z2)] [] τ (K10 z1 z2 τ)) (v1 : Int32) (v2 : Int32) (s0 : Int32) (σ : sw_St) : sw_J X ad t 52 [(0, .ref (ad 37)), (1, .int v1), (2, .int v2)] [.int s0] σ (fX10_readsBoard_B52 K10 v1 v2 s0 σ) := by
  unfold fX10_readsBoard_B52
  refine sw_istoren (pc := 52) 3 [(3, .int s0), (0, .ref (ad 37)), (1, .int v1), (2, .int v2)] C dX10_readsBoard_52 (by rw [hn]; decide) rfl ?_
  refine sw_aloadn (pc := 53) 0 1 C dX10_readsBoard_53 rfl ?_
  refine sw_getI (pc := 54) C kfX10_124 sh37 ff10_8 dX10_readsBoard_54 ?_
  refine sw_bipush (pc := 57) (v := 24) C dX10_readsBoard_57 (by decide) ?_
  refine sw_icmp_eq (pc := 59) 74 C dX10_readsBoard_59 (by decide) ?_ ?_
  · refine sw_iconst (pc := 74) (v := 0) C dX10_readsBoard_74 (by decide) ?_
    exact sw_retiz (pc := 75) rfl C M dX10_readsBoard_75
  · refine sw_iloadn (pc := 62) 3 0 C dX10_readsBoard_62 rfl ?_
    refine sw_i2l (pc := 63) C dX10_readsBoard_63 ?_
    refine sw_lconst (pc := 64) (v := 1) C dX10_readsBoard_64 (by decide) ?_
    refine sw_ldc2 (pc := 65) C dX10_readsBoard_65 klX10_122 ?_
    refine sw_callSi (pc := 68) C (mX10_in (Int32.toInt64 s0) (1 : Int64) (9 : Int64)) sgX10_in mlX10_105 dX10_readsBoard_68 (by decide) [.long (Int32.toInt64 s0), .long (1 : Int64), .long (9 : Int64)] [] rfl rfl rfl (Nat.le_of_ble_eq_true rfl) (fun r3 σ4 => ?_)
    refine sw_if_ne (pc := 71) 76 C dX10_readsBoard_71 (by decide) ?_ ?_
    · refine sw_aloadn (pc := 76) 0 1 C dX10_readsBoard_76 rfl ?_
      refine sw_getI (pc := 77) C kfX10_119 sh37 ff10_7 dX10_readsBoard_77 ?_
      refine sw_iconst (pc := 80) (v := 1) C dX10_readsBoard_80 (by decide) ?_
      refine sw_iadd (pc := 81) C dX10_readsBoard_81 ?_
      refine sw_iloadn (pc := 82) 2 3 C dX10_readsBoard_82 rfl ?_
      refine sw_icmp_ge (pc := 83) 105 C dX10_readsBoard_83 (by decide) ?_ ?_
      · refine sw_bipush (pc := 105) (v := (-9)) C dX10_readsBoard_105 (by decide) ?_
        refine sw_lpick (pc := 107) (L' := [(0, .ref (ad 37)), (1, .int v1), (2, .int v2), (3, .int s0)]) [1, 2, 3, 0] rfl ?_
        exact jX10_readsBoard_B107 C hn M hK10 _ _ _ _ _
      · refine sw_aloadn (pc := 86) 0 1 C dX10_readsBoard_86 rfl ?_
        refine sw_getR (pc := 87) C kfX10_79 sh37 ff10_43 dX10_readsBoard_87 ?_
        refine sw_iloadn (pc := 90) 1 2 C dX10_readsBoard_90 rfl ?_
        refine sw_aloadn (pc := 91) 0 1 C dX10_readsBoard_91 rfl ?_
        refine sw_getI (pc := 92) C kfX10_119 sh37 ff10_7 dX10_readsBoard_92 ?_
        refine sw_iadd (pc := 95) C dX10_readsBoard_95 ?_
        refine sw_iconst (pc := 96) (v := 1) C dX10_readsBoard_96 (by decide) ?_
        refine sw_iadd (pc := 97) C dX10_readsBoard_97 ?_
        refine sw_iald (pc := 98) C sh61 dX10_readsBoard_98 ?_
        refine sw_bipush (pc := 99) (v := 48) C dX10_readsBoard_99 (by decide) ?_
        refine sw_isub (pc := 101) C dX10_readsBoard_101 ?_
        refine sw_goto (pc := 102) 107 C dX10_readsBoard_102 (by decide) ?_
        refine sw_lpick (pc := 107) (L' := [(0, .ref (ad 37)), (1, .int v1), (2, .int v2), (3, .int s0)]) [1, 2, 3, 0] rfl ?_
        exact jX10_readsBoard_B107 C hn M hK10 _ _ _ _ _
    · refine sw_iconst (pc := 74) (v := 0) C dX10_readsBoard_74 (by decide) ?_
      exact sw_retiz (pc := 75) rfl C M dX10_readsBoard_75
set_option maxRecDepth 100000 in
set_option maxHeartbeats 4000000 in
theorem jX10_readsBoard_B25 {X : sw_X} {ad : Nat → Nat} {t : Int32 × sw_St} (C : sw_C X ad cX10_readsBoard RX10 2) (hn : sw_nL X = 6) (M : sw_Mi X ad (some .boolean) t)   {K10 : Int32 → Int32 → sw_St → Option (Int32 × sw_St)} (hK10 : ∀ (z1 : Int32) (z2 : Int32) (τ : sw_St), sw_J X ad t 10 [(0, .ref (ad 37)), (1, .int z1), (2, .int z2)] [] τ (K10 z1 z2 τ)) (v1 : Int32) (v2 : Int32) (σ : sw_St) : sw_J X ad t 25 [(0, .ref (ad 37)), (1, .int v1), (2, .int v2)] [] σ (fX10_readsBoard_B25 K10 v1 v2 σ) := by
  unfold fX10_readsBoard_B25
  refine sw_aloadn (pc := 25) 0 0 C dX10_readsBoard_25 rfl ?_
  refine sw_getI (pc := 26) C kfX10_119 sh37 ff10_7 dX10_readsBoard_26 ?_
  refine sw_iloadn (pc := 29) 2 2 C dX10_readsBoard_29 rfl ?_
  refine sw_icmp_ge (pc := 30) 50 C dX10_readsBoard_30 (by decide) ?_ ?_
  · refine sw_bipush (pc := 50) (v := (-9)) C dX10_readsBoard_50 (by decide) ?_
    exact jX10_readsBoard_B52 C hn M hK10 _ _ _ _
  · refine sw_aloadn (pc := 33) 0 0 C dX10_readsBoard_33 rfl ?_
    refine sw_getR (pc := 34) C kfX10_79 sh37 ff10_43 dX10_readsBoard_34 ?_
    refine sw_iloadn (pc := 37) 1 1 C dX10_readsBoard_37 rfl ?_
    refine sw_aloadn (pc := 38) 0 0 C dX10_readsBoard_38 rfl ?_
    refine sw_getI (pc := 39) C kfX10_119 sh37 ff10_7 dX10_readsBoard_39 ?_
    refine sw_iadd (pc := 42) C dX10_readsBoard_42 ?_
    refine sw_iald (pc := 43) C sh61 dX10_readsBoard_43 ?_
    refine sw_bipush (pc := 44) (v := 48) C dX10_readsBoard_44 (by decide) ?_
    refine sw_isub (pc := 46) C dX10_readsBoard_46 ?_
    refine sw_goto (pc := 47) 52 C dX10_readsBoard_47 (by decide) ?_
    exact jX10_readsBoard_B52 C hn M hK10 _ _ _ _
set_option maxRecDepth 100000 in
set_option maxHeartbeats 4000000 in
theorem jX10_readsBoard_L10 {X : sw_X} {ad : Nat → Nat} {t : Int32 × sw_St} (C : sw_C X ad cX10_readsBoard RX10 2) (hn : sw_nL X = 6) (M : sw_Mi X ad (some .boolean) t)   : ∀ (n : Nat) (v1 : Int32) (v2 : Int32) (σ : sw_St), sw_J X ad t 10 [(0, .ref (ad 37)), (1, .int v1), (2, .int v2)] [] σ (fX10_readsBoard_L10  n v1 v2 σ) := by
  intro n
  induction n with
  | zero => exact fun _ _ _ => sw_none
  | succ n ih =>
    intro v1 v2 σ
    unfold fX10_readsBoard_L10
    refine sw_aloadn (pc := 10) 0 0 C dX10_readsBoard_10 rfl ?_
    refine sw_getI (pc := 11) C kfX10_124 sh37 ff10_8 dX10_readsBoard_11 ?_
    refine sw_if_eq (pc := 14) 25 C dX10_readsBoard_14 (by decide) ?_ ?_
    · exact jX10_readsBoard_B25 C hn M ih _ _ _
    · refine sw_aloadn (pc := 17) 0 0 C dX10_readsBoard_17 rfl ?_
      refine sw_getI (pc := 18) C kfX10_119 sh37 ff10_7 dX10_readsBoard_18 ?_
      refine sw_iloadn (pc := 21) 2 2 C dX10_readsBoard_21 rfl ?_
      refine sw_icmp_ge (pc := 22) 259 C dX10_readsBoard_22 (by decide) ?_ ?_
      · refine sw_iconst (pc := 259) (v := 1) C dX10_readsBoard_259 (by decide) ?_
        exact sw_retiz (pc := 260) rfl C M dX10_readsBoard_260
      · exact jX10_readsBoard_B25 C hn M ih _ _ _
set_option maxRecDepth 100000 in
set_option maxHeartbeats 4000000 in
theorem mX10_readsBoard   (a0 : Int32) (a1 : Int32) : sw_Ki yX10_readsBoard cX10_readsBoard 6 (some .boolean) 2 (fun ad => [.ref (ad 37), .int a0, .int a1]) (fX10_readsBoard a0 a1) := by
  refine sw_enteri (by decide) (fun ad => Nat.le_of_ble_eq_true rfl) (fun X ad t σ C hn M => ?_)
  change sw_J X ad t 0 [(0, .ref (ad 37)), (1, .int a0), (2, .int a1)] [] σ _
  replace C : sw_C X ad cX10_readsBoard RX10 2 := C
  unfold fX10_readsBoard
  refine sw_aloadn (pc := 0) 0 0 C dX10_readsBoard_0 rfl ?_
  refine sw_iconst (pc := 1) (v := 0) C dX10_readsBoard_1 (by decide) ?_
  refine sw_putL (pc := 2) C kpX10_119 sh37 ff10_7 dX10_readsBoard_2 (fun σ1 => ?_)
  refine sw_aloadn (pc := 5) 0 0 C dX10_readsBoard_5 rfl ?_
  refine sw_iconst (pc := 6) (v := 0) C dX10_readsBoard_6 (by decide) ?_
  refine sw_putL (pc := 7) C kpX10_124 sh37 ff10_8 dX10_readsBoard_7 (fun σ2 => ?_)
  exact jX10_readsBoard_L10 C hn M  _ _ _ _
set_option maxRecDepth 100000 in
set_option maxHeartbeats 4000000 in
theorem jX10_board_L58 {X : sw_X} {ad : Nat → Nat} {t : Int32 × sw_St} (C : sw_C X ad cX10_board RX10 4) (hn : sw_nL X = 7) (M : sw_Mi X ad (some .int) t)   : ∀ (n : Nat) (v6 : Int32) (σ : sw_St), sw_J X ad t 58 [(0, .ref (ad 37)), (6, .int v6)] [] σ (fX10_board_L58  n v6 σ) := by
  intro n
  induction n with
  | zero => exact fun _ _ => sw_none
  | succ n ih =>
    intro v6 σ
    unfold fX10_board_L58
    refine sw_iload (pc := 58) 1 C dX10_board_58 rfl ?_
    refine sw_aloadn (pc := 60) 0 0 C dX10_board_60 rfl ?_
    refine sw_getI (pc := 61) C kfX10_172 sh37 ff10_12 dX10_board_61 ?_
    refine sw_icmp_ge (pc := 64) 125 C dX10_board_64 (by decide) ?_ ?_
    · refine sw_aloadn (pc := 125) 0 0 C dX10_board_125 rfl ?_
      refine sw_iconst (pc := 126) (v := 0) C dX10_board_126 (by decide) ?_
      refine sw_putL (pc := 127) C kpX10_145 sh37 ff10_28 dX10_board_127 (fun σ8 => ?_)
      refine sw_aloadn (pc := 130) 0 0 C dX10_board_130 rfl ?_
      refine sw_aloadn (pc := 131) 0 0 C dX10_board_131 rfl ?_
      refine sw_getI (pc := 132) C kfX10_172 sh37 ff10_12 dX10_board_132 ?_
      refine sw_callVi (pc := 135) C (mX10_refused (σ8 37 12)) sgX10_refused mlX10_99 dX10_board_135 (by decide) [.int (σ8 37 12)] [] sh37 rfl rfl rfl rfl (Nat.le_of_ble_eq_true rfl) (fun r9 σ10 => ?_)
      exact sw_reti (pc := 138) C M dX10_board_138
    · refine sw_aloadn (pc := 67) 0 0 C dX10_board_67 rfl ?_
      refine sw_getR (pc := 68) C kfX10_34 sh37 ff10_13 dX10_board_68 ?_
      refine sw_iload (pc := 71) 1 C dX10_board_71 rfl ?_
      refine sw_aloadn (pc := 73) 0 0 C dX10_board_73 rfl ?_
      refine sw_getR (pc := 74) C kfX10_31 sh37 ff10_11 dX10_board_74 ?_
      refine sw_iconst (pc := 77) (v := 3) C dX10_board_77 (by decide) ?_
      refine sw_iload (pc := 78) 1 C dX10_board_78 rfl ?_
      refine sw_imul (pc := 80) C dX10_board_80 ?_
      refine sw_iald (pc := 81) C sh45 dX10_board_81 ?_
      refine sw_iastL (pc := 82) C sh46 dX10_board_82 (fun σ11 => ?_)
      refine sw_aloadn (pc := 83) 0 0 C dX10_board_83 rfl ?_
      refine sw_getR (pc := 84) C kfX10_37 sh37 ff10_14 dX10_board_84 ?_
      refine sw_iload (pc := 87) 1 C dX10_board_87 rfl ?_
      refine sw_aloadn (pc := 89) 0 0 C dX10_board_89 rfl ?_
      refine sw_getR (pc := 90) C kfX10_31 sh37 ff10_11 dX10_board_90 ?_
      refine sw_iconst (pc := 93) (v := 3) C dX10_board_93 (by decide) ?_
      refine sw_iload (pc := 94) 1 C dX10_board_94 rfl ?_
      refine sw_imul (pc := 96) C dX10_board_96 ?_
      refine sw_iconst (pc := 97) (v := 1) C dX10_board_97 (by decide) ?_
      refine sw_iadd (pc := 98) C dX10_board_98 ?_
      refine sw_iald (pc := 99) C sh45 dX10_board_99 ?_
      refine sw_iastL (pc := 100) C sh47 dX10_board_100 (fun σ12 => ?_)
      refine sw_aloadn (pc := 101) 0 0 C dX10_board_101 rfl ?_
      refine sw_getR (pc := 102) C kfX10_40 sh37 ff10_15 dX10_board_102 ?_
      refine sw_iload (pc := 105) 1 C dX10_board_105 rfl ?_
      refine sw_aloadn (pc := 107) 0 0 C dX10_board_107 rfl ?_
      refine sw_getR (pc := 108) C kfX10_31 sh37 ff10_11 dX10_board_108 ?_
      refine sw_iconst (pc := 111) (v := 3) C dX10_board_111 (by decide) ?_
      refine sw_iload (pc := 112) 1 C dX10_board_112 rfl ?_
      refine sw_imul (pc := 114) C dX10_board_114 ?_
      refine sw_iconst (pc := 115) (v := 2) C dX10_board_115 (by decide) ?_
      refine sw_iadd (pc := 116) C dX10_board_116 ?_
      refine sw_iald (pc := 117) C sh45 dX10_board_117 ?_
      refine sw_iastL (pc := 118) C sh48 dX10_board_118 (fun σ13 => ?_)
      refine sw_iinc (pc := 119) (v6 + 1) 1 [(6, .int (v6 + 1)), (0, .ref (ad 37))] C dX10_board_119 (by rw [hn]; decide) rfl rfl rfl ?_
      refine sw_goto (pc := 122) 58 C dX10_board_122 (by decide) ?_
      refine sw_lpick (pc := 58) (L' := [(0, .ref (ad 37)), (6, .int (v6 + 1))]) [1, 0] rfl ?_
      exact ih _ _
set_option maxRecDepth 100000 in
set_option maxHeartbeats 4000000 in
theorem mX10_board   (a0 : Int32) (a1 : Int32) (a2 : Int32) (a3 : Int32) : sw_Ki yX10_board cX10_board 7 (some .int) 4 (fun ad => [.ref (ad 37), .int a0, .int a1, .int a2, .int a3]) (fX10_board a0 a1 a2 a3) := by
  refine sw_enteri (by decide) (fun ad => Nat.le_of_ble_eq_true rfl) (fun X ad t σ C hn M => ?_)
  change sw_J X ad t 0 [(0, .ref (ad 37)), (1, .int a0), (2, .int a1), (3, .int a2), (4, .int a3)] [] σ _
  replace C : sw_C X ad cX10_board RX10 4 := C
  unfold fX10_board
  refine sw_aloadn (pc := 0) 0 0 C dX10_board_0 rfl ?_
  refine sw_iloadn (pc := 1) 1 1 C dX10_board_1 rfl ?_
  refine sw_iloadn (pc := 2) 2 2 C dX10_board_2 rfl ?_
  refine sw_iloadn (pc := 3) 3 3 C dX10_board_3 rfl ?_
  refine sw_iload (pc := 4) 4 C dX10_board_4 rfl ?_
  refine sw_i2l (pc := 6) C dX10_board_6 ?_
  refine sw_callVi (pc := 7) C (mX10_barred a0 a1 a2 (Int32.toInt64 a3)) sgX10_barred mlX10_134 dX10_board_7 (by decide) [.int a0, .int a1, .int a2, .long (Int32.toInt64 a3)] [] sh37 rfl rfl rfl rfl (Nat.le_of_ble_eq_true rfl) (fun r1 σ2 => ?_)
  refine sw_istore (pc := 10) [(5, .int r1), (0, .ref (ad 37)), (1, .int a0), (2, .int a1), (3, .int a2), (4, .int a3)] C dX10_board_10 (by rw [hn]; decide) rfl ?_
  refine sw_iload (pc := 12) 0 C dX10_board_12 rfl ?_
  refine sw_if_ge (pc := 14) 20 C dX10_board_14 (by decide) ?_ ?_
  · refine sw_aloadn (pc := 20) 0 1 C dX10_board_20 rfl ?_
    refine sw_bipush (pc := 21) (v := 80) C dX10_board_21 (by decide) ?_
    refine sw_iloadn (pc := 23) 1 2 C dX10_board_23 rfl ?_
    refine sw_imul (pc := 24) C dX10_board_24 ?_
    refine sw_iloadn (pc := 25) 3 4 C dX10_board_25 rfl ?_
    refine sw_iadd (pc := 26) C dX10_board_26 ?_
    refine sw_iload (pc := 27) 5 C dX10_board_27 rfl ?_
    refine sw_callVi (pc := 29) C (mX10_readsBoard ((80 * a0) + a2) a3) sgX10_readsBoard mlX10_177 dX10_board_29 (by decide) [.int ((80 * a0) + a2), .int a3] [] sh37 rfl rfl rfl rfl (Nat.le_of_ble_eq_true rfl) (fun r3 σ4 => ?_)
    refine sw_if_ne (pc := 32) 47 C dX10_board_32 (by decide) ?_ ?_
    · refine sw_aloadn (pc := 47) 0 1 C dX10_board_47 rfl ?_
      refine sw_aloadn (pc := 48) 0 1 C dX10_board_48 rfl ?_
      refine sw_getI (pc := 49) C kfX10_124 sh37 ff10_8 dX10_board_49 ?_
      refine sw_putL (pc := 52) C kpX10_172 sh37 ff10_12 dX10_board_52 (fun σ5 => ?_)
      refine sw_iconst (pc := 55) (v := 0) C dX10_board_55 (by decide) ?_
      refine sw_istore (pc := 56) [(6, .int 0), (5, .int r1), (0, .ref (ad 37)), (1, .int a0), (2, .int a1), (3, .int a2), (4, .int a3)] C dX10_board_56 (by rw [hn]; decide) rfl ?_
      refine sw_lpick (pc := 58) (L' := [(0, .ref (ad 37)), (6, .int 0)]) [2, 0] rfl ?_
      exact jX10_board_L58 C hn M  _ _ _
    · refine sw_aloadn (pc := 35) 0 1 C dX10_board_35 rfl ?_
      refine sw_bipush (pc := 36) (v := (-100)) C dX10_board_36 (by decide) ?_
      refine sw_aloadn (pc := 38) 0 1 C dX10_board_38 rfl ?_
      refine sw_getI (pc := 39) C kfX10_119 sh37 ff10_7 dX10_board_39 ?_
      refine sw_isub (pc := 42) C dX10_board_42 ?_
      refine sw_callVi (pc := 43) C (mX10_refused ((-100) - (σ4 37 7))) sgX10_refused mlX10_99 dX10_board_43 (by decide) [.int ((-100) - (σ4 37 7))] [] sh37 rfl rfl rfl rfl (Nat.le_of_ble_eq_true rfl) (fun r6 σ7 => ?_)
      exact sw_reti (pc := 46) C M dX10_board_46
  · refine sw_iload (pc := 17) 0 C dX10_board_17 rfl ?_
    exact sw_reti (pc := 19) C M dX10_board_19
set_option maxRecDepth 100000 in
set_option maxHeartbeats 4000000 in
theorem mX10_ofLine   (a0 : Int32) (a1 : Int32) : sw_Ki yX10_ofLine cX10_ofLine 3 (some .int) 3 (fun ad => [.ref (ad 37), .int a0, .int a1]) (fX10_ofLine a0 a1) := by
  refine sw_enteri (by decide) (fun ad => Nat.le_of_ble_eq_true rfl) (fun X ad t σ C hn M => ?_)
  change sw_J X ad t 0 [(0, .ref (ad 37)), (1, .int a0), (2, .int a1)] [] σ _
  replace C : sw_C X ad cX10_ofLine RX10 3 := C
  unfold fX10_ofLine
  refine sw_aloadn (pc := 0) 0 0 C dX10_ofLine_0 rfl ?_
  refine sw_iloadn (pc := 1) 1 1 C dX10_ofLine_1 rfl ?_
  refine sw_callVi (pc := 2) C (mX10_noLine a0) sgX10_noLine mlX10_180 dX10_ofLine_2 (by decide) [.int a0] [] sh37 rfl rfl rfl rfl (Nat.le_of_ble_eq_true rfl) (fun r1 σ2 => ?_)
  refine sw_if_eq (pc := 5) 10 C dX10_ofLine_5 (by decide) ?_ ?_
  · refine sw_iloadn (pc := 10) 2 2 C dX10_ofLine_10 rfl ?_
    refine sw_if_ne (pc := 11) 23 C dX10_ofLine_11 (by decide) ?_ ?_
    · refine sw_iloadn (pc := 23) 2 2 C dX10_ofLine_23 rfl ?_
      refine sw_iconst (pc := 24) (v := 1) C dX10_ofLine_24 (by decide) ?_
      refine sw_icmp_ne (pc := 25) 37 C dX10_ofLine_25 (by decide) ?_ ?_
      · refine sw_iloadn (pc := 37) 2 2 C dX10_ofLine_37 rfl ?_
        refine sw_iconst (pc := 38) (v := 2) C dX10_ofLine_38 (by decide) ?_
        refine sw_icmp_ne (pc := 39) 51 C dX10_ofLine_39 (by decide) ?_ ?_
        · refine sw_bipush (pc := 51) (v := (-2)) C dX10_ofLine_51 (by decide) ?_
          exact sw_reti (pc := 53) C M dX10_ofLine_53
        · refine sw_aloadn (pc := 42) 0 0 C dX10_ofLine_42 rfl ?_
          refine sw_getR (pc := 43) C kfX10_40 sh37 ff10_15 dX10_ofLine_43 ?_
          refine sw_iloadn (pc := 46) 1 1 C dX10_ofLine_46 rfl ?_
          refine sw_iald (pc := 47) C sh48 dX10_ofLine_47 ?_
          refine sw_goto (pc := 48) 53 C dX10_ofLine_48 (by decide) ?_
          exact sw_reti (pc := 53) C M dX10_ofLine_53
      · refine sw_aloadn (pc := 28) 0 0 C dX10_ofLine_28 rfl ?_
        refine sw_getR (pc := 29) C kfX10_37 sh37 ff10_14 dX10_ofLine_29 ?_
        refine sw_iloadn (pc := 32) 1 1 C dX10_ofLine_32 rfl ?_
        refine sw_iald (pc := 33) C sh47 dX10_ofLine_33 ?_
        refine sw_goto (pc := 34) 53 C dX10_ofLine_34 (by decide) ?_
        exact sw_reti (pc := 53) C M dX10_ofLine_53
    · refine sw_aloadn (pc := 14) 0 0 C dX10_ofLine_14 rfl ?_
      refine sw_getR (pc := 15) C kfX10_34 sh37 ff10_13 dX10_ofLine_15 ?_
      refine sw_iloadn (pc := 18) 1 1 C dX10_ofLine_18 rfl ?_
      refine sw_iald (pc := 19) C sh46 dX10_ofLine_19 ?_
      refine sw_goto (pc := 20) 53 C dX10_ofLine_20 (by decide) ?_
      exact sw_reti (pc := 53) C M dX10_ofLine_53
  · refine sw_iconst (pc := 8) (v := (-1)) C dX10_ofLine_8 (by decide) ?_
    exact sw_reti (pc := 9) C M dX10_ofLine_9
set_option maxRecDepth 100000 in
set_option maxHeartbeats 4000000 in
theorem mX10_hand   (a0 : Int32) (a1 : Int32) (a2 : Int32) : sw_Ki yX10_hand cX10_hand 4 (some .int) 2 (fun ad => [.ref (ad 37), .int a0, .int a1, .int a2]) (fX10_hand a0 a1 a2) := by
  refine sw_enteri (by decide) (fun ad => Nat.le_of_ble_eq_true rfl) (fun X ad t σ C hn M => ?_)
  change sw_J X ad t 0 [(0, .ref (ad 37)), (1, .int a0), (2, .int a1), (3, .int a2)] [] σ _
  replace C : sw_C X ad cX10_hand RX10 2 := C
  unfold fX10_hand
  refine sw_iloadn (pc := 0) 1 1 C dX10_hand_0 rfl ?_
  refine sw_i2l (pc := 1) C dX10_hand_1 ?_
  refine sw_ldc2 (pc := 2) C dX10_hand_2 klX10_183 ?_
  refine sw_ldc2 (pc := 5) C dX10_hand_5 klX10_122 ?_
  refine sw_callSi (pc := 8) C (mX10_in (Int32.toInt64 a0) (-9 : Int64) (9 : Int64)) sgX10_in mlX10_105 dX10_hand_8 (by decide) [.long (Int32.toInt64 a0), .long (-9 : Int64), .long (9 : Int64)] [] rfl rfl rfl (Nat.le_of_ble_eq_true rfl) (fun r1 σ2 => ?_)
  refine sw_if_eq (pc := 11) 38 C dX10_hand_11 (by decide) ?_ ?_
  · refine sw_bipush (pc := 38) (v := (-2)) C dX10_hand_38 (by decide) ?_
    exact sw_reti (pc := 40) C M dX10_hand_40
  · refine sw_iloadn (pc := 14) 2 2 C dX10_hand_14 rfl ?_
    refine sw_i2l (pc := 15) C dX10_hand_15 ?_
    refine sw_lconst (pc := 16) (v := 0) C dX10_hand_16 (by decide) ?_
    refine sw_ldc2 (pc := 17) C dX10_hand_17 klX10_122 ?_
    refine sw_callSi (pc := 20) C (mX10_in (Int32.toInt64 a1) (0 : Int64) (9 : Int64)) sgX10_in mlX10_105 dX10_hand_20 (by decide) [.long (Int32.toInt64 a1), .long (0 : Int64), .long (9 : Int64)] [] rfl rfl rfl (Nat.le_of_ble_eq_true rfl) (fun r3 σ4 => ?_)
    refine sw_if_eq (pc := 23) 38 C dX10_hand_23 (by decide) ?_ ?_
    · refine sw_bipush (pc := 38) (v := (-2)) C dX10_hand_38 (by decide) ?_
      exact sw_reti (pc := 40) C M dX10_hand_40
    · refine sw_iloadn (pc := 26) 3 3 C dX10_hand_26 rfl ?_
      refine sw_i2l (pc := 27) C dX10_hand_27 ?_
      refine sw_lconst (pc := 28) (v := 0) C dX10_hand_28 (by decide) ?_
      refine sw_ldc2 (pc := 29) C dX10_hand_29 klX10_185 ?_
      refine sw_callSi (pc := 32) C (mX10_in (Int32.toInt64 a2) (0 : Int64) (5 : Int64)) sgX10_in mlX10_105 dX10_hand_32 (by decide) [.long (Int32.toInt64 a2), .long (0 : Int64), .long (5 : Int64)] [] rfl rfl rfl (Nat.le_of_ble_eq_true rfl) (fun r5 σ6 => ?_)
      refine sw_if_ne (pc := 35) 41 C dX10_hand_35 (by decide) ?_ ?_
      · refine sw_aloadn (pc := 41) 0 0 C dX10_hand_41 rfl ?_
        refine sw_iloadn (pc := 42) 1 1 C dX10_hand_42 rfl ?_
        refine sw_putL (pc := 43) C kpX10_187 sh37 ff10_16 dX10_hand_43 (fun σ7 => ?_)
        refine sw_aloadn (pc := 46) 0 0 C dX10_hand_46 rfl ?_
        refine sw_iloadn (pc := 47) 2 2 C dX10_hand_47 rfl ?_
        refine sw_putL (pc := 48) C kpX10_190 sh37 ff10_17 dX10_hand_48 (fun σ8 => ?_)
        refine sw_aloadn (pc := 51) 0 0 C dX10_hand_51 rfl ?_
        refine sw_iloadn (pc := 52) 3 3 C dX10_hand_52 rfl ?_
        refine sw_putL (pc := 53) C kpX10_193 sh37 ff10_18 dX10_hand_53 (fun σ9 => ?_)
        refine sw_iconst (pc := 56) (v := 1) C dX10_hand_56 (by decide) ?_
        exact sw_reti (pc := 57) C M dX10_hand_57
      · refine sw_bipush (pc := 38) (v := (-2)) C dX10_hand_38 (by decide) ?_
        exact sw_reti (pc := 40) C M dX10_hand_40
set_option maxRecDepth 100000 in
set_option maxHeartbeats 4000000 in
theorem mX10_ofHand   (a0 : Int32) : sw_Ki yX10_ofHand cX10_ofHand 2 (some .int) 1 (fun ad => [.ref (ad 37), .int a0]) (fX10_ofHand a0) := by
  refine sw_enteri (by decide) (fun ad => Nat.le_of_ble_eq_true rfl) (fun X ad t σ C hn M => ?_)
  change sw_J X ad t 0 [(0, .ref (ad 37)), (1, .int a0)] [] σ _
  replace C : sw_C X ad cX10_ofHand RX10 1 := C
  unfold fX10_ofHand
  refine sw_iloadn (pc := 0) 1 1 C dX10_ofHand_0 rfl ?_
  refine sw_if_ne (pc := 1) 11 C dX10_ofHand_1 (by decide) ?_ ?_
  · refine sw_iloadn (pc := 11) 1 1 C dX10_ofHand_11 rfl ?_
    refine sw_iconst (pc := 12) (v := 1) C dX10_ofHand_12 (by decide) ?_
    refine sw_icmp_ne (pc := 13) 23 C dX10_ofHand_13 (by decide) ?_ ?_
    · refine sw_iloadn (pc := 23) 1 1 C dX10_ofHand_23 rfl ?_
      refine sw_iconst (pc := 24) (v := 2) C dX10_ofHand_24 (by decide) ?_
      refine sw_icmp_ne (pc := 25) 35 C dX10_ofHand_25 (by decide) ?_ ?_
      · refine sw_bipush (pc := 35) (v := (-2)) C dX10_ofHand_35 (by decide) ?_
        exact sw_reti (pc := 37) C M dX10_ofHand_37
      · refine sw_aloadn (pc := 28) 0 0 C dX10_ofHand_28 rfl ?_
        refine sw_getI (pc := 29) C kfX10_193 sh37 ff10_18 dX10_ofHand_29 ?_
        refine sw_goto (pc := 32) 37 C dX10_ofHand_32 (by decide) ?_
        exact sw_reti (pc := 37) C M dX10_ofHand_37
    · refine sw_aloadn (pc := 16) 0 0 C dX10_ofHand_16 rfl ?_
      refine sw_getI (pc := 17) C kfX10_190 sh37 ff10_17 dX10_ofHand_17 ?_
      refine sw_goto (pc := 20) 37 C dX10_ofHand_20 (by decide) ?_
      exact sw_reti (pc := 37) C M dX10_ofHand_37
  · refine sw_aloadn (pc := 4) 0 0 C dX10_ofHand_4 rfl ?_
    refine sw_getI (pc := 5) C kfX10_187 sh37 ff10_16 dX10_ofHand_5 ?_
    refine sw_goto (pc := 8) 37 C dX10_ofHand_8 (by decide) ?_
    exact sw_reti (pc := 37) C M dX10_ofHand_37
set_option maxRecDepth 100000 in
set_option maxHeartbeats 4000000 in
theorem mX10_fence   (a0 : Int32) : sw_Ki yX10_fence cX10_fence 3 (some .int) 2 (fun ad => [.ref (ad 37), .int a0]) (fX10_fence a0) := by
  refine sw_enteri (by decide) (fun ad => Nat.le_of_ble_eq_true rfl) (fun X ad t σ C hn M => ?_)
  change sw_J X ad t 0 [(0, .ref (ad 37)), (1, .int a0)] [] σ _
  replace C : sw_C X ad cX10_fence RX10 2 := C
  unfold fX10_fence
  refine sw_iloadn (pc := 0) 1 1 C dX10_fence_0 rfl ?_
  refine sw_i2l (pc := 1) C dX10_fence_1 ?_
  refine sw_lconst (pc := 2) (v := 0) C dX10_fence_2 (by decide) ?_
  refine sw_ldc2 (pc := 3) C dX10_fence_3 klX10_196 ?_
  refine sw_callSi (pc := 6) C (mX10_in (Int32.toInt64 a0) (0 : Int64) (99 : Int64)) sgX10_in mlX10_105 dX10_fence_6 (by decide) [.long (Int32.toInt64 a0), .long (0 : Int64), .long (99 : Int64)] [] rfl rfl rfl (Nat.le_of_ble_eq_true rfl) (fun r1 σ2 => ?_)
  refine sw_if_ne (pc := 9) 15 C dX10_fence_9 (by decide) ?_ ?_
  · refine sw_aloadn (pc := 15) 0 0 C dX10_fence_15 rfl ?_
    refine sw_getI (pc := 16) C kfX10_198 sh37 ff10_19 dX10_fence_16 ?_
    refine sw_leti (fun x3 => ?_)
    refine sw_istoren (pc := 19) 2 [(2, .int x3), (0, .ref (ad 37)), (1, .int a0)] C dX10_fence_19 (by rw [hn]; decide) rfl ?_
    refine sw_aloadn (pc := 20) 0 1 C dX10_fence_20 rfl ?_
    refine sw_iloadn (pc := 21) 1 2 C dX10_fence_21 rfl ?_
    refine sw_putL (pc := 22) C kpX10_198 sh37 ff10_19 dX10_fence_22 (fun σ4 => ?_)
    refine sw_iloadn (pc := 25) 2 0 C dX10_fence_25 rfl ?_
    exact sw_reti (pc := 26) C M dX10_fence_26
  · refine sw_bipush (pc := 12) (v := (-2)) C dX10_fence_12 (by decide) ?_
    exact sw_reti (pc := 14) C M dX10_fence_14
set_option maxRecDepth 100000 in
set_option maxHeartbeats 4000000 in
theorem jX10_cut_B196 {X : sw_X} {ad : Nat → Nat} {t : Unit × sw_St} (C : sw_C X ad cX10_cut RX10 4) (hn : sw_nL X = 8) (M : sw_Mv X ad none t)   {K28 : Int32 → Int32 → Int32 → Int32 → Int32 → sw_St → Option (Unit × sw_St)} (hK28 : ∀ (z1 : Int32) (z2 : Int32) (z3 : Int32) (z4 : Int32) (z5 : Int32) (τ : sw_St), sw_J X ad t 28 [(0, .ref (ad 37)), (1, .int z1), (2, .int z2), (3, .int z3), (4, .int z4), (5, .int z5)] [] τ (K28 z1 z2 z3 z4 z5 τ)) (v1 : Int32) (v2 : Int32) (v3 : Int32) (v4 : Int32) (v5 : Int32) (σ : sw_St) : sw_J X ad t 196 [(0, .ref (ad 37)), (1, .int v1), (2, .int v2), (3, .int v3), (4, .int v4), (5, .int v5)] [] σ (fX10_cut_B196 K28 v1 v2 v3 v4 v5 σ) := by
  unfold fX10_cut_B196
  refine sw_aloadn (pc := 196) 0 0 C dX10_cut_196 rfl ?_
  refine sw_getR (pc := 197) C kfX10_43 sh37 ff10_21 dX10_cut_197 ?_
  refine sw_iload (pc := 200) 5 C dX10_cut_200 rfl ?_
  refine sw_iloadn (pc := 202) 3 3 C dX10_cut_202 rfl ?_
  refine sw_iastL (pc := 203) C sh49 dX10_cut_203 (fun σ12 => ?_)
  refine sw_aloadn (pc := 204) 0 0 C dX10_cut_204 rfl ?_
  refine sw_getR (pc := 205) C kfX10_46 sh37 ff10_22 dX10_cut_205 ?_
  refine sw_iload (pc := 208) 5 C dX10_cut_208 rfl ?_
  refine sw_iload (pc := 210) 4 C dX10_cut_210 rfl ?_
  refine sw_iastL (pc := 212) C sh50 dX10_cut_212 (fun σ13 => ?_)
  refine sw_aloadn (pc := 213) 0 0 C dX10_cut_213 rfl ?_
  refine sw_aloadn (pc := 214) 0 0 C dX10_cut_214 rfl ?_
  refine sw_getI (pc := 215) C kfX10_204 sh37 ff10_23 dX10_cut_215 ?_
  refine sw_iloadn (pc := 218) 3 3 C dX10_cut_218 rfl ?_
  refine sw_callSi (pc := 219) C (mX10_size v3) sgX10_size mlX10_207 dX10_cut_219 (by decide) [.int v3] [.int (σ13 37 23), .ref (ad 37)] rfl rfl rfl (Nat.le_of_ble_eq_true rfl) (fun r14 σ15 => ?_)
  refine sw_callSi (pc := 222) C (mX10_greater (σ13 37 23) r14) sgX10_greater mlX10_161 dX10_cut_222 (by decide) [.int (σ13 37 23), .int r14] [.ref (ad 37)] rfl rfl rfl (Nat.le_of_ble_eq_true rfl) (fun r16 σ17 => ?_)
  refine sw_putL (pc := 225) C kpX10_204 sh37 ff10_23 dX10_cut_225 (fun σ18 => ?_)
  refine sw_aloadn (pc := 228) 0 0 C dX10_cut_228 rfl ?_
  refine sw_dup (pc := 229) C dX10_cut_229 rfl ?_
  refine sw_getI (pc := 230) C kfX10_201 sh37 ff10_20 dX10_cut_230 ?_
  refine sw_iconst (pc := 233) (v := 1) C dX10_cut_233 (by decide) ?_
  refine sw_iadd (pc := 234) C dX10_cut_234 ?_
  refine sw_putL (pc := 235) C kpX10_201 sh37 ff10_20 dX10_cut_235 (fun σ19 => ?_)
  refine sw_iinc (pc := 238) (v5 + 1) 5 [(5, .int (v5 + 1)), (0, .ref (ad 37)), (1, .int v1), (2, .int v2), (3, .int v3), (4, .int v4)] C dX10_cut_238 (by rw [hn]; decide) rfl rfl rfl ?_
  refine sw_goto (pc := 241) 28 C dX10_cut_241 (by decide) ?_
  refine sw_lpick (pc := 28) (L' := [(0, .ref (ad 37)), (1, .int v1), (2, .int v2), (3, .int v3), (4, .int v4), (5, .int (v5 + 1))]) [1, 2, 3, 4, 5, 0] rfl ?_
  exact hK28 _ _ _ _ _ _
set_option maxRecDepth 100000 in
set_option maxHeartbeats 4000000 in
theorem jX10_cut_B192 {X : sw_X} {ad : Nat → Nat} {t : Unit × sw_St} (C : sw_C X ad cX10_cut RX10 4) (hn : sw_nL X = 8) (M : sw_Mv X ad none t)   {K28 : Int32 → Int32 → Int32 → Int32 → Int32 → sw_St → Option (Unit × sw_St)} (hK28 : ∀ (z1 : Int32) (z2 : Int32) (z3 : Int32) (z4 : Int32) (z5 : Int32) (τ : sw_St), sw_J X ad t 28 [(0, .ref (ad 37)), (1, .int z1), (2, .int z2), (3, .int z3), (4, .int z4), (5, .int z5)] [] τ (K28 z1 z2 z3 z4 z5 τ)) (v1 : Int32) (v2 : Int32) (v5 : Int32) (s0 : Int32) (σ : sw_St) : sw_J X ad t 192 [(0, .ref (ad 37)), (1, .int v1), (2, .int v2), (5, .int v5)] [.int s0] σ (fX10_cut_B192 K28 v1 v2 v5 s0 σ) := by
  unfold fX10_cut_B192
  refine sw_istoren (pc := 192) 3 [(3, .int s0), (0, .ref (ad 37)), (1, .int v1), (2, .int v2), (5, .int v5)] C dX10_cut_192 (by rw [hn]; decide) rfl ?_
  refine sw_iconst (pc := 193) (v := 0) C dX10_cut_193 (by decide) ?_
  refine sw_istore (pc := 194) [(4, .int 0), (3, .int s0), (0, .ref (ad 37)), (1, .int v1), (2, .int v2), (5, .int v5)] C dX10_cut_194 (by rw [hn]; decide) rfl ?_
  refine sw_lpick (pc := 196) (L' := [(0, .ref (ad 37)), (1, .int v1), (2, .int v2), (3, .int s0), (4, .int 0), (5, .int v5)]) [2, 3, 4, 1, 0, 5] rfl ?_
  exact jX10_cut_B196 C hn M hK28 _ _ _ _ _ _
set_option maxRecDepth 100000 in
set_option maxHeartbeats 4000000 in
theorem jX10_cut_B151 {X : sw_X} {ad : Nat → Nat} {t : Unit × sw_St} (C : sw_C X ad cX10_cut RX10 4) (hn : sw_nL X = 8) (M : sw_Mv X ad none t)   {K28 : Int32 → Int32 → Int32 → Int32 → Int32 → sw_St → Option (Unit × sw_St)} (hK28 : ∀ (z1 : Int32) (z2 : Int32) (z3 : Int32) (z4 : Int32) (z5 : Int32) (τ : sw_St), sw_J X ad t 28 [(0, .ref (ad 37)), (1, .int z1), (2, .int z2), (3, .int z3), (4, .int z4), (5, .int z5)] [] τ (K28 z1 z2 z3 z4 z5 τ)) (v1 : Int32) (v2 : Int32) (v3 : Int32) (v5 : Int32) (s0 : Int32) (σ : sw_St) : sw_J X ad t 151 [(0, .ref (ad 37)), (1, .int v1), (2, .int v2), (3, .int v3), (5, .int v5)] [.int s0] σ (fX10_cut_B151 K28 v1 v2 v3 v5 s0 σ) := by
  unfold fX10_cut_B151
  refine sw_istore (pc := 151) [(4, .int s0), (0, .ref (ad 37)), (1, .int v1), (2, .int v2), (3, .int v3), (5, .int v5)] C dX10_cut_151 (by rw [hn]; decide) rfl ?_
  refine sw_iloadn (pc := 153) 3 4 C dX10_cut_153 rfl ?_
  refine sw_iload (pc := 154) 0 C dX10_cut_154 rfl ?_
  refine sw_iadd (pc := 156) C dX10_cut_156 ?_
  refine sw_leti (fun x9 => ?_)
  refine sw_istoren (pc := 157) 3 [(3, .int x9), (4, .int s0), (0, .ref (ad 37)), (1, .int v1), (2, .int v2), (5, .int v5)] C dX10_cut_157 (by rw [hn]; decide) rfl ?_
  refine sw_aloadn (pc := 158) 0 2 C dX10_cut_158 rfl ?_
  refine sw_getI (pc := 159) C kfX10_198 sh37 ff10_19 dX10_cut_159 ?_
  refine sw_if_le (pc := 162) 196 C dX10_cut_162 (by decide) ?_ ?_
  · refine sw_lpick (pc := 196) (L' := [(0, .ref (ad 37)), (1, .int v1), (2, .int v2), (3, .int x9), (4, .int s0), (5, .int v5)]) [2, 3, 4, 0, 1, 5] rfl ?_
    exact jX10_cut_B196 C hn M hK28 _ _ _ _ _ _
  · refine sw_iloadn (pc := 165) 3 0 C dX10_cut_165 rfl ?_
    refine sw_callSi (pc := 166) C (mX10_size x9) sgX10_size mlX10_207 dX10_cut_166 (by decide) [.int x9] [] rfl rfl rfl (Nat.le_of_ble_eq_true rfl) (fun r10 σ11 => ?_)
    refine sw_aloadn (pc := 169) 0 2 C dX10_cut_169 rfl ?_
    refine sw_getI (pc := 170) C kfX10_198 sh37 ff10_19 dX10_cut_170 ?_
    refine sw_icmp_le (pc := 173) 196 C dX10_cut_173 (by decide) ?_ ?_
    · refine sw_lpick (pc := 196) (L' := [(0, .ref (ad 37)), (1, .int v1), (2, .int v2), (3, .int x9), (4, .int s0), (5, .int v5)]) [2, 3, 4, 0, 1, 5] rfl ?_
      exact jX10_cut_B196 C hn M hK28 _ _ _ _ _ _
    · refine sw_iloadn (pc := 176) 3 0 C dX10_cut_176 rfl ?_
      refine sw_if_le (pc := 177) 187 C dX10_cut_177 (by decide) ?_ ?_
      · refine sw_aloadn (pc := 187) 0 2 C dX10_cut_187 rfl ?_
        refine sw_getI (pc := 188) C kfX10_198 sh37 ff10_19 dX10_cut_188 ?_
        refine sw_ineg (pc := 191) C dX10_cut_191 ?_
        refine sw_lpick (pc := 192) (L' := [(0, .ref (ad 37)), (1, .int v1), (2, .int v2), (5, .int v5)]) [2, 3, 4, 5] rfl ?_
        exact jX10_cut_B192 C hn M hK28 _ _ _ _ _
      · refine sw_aloadn (pc := 180) 0 2 C dX10_cut_180 rfl ?_
        refine sw_getI (pc := 181) C kfX10_198 sh37 ff10_19 dX10_cut_181 ?_
        refine sw_goto (pc := 184) 192 C dX10_cut_184 (by decide) ?_
        refine sw_lpick (pc := 192) (L' := [(0, .ref (ad 37)), (1, .int v1), (2, .int v2), (5, .int v5)]) [2, 3, 4, 5] rfl ?_
        exact jX10_cut_B192 C hn M hK28 _ _ _ _ _
set_option maxRecDepth 100000 in
set_option maxHeartbeats 4000000 in
theorem jX10_cut_B82 {X : sw_X} {ad : Nat → Nat} {t : Unit × sw_St} (C : sw_C X ad cX10_cut RX10 4) (hn : sw_nL X = 8) (M : sw_Mv X ad none t)   {K28 : Int32 → Int32 → Int32 → Int32 → Int32 → sw_St → Option (Unit × sw_St)} (hK28 : ∀ (z1 : Int32) (z2 : Int32) (z3 : Int32) (z4 : Int32) (z5 : Int32) (τ : sw_St), sw_J X ad t 28 [(0, .ref (ad 37)), (1, .int z1), (2, .int z2), (3, .int z3), (4, .int z4), (5, .int z5)] [] τ (K28 z1 z2 z3 z4 z5 τ)) (v1 : Int32) (v2 : Int32) (v3 : Int32) (v4 : Int32) (v5 : Int32) (s0 : Int32) (σ : sw_St) : sw_J X ad t 82 [(0, .ref (ad 37)), (1, .int v1), (2, .int v2), (3, .int v3), (4, .int v4), (5, .int v5)] [.int s0] σ (fX10_cut_B82 K28 v1 v2 v3 v4 v5 s0 σ) := by
  unfold fX10_cut_B82
  refine sw_istore (pc := 82) [(7, .int s0), (0, .ref (ad 37)), (1, .int v1), (2, .int v2), (3, .int v3), (4, .int v4), (5, .int v5)] C dX10_cut_82 (by rw [hn]; decide) rfl ?_
  refine sw_iload (pc := 84) 5 C dX10_cut_84 rfl ?_
  refine sw_iloadn (pc := 86) 1 2 C dX10_cut_86 rfl ?_
  refine sw_bipush (pc := 87) (v := 10) C dX10_cut_87 (by decide) ?_
  refine sw_aloadn (pc := 89) 0 1 C dX10_cut_89 rfl ?_
  refine sw_getR (pc := 90) C kfX10_34 sh37 ff10_13 dX10_cut_90 ?_
  refine sw_iload (pc := 93) 6 C dX10_cut_93 rfl ?_
  refine sw_iald (pc := 95) C sh46 dX10_cut_95 ?_
  refine sw_imul (pc := 96) C dX10_cut_96 ?_
  refine sw_idiv (pc := 97) C dX10_cut_97 ?_
  refine sw_aloadn (pc := 98) 0 1 C dX10_cut_98 rfl ?_
  refine sw_getR (pc := 99) C kfX10_37 sh37 ff10_14 dX10_cut_99 ?_
  refine sw_iload (pc := 102) 6 C dX10_cut_102 rfl ?_
  refine sw_iald (pc := 104) C sh47 dX10_cut_104 ?_
  refine sw_iadd (pc := 105) C dX10_cut_105 ?_
  refine sw_aloadn (pc := 106) 0 1 C dX10_cut_106 rfl ?_
  refine sw_getI (pc := 107) C kfX10_187 sh37 ff10_16 dX10_cut_107 ?_
  refine sw_iadd (pc := 110) C dX10_cut_110 ?_
  refine sw_aloadn (pc := 111) 0 1 C dX10_cut_111 rfl ?_
  refine sw_getI (pc := 112) C kfX10_190 sh37 ff10_17 dX10_cut_112 ?_
  refine sw_iload (pc := 115) 0 C dX10_cut_115 rfl ?_
  refine sw_imul (pc := 117) C dX10_cut_117 ?_
  refine sw_bipush (pc := 118) (v := 8) C dX10_cut_118 (by decide) ?_
  refine sw_idivc (pc := 120) C dX10_cut_120 (by decide) ?_
  refine sw_isub (pc := 121) C dX10_cut_121 ?_
  refine sw_iadd (pc := 122) C dX10_cut_122 ?_
  refine sw_leti (fun x8 => ?_)
  refine sw_istore (pc := 123) [(4, .int x8), (7, .int s0), (0, .ref (ad 37)), (1, .int v1), (2, .int v2), (3, .int v3), (5, .int v5)] C dX10_cut_123 (by rw [hn]; decide) rfl ?_
  refine sw_iload (pc := 125) 0 C dX10_cut_125 rfl ?_
  refine sw_bipush (pc := 127) (v := 99) C dX10_cut_127 (by decide) ?_
  refine sw_icmp_le (pc := 129) 137 C dX10_cut_129 (by decide) ?_ ?_
  · refine sw_iload (pc := 137) 0 C dX10_cut_137 rfl ?_
    refine sw_bipush (pc := 139) (v := (-99)) C dX10_cut_139 (by decide) ?_
    refine sw_icmp_ge (pc := 141) 149 C dX10_cut_141 (by decide) ?_ ?_
    · refine sw_iload (pc := 149) 0 C dX10_cut_149 rfl ?_
      refine sw_lpick (pc := 151) (L' := [(0, .ref (ad 37)), (1, .int v1), (2, .int v2), (3, .int v3), (5, .int v5)]) [2, 3, 4, 5, 6] rfl ?_
      exact jX10_cut_B151 C hn M hK28 _ _ _ _ _ _
    · refine sw_bipush (pc := 144) (v := (-99)) C dX10_cut_144 (by decide) ?_
      refine sw_goto (pc := 146) 151 C dX10_cut_146 (by decide) ?_
      refine sw_lpick (pc := 151) (L' := [(0, .ref (ad 37)), (1, .int v1), (2, .int v2), (3, .int v3), (5, .int v5)]) [2, 3, 4, 5, 6] rfl ?_
      exact jX10_cut_B151 C hn M hK28 _ _ _ _ _ _
  · refine sw_bipush (pc := 132) (v := 99) C dX10_cut_132 (by decide) ?_
    refine sw_goto (pc := 134) 151 C dX10_cut_134 (by decide) ?_
    refine sw_lpick (pc := 151) (L' := [(0, .ref (ad 37)), (1, .int v1), (2, .int v2), (3, .int v3), (5, .int v5)]) [2, 3, 4, 5, 6] rfl ?_
    exact jX10_cut_B151 C hn M hK28 _ _ _ _ _ _
set_option maxRecDepth 100000 in
set_option maxHeartbeats 4000000 in
theorem jX10_cut_L28 {X : sw_X} {ad : Nat → Nat} {t : Unit × sw_St} (C : sw_C X ad cX10_cut RX10 4) (hn : sw_nL X = 8) (M : sw_Mv X ad none t)   : ∀ (n : Nat) (v1 : Int32) (v2 : Int32) (v3 : Int32) (v4 : Int32) (v5 : Int32) (σ : sw_St), sw_J X ad t 28 [(0, .ref (ad 37)), (1, .int v1), (2, .int v2), (3, .int v3), (4, .int v4), (5, .int v5)] [] σ (fX10_cut_L28  n v1 v2 v3 v4 v5 σ) := by
  intro n
  induction n with
  | zero => exact fun _ _ _ _ _ _ => sw_none
  | succ n ih =>
    intro v1 v2 v3 v4 v5 σ
    unfold fX10_cut_L28
    refine sw_iload (pc := 28) 5 C dX10_cut_28 rfl ?_
    refine sw_aloadn (pc := 30) 0 0 C dX10_cut_30 rfl ?_
    refine sw_getI (pc := 31) C kfX10_172 sh37 ff10_12 dX10_cut_31 ?_
    refine sw_icmp_ge (pc := 34) 244 C dX10_cut_34 (by decide) ?_ ?_
    · exact sw_retv (pc := 244) C M dX10_cut_244
    · refine sw_aloadn (pc := 37) 0 0 C dX10_cut_37 rfl ?_
      refine sw_getI (pc := 38) C kfX10_116 sh37 ff10_1 dX10_cut_38 ?_
      refine sw_if_le (pc := 41) 244 C dX10_cut_41 (by decide) ?_ ?_
      · exact sw_retv (pc := 244) C M dX10_cut_244
      · refine sw_aloadn (pc := 44) 0 0 C dX10_cut_44 rfl ?_
        refine sw_getR (pc := 45) C kfX10_40 sh37 ff10_15 dX10_cut_45 ?_
        refine sw_iload (pc := 48) 5 C dX10_cut_48 rfl ?_
        refine sw_iald (pc := 50) C sh48 dX10_cut_50 ?_
        refine sw_iloadn (pc := 51) 2 2 C dX10_cut_51 rfl ?_
        refine sw_icmp_gt (pc := 52) 244 C dX10_cut_52 (by decide) ?_ ?_
        · exact sw_retv (pc := 244) C M dX10_cut_244
        · refine sw_iload (pc := 55) 5 C dX10_cut_55 rfl ?_
          refine sw_iconst (pc := 57) (v := 1) C dX10_cut_57 (by decide) ?_
          refine sw_isub (pc := 58) C dX10_cut_58 ?_
          refine sw_aloadn (pc := 59) 0 0 C dX10_cut_59 rfl ?_
          refine sw_getI (pc := 60) C kfX10_193 sh37 ff10_18 dX10_cut_60 ?_
          refine sw_isub (pc := 63) C dX10_cut_63 ?_
          refine sw_leti (fun x7 => ?_)
          refine sw_istore (pc := 64) [(6, .int x7), (0, .ref (ad 37)), (1, .int v1), (2, .int v2), (3, .int v3), (4, .int v4), (5, .int v5)] C dX10_cut_64 (by rw [hn]; decide) rfl ?_
          refine sw_iload (pc := 66) 0 C dX10_cut_66 rfl ?_
          refine sw_if_ge (pc := 68) 75 C dX10_cut_68 (by decide) ?_ ?_
          · refine sw_aloadn (pc := 75) 0 1 C dX10_cut_75 rfl ?_
            refine sw_getR (pc := 76) C kfX10_43 sh37 ff10_21 dX10_cut_76 ?_
            refine sw_iload (pc := 79) 0 C dX10_cut_79 rfl ?_
            refine sw_iald (pc := 81) C sh49 dX10_cut_81 ?_
            refine sw_lpick (pc := 82) (L' := [(0, .ref (ad 37)), (1, .int v1), (2, .int v2), (3, .int v3), (4, .int v4), (5, .int v5)]) [1, 2, 3, 4, 5, 6] rfl ?_
            exact jX10_cut_B82 C hn M ih _ _ _ _ _ _ _
          · refine sw_iconst (pc := 71) (v := 0) C dX10_cut_71 (by decide) ?_
            refine sw_goto (pc := 72) 82 C dX10_cut_72 (by decide) ?_
            refine sw_lpick (pc := 82) (L' := [(0, .ref (ad 37)), (1, .int v1), (2, .int v2), (3, .int v3), (4, .int v4), (5, .int v5)]) [1, 2, 3, 4, 5, 6] rfl ?_
            exact jX10_cut_B82 C hn M ih _ _ _ _ _ _ _
set_option maxRecDepth 100000 in
set_option maxHeartbeats 4000000 in
theorem mX10_cut    : sw_Kv yX10_cut cX10_cut 8 none 4 (fun ad => [.ref (ad 37)]) fX10_cut := by
  refine sw_enterv (by decide) (fun ad => Nat.le_of_ble_eq_true rfl) (fun X ad t σ C hn M => ?_)
  change sw_J X ad t 0 [(0, .ref (ad 37))] [] σ _
  replace C : sw_C X ad cX10_cut RX10 4 := C
  unfold fX10_cut
  refine sw_aloadn (pc := 0) 0 0 C dX10_cut_0 rfl ?_
  refine sw_callVi (pc := 1) C mX10_pushNow sgX10_pushNow mlX10_165 dX10_cut_1 (by decide) [] [] sh37 rfl rfl rfl rfl (Nat.le_of_ble_eq_true rfl) (fun r1 σ2 => ?_)
  refine sw_istoren (pc := 4) 1 [(1, .int r1), (0, .ref (ad 37))] C dX10_cut_4 (by rw [hn]; decide) rfl ?_
  refine sw_aloadn (pc := 5) 0 1 C dX10_cut_5 rfl ?_
  refine sw_callVi (pc := 6) C mX10_kerfNow sgX10_kerfNow mlX10_169 dX10_cut_6 (by decide) [] [] sh37 rfl rfl rfl rfl (Nat.le_of_ble_eq_true rfl) (fun r3 σ4 => ?_)
  refine sw_istoren (pc := 9) 2 [(2, .int r3), (1, .int r1), (0, .ref (ad 37))] C dX10_cut_9 (by rw [hn]; decide) rfl ?_
  refine sw_iconst (pc := 10) (v := 0) C dX10_cut_10 (by decide) ?_
  refine sw_istoren (pc := 11) 3 [(3, .int 0), (2, .int r3), (1, .int r1), (0, .ref (ad 37))] C dX10_cut_11 (by rw [hn]; decide) rfl ?_
  refine sw_iconst (pc := 12) (v := 0) C dX10_cut_12 (by decide) ?_
  refine sw_istore (pc := 13) [(4, .int 0), (3, .int 0), (2, .int r3), (1, .int r1), (0, .ref (ad 37))] C dX10_cut_13 (by rw [hn]; decide) rfl ?_
  refine sw_aloadn (pc := 15) 0 4 C dX10_cut_15 rfl ?_
  refine sw_iconst (pc := 16) (v := 0) C dX10_cut_16 (by decide) ?_
  refine sw_putL (pc := 17) C kpX10_201 sh37 ff10_20 dX10_cut_17 (fun σ5 => ?_)
  refine sw_aloadn (pc := 20) 0 4 C dX10_cut_20 rfl ?_
  refine sw_iconst (pc := 21) (v := 0) C dX10_cut_21 (by decide) ?_
  refine sw_putL (pc := 22) C kpX10_204 sh37 ff10_23 dX10_cut_22 (fun σ6 => ?_)
  refine sw_iconst (pc := 25) (v := 0) C dX10_cut_25 (by decide) ?_
  refine sw_istore (pc := 26) [(5, .int 0), (4, .int 0), (3, .int 0), (2, .int r3), (1, .int r1), (0, .ref (ad 37))] C dX10_cut_26 (by rw [hn]; decide) rfl ?_
  refine sw_lpick (pc := 28) (L' := [(0, .ref (ad 37)), (1, .int r1), (2, .int r3), (3, .int 0), (4, .int 0), (5, .int 0)]) [5, 4, 3, 2, 1, 0] rfl ?_
  exact jX10_cut_L28 C hn M  _ _ _ _ _ _ _
set_option maxRecDepth 100000 in
set_option maxHeartbeats 4000000 in
theorem mX10_isBare    : sw_Ki yX10_isBare cX10_isBare 1 (some .boolean) 1 (fun ad => [.ref (ad 37)]) fX10_isBare := by
  refine sw_enteri (by decide) (fun ad => Nat.le_of_ble_eq_true rfl) (fun X ad t σ C hn M => ?_)
  change sw_J X ad t 0 [(0, .ref (ad 37))] [] σ _
  replace C : sw_C X ad cX10_isBare RX10 1 := C
  unfold fX10_isBare
  refine sw_aloadn (pc := 0) 0 0 C dX10_isBare_0 rfl ?_
  refine sw_getI (pc := 1) C kfX10_116 sh37 ff10_1 dX10_isBare_1 ?_
  refine sw_if_eq (pc := 4) 14 C dX10_isBare_4 (by decide) ?_ ?_
  · refine sw_iconst (pc := 14) (v := 1) C dX10_isBare_14 (by decide) ?_
    refine sw_goto (pc := 15) 19 C dX10_isBare_15 (by decide) ?_
    exact sw_retiz (pc := 19) rfl C M dX10_isBare_19
  · refine sw_aloadn (pc := 7) 0 0 C dX10_isBare_7 rfl ?_
    refine sw_getI (pc := 8) C kfX10_172 sh37 ff10_12 dX10_isBare_8 ?_
    refine sw_if_ne (pc := 11) 18 C dX10_isBare_11 (by decide) ?_ ?_
    · refine sw_iconst (pc := 18) (v := 0) C dX10_isBare_18 (by decide) ?_
      exact sw_retiz (pc := 19) rfl C M dX10_isBare_19
    · refine sw_iconst (pc := 14) (v := 1) C dX10_isBare_14 (by decide) ?_
      refine sw_goto (pc := 15) 19 C dX10_isBare_15 (by decide) ?_
      exact sw_retiz (pc := 19) rfl C M dX10_isBare_19
set_option maxRecDepth 100000 in
set_option maxHeartbeats 4000000 in
theorem mX10_isUncut   (a0 : Int32) : sw_Ki yX10_isUncut cX10_isUncut 2 (some .boolean) 5 (fun ad => [.ref (ad 37), .int a0]) (fX10_isUncut a0) := by
  refine sw_enteri (by decide) (fun ad => Nat.le_of_ble_eq_true rfl) (fun X ad t σ C hn M => ?_)
  change sw_J X ad t 0 [(0, .ref (ad 37)), (1, .int a0)] [] σ _
  replace C : sw_C X ad cX10_isUncut RX10 5 := C
  unfold fX10_isUncut
  refine sw_aloadn (pc := 0) 0 0 C dX10_isUncut_0 rfl ?_
  refine sw_callVv (pc := 1) C mX10_cut sgX10_cut mlX10_210 dX10_isUncut_1 (by decide) [] [] sh37 rfl rfl rfl rfl (Nat.le_of_ble_eq_true rfl) (fun r1 σ2 => ?_)
  refine sw_iloadn (pc := 4) 1 1 C dX10_isUncut_4 rfl ?_
  refine sw_aloadn (pc := 5) 0 0 C dX10_isUncut_5 rfl ?_
  refine sw_getI (pc := 6) C kfX10_201 sh37 ff10_20 dX10_isUncut_6 ?_
  refine sw_icmp_lt (pc := 9) 16 C dX10_isUncut_9 (by decide) ?_ ?_
  · refine sw_iconst (pc := 16) (v := 0) C dX10_isUncut_16 (by decide) ?_
    exact sw_retiz (pc := 17) rfl C M dX10_isUncut_17
  · refine sw_iconst (pc := 12) (v := 1) C dX10_isUncut_12 (by decide) ?_
    refine sw_goto (pc := 13) 17 C dX10_isUncut_13 (by decide) ?_
    exact sw_retiz (pc := 17) rfl C M dX10_isUncut_17
set_option maxRecDepth 100000 in
set_option maxHeartbeats 4000000 in
theorem jX10_where_B16 {X : sw_X} {ad : Nat → Nat} {t : Int64 × sw_St} (C : sw_C X ad cX10_where RX10 6) (hn : sw_nL X = 2) (M : sw_Ml X ad (some .long) t)    (σ : sw_St) : sw_J X ad t 16 [] [] σ (fX10_where_B16   σ) := by
  unfold fX10_where_B16
  refine sw_callSl (pc := 16) C mX10_lost sgX10_lost mlX10_91 dX10_where_16 (by decide) [] [] rfl rfl rfl (Nat.le_of_ble_eq_true rfl) (fun r5 σ6 => ?_)
  refine sw_goto (pc := 19) 29 C dX10_where_19 (by decide) ?_
  exact sw_retl (pc := 29) C M dX10_where_29
set_option maxRecDepth 100000 in
set_option maxHeartbeats 4000000 in
theorem mX10_where   (a0 : Int32) : sw_Kl yX10_where cX10_where 2 (some .long) 6 (fun ad => [.ref (ad 37), .int a0]) (fX10_where a0) := by
  refine sw_enterl (by decide) (fun ad => Nat.le_of_ble_eq_true rfl) (fun X ad t σ C hn M => ?_)
  change sw_J X ad t 0 [(0, .ref (ad 37)), (1, .int a0)] [] σ _
  replace C : sw_C X ad cX10_where RX10 6 := C
  unfold fX10_where
  refine sw_aloadn (pc := 0) 0 0 C dX10_where_0 rfl ?_
  refine sw_iloadn (pc := 1) 1 1 C dX10_where_1 rfl ?_
  refine sw_callVi (pc := 2) C (mX10_noLine a0) sgX10_noLine mlX10_180 dX10_where_2 (by decide) [.int a0] [] sh37 rfl rfl rfl rfl (Nat.le_of_ble_eq_true rfl) (fun r1 σ2 => ?_)
  refine sw_if_ne (pc := 5) 16 C dX10_where_5 (by decide) ?_ ?_
  · refine sw_lpick (pc := 16) (L' := []) [] rfl ?_
    exact jX10_where_B16 C hn M  _
  · refine sw_aloadn (pc := 8) 0 0 C dX10_where_8 rfl ?_
    refine sw_iloadn (pc := 9) 1 1 C dX10_where_9 rfl ?_
    refine sw_callVi (pc := 10) C (mX10_isUncut a0) sgX10_isUncut mlX10_213 dX10_where_10 (by decide) [.int a0] [] sh37 rfl rfl rfl rfl (Nat.le_of_ble_eq_true rfl) (fun r3 σ4 => ?_)
    refine sw_if_eq (pc := 13) 22 C dX10_where_13 (by decide) ?_ ?_
    · refine sw_aloadn (pc := 22) 0 0 C dX10_where_22 rfl ?_
      refine sw_getR (pc := 23) C kfX10_43 sh37 ff10_21 dX10_where_23 ?_
      refine sw_iloadn (pc := 26) 1 1 C dX10_where_26 rfl ?_
      refine sw_iald (pc := 27) C sh49 dX10_where_27 ?_
      refine sw_i2l (pc := 28) C dX10_where_28 ?_
      exact sw_retl (pc := 29) C M dX10_where_29
    · refine sw_lpick (pc := 16) (L' := []) [] rfl ?_
      exact jX10_where_B16 C hn M  _
set_option maxRecDepth 100000 in
set_option maxHeartbeats 4000000 in
theorem jX10_heading_B16 {X : sw_X} {ad : Nat → Nat} {t : Int64 × sw_St} (C : sw_C X ad cX10_heading RX10 6) (hn : sw_nL X = 2) (M : sw_Ml X ad (some .long) t)    (σ : sw_St) : sw_J X ad t 16 [] [] σ (fX10_heading_B16   σ) := by
  unfold fX10_heading_B16
  refine sw_callSl (pc := 16) C mX10_lost sgX10_lost mlX10_91 dX10_heading_16 (by decide) [] [] rfl rfl rfl (Nat.le_of_ble_eq_true rfl) (fun r5 σ6 => ?_)
  refine sw_goto (pc := 19) 29 C dX10_heading_19 (by decide) ?_
  exact sw_retl (pc := 29) C M dX10_heading_29
set_option maxRecDepth 100000 in
set_option maxHeartbeats 4000000 in
theorem mX10_heading   (a0 : Int32) : sw_Kl yX10_heading cX10_heading 2 (some .long) 6 (fun ad => [.ref (ad 37), .int a0]) (fX10_heading a0) := by
  refine sw_enterl (by decide) (fun ad => Nat.le_of_ble_eq_true rfl) (fun X ad t σ C hn M => ?_)
  change sw_J X ad t 0 [(0, .ref (ad 37)), (1, .int a0)] [] σ _
  replace C : sw_C X ad cX10_heading RX10 6 := C
  unfold fX10_heading
  refine sw_aloadn (pc := 0) 0 0 C dX10_heading_0 rfl ?_
  refine sw_iloadn (pc := 1) 1 1 C dX10_heading_1 rfl ?_
  refine sw_callVi (pc := 2) C (mX10_noLine a0) sgX10_noLine mlX10_180 dX10_heading_2 (by decide) [.int a0] [] sh37 rfl rfl rfl rfl (Nat.le_of_ble_eq_true rfl) (fun r1 σ2 => ?_)
  refine sw_if_ne (pc := 5) 16 C dX10_heading_5 (by decide) ?_ ?_
  · refine sw_lpick (pc := 16) (L' := []) [] rfl ?_
    exact jX10_heading_B16 C hn M  _
  · refine sw_aloadn (pc := 8) 0 0 C dX10_heading_8 rfl ?_
    refine sw_iloadn (pc := 9) 1 1 C dX10_heading_9 rfl ?_
    refine sw_callVi (pc := 10) C (mX10_isUncut a0) sgX10_isUncut mlX10_213 dX10_heading_10 (by decide) [.int a0] [] sh37 rfl rfl rfl rfl (Nat.le_of_ble_eq_true rfl) (fun r3 σ4 => ?_)
    refine sw_if_eq (pc := 13) 22 C dX10_heading_13 (by decide) ?_ ?_
    · refine sw_aloadn (pc := 22) 0 0 C dX10_heading_22 rfl ?_
      refine sw_getR (pc := 23) C kfX10_46 sh37 ff10_22 dX10_heading_23 ?_
      refine sw_iloadn (pc := 26) 1 1 C dX10_heading_26 rfl ?_
      refine sw_iald (pc := 27) C sh50 dX10_heading_27 ?_
      refine sw_i2l (pc := 28) C dX10_heading_28 ?_
      exact sw_retl (pc := 29) C M dX10_heading_29
    · refine sw_lpick (pc := 16) (L' := []) [] rfl ?_
      exact jX10_heading_B16 C hn M  _
set_option maxRecDepth 100000 in
set_option maxHeartbeats 4000000 in
theorem mX10_off    : sw_Ki yX10_off cX10_off 1 (some .int) 5 (fun ad => [.ref (ad 37)]) fX10_off := by
  refine sw_enteri (by decide) (fun ad => Nat.le_of_ble_eq_true rfl) (fun X ad t σ C hn M => ?_)
  change sw_J X ad t 0 [(0, .ref (ad 37))] [] σ _
  replace C : sw_C X ad cX10_off RX10 5 := C
  unfold fX10_off
  refine sw_aloadn (pc := 0) 0 0 C dX10_off_0 rfl ?_
  refine sw_callVi (pc := 1) C mX10_isBare sgX10_isBare mlX10_216 dX10_off_1 (by decide) [] [] sh37 rfl rfl rfl rfl (Nat.le_of_ble_eq_true rfl) (fun r1 σ2 => ?_)
  refine sw_if_eq (pc := 4) 10 C dX10_off_4 (by decide) ?_ ?_
  · refine sw_aloadn (pc := 10) 0 0 C dX10_off_10 rfl ?_
    refine sw_callVv (pc := 11) C mX10_cut sgX10_cut mlX10_210 dX10_off_11 (by decide) [] [] sh37 rfl rfl rfl rfl (Nat.le_of_ble_eq_true rfl) (fun r3 σ4 => ?_)
    refine sw_aloadn (pc := 14) 0 0 C dX10_off_14 rfl ?_
    refine sw_getI (pc := 15) C kfX10_204 sh37 ff10_23 dX10_off_15 ?_
    exact sw_reti (pc := 18) C M dX10_off_18
  · refine sw_bipush (pc := 7) (v := (-3)) C dX10_off_7 (by decide) ?_
    exact sw_reti (pc := 9) C M dX10_off_9
set_option maxRecDepth 100000 in
set_option maxHeartbeats 4000000 in
theorem mX10_pinched    : sw_Ki yX10_pinched cX10_pinched 1 (some .int) 5 (fun ad => [.ref (ad 37)]) fX10_pinched := by
  refine sw_enteri (by decide) (fun ad => Nat.le_of_ble_eq_true rfl) (fun X ad t σ C hn M => ?_)
  change sw_J X ad t 0 [(0, .ref (ad 37))] [] σ _
  replace C : sw_C X ad cX10_pinched RX10 5 := C
  unfold fX10_pinched
  refine sw_aloadn (pc := 0) 0 0 C dX10_pinched_0 rfl ?_
  refine sw_callVi (pc := 1) C mX10_isBare sgX10_isBare mlX10_216 dX10_pinched_1 (by decide) [] [] sh37 rfl rfl rfl rfl (Nat.le_of_ble_eq_true rfl) (fun r1 σ2 => ?_)
  refine sw_if_eq (pc := 4) 10 C dX10_pinched_4 (by decide) ?_ ?_
  · refine sw_aloadn (pc := 10) 0 0 C dX10_pinched_10 rfl ?_
    refine sw_callVv (pc := 11) C mX10_cut sgX10_cut mlX10_210 dX10_pinched_11 (by decide) [] [] sh37 rfl rfl rfl rfl (Nat.le_of_ble_eq_true rfl) (fun r3 σ4 => ?_)
    refine sw_aloadn (pc := 14) 0 0 C dX10_pinched_14 rfl ?_
    refine sw_getI (pc := 15) C kfX10_201 sh37 ff10_20 dX10_pinched_15 ?_
    refine sw_aloadn (pc := 18) 0 0 C dX10_pinched_18 rfl ?_
    refine sw_getI (pc := 19) C kfX10_172 sh37 ff10_12 dX10_pinched_19 ?_
    refine sw_icmp_ge (pc := 22) 32 C dX10_pinched_22 (by decide) ?_ ?_
    · refine sw_bipush (pc := 32) (v := (-9)) C dX10_pinched_32 (by decide) ?_
      exact sw_reti (pc := 34) C M dX10_pinched_34
    · refine sw_aloadn (pc := 25) 0 0 C dX10_pinched_25 rfl ?_
      refine sw_getI (pc := 26) C kfX10_201 sh37 ff10_20 dX10_pinched_26 ?_
      refine sw_goto (pc := 29) 34 C dX10_pinched_29 (by decide) ?_
      exact sw_reti (pc := 34) C M dX10_pinched_34
  · refine sw_bipush (pc := 7) (v := (-3)) C dX10_pinched_7 (by decide) ?_
    exact sw_reti (pc := 9) C M dX10_pinched_9
set_option maxRecDepth 100000 in
set_option maxHeartbeats 4000000 in
theorem mX10_markOf   (a0 : Int32) (a1 : Int32) : sw_Ki yX10_markOf cX10_markOf 3 (some .int) 1 (fun ad => [.ref (ad 37), .int a0, .int a1]) (fX10_markOf a0 a1) := by
  refine sw_enteri (by decide) (fun ad => Nat.le_of_ble_eq_true rfl) (fun X ad t σ C hn M => ?_)
  change sw_J X ad t 0 [(0, .ref (ad 37)), (1, .int a0), (2, .int a1)] [] σ _
  replace C : sw_C X ad cX10_markOf RX10 1 := C
  unfold fX10_markOf
  refine sw_iloadn (pc := 0) 2 2 C dX10_markOf_0 rfl ?_
  refine sw_aloadn (pc := 1) 0 0 C dX10_markOf_1 rfl ?_
  refine sw_getR (pc := 2) C kfX10_13 sh37 ff10_3 dX10_markOf_2 ?_
  refine sw_iloadn (pc := 5) 1 1 C dX10_markOf_5 rfl ?_
  refine sw_iald (pc := 6) C sh39 dX10_markOf_6 ?_
  refine sw_aloadn (pc := 7) 0 0 C dX10_markOf_7 rfl ?_
  refine sw_getR (pc := 8) C kfX10_16 sh37 ff10_4 dX10_markOf_8 ?_
  refine sw_iloadn (pc := 11) 1 1 C dX10_markOf_11 rfl ?_
  refine sw_iald (pc := 12) C sh40 dX10_markOf_12 ?_
  refine sw_imul (pc := 13) C dX10_markOf_13 ?_
  refine sw_iadd (pc := 14) C dX10_markOf_14 ?_
  exact sw_reti (pc := 15) C M dX10_markOf_15
set_option maxRecDepth 100000 in
set_option maxHeartbeats 4000000 in
theorem jX10_marks_B111 {X : sw_X} {ad : Nat → Nat} {t : Int32 × sw_St} (C : sw_C X ad cX10_marks RX10 6) (hn : sw_nL X = 6) (M : sw_Mi X ad (some .int) t)   {K25 : Int32 → Int32 → sw_St → Option (Int32 × sw_St)} (hK25 : ∀ (z2 : Int32) (z3 : Int32) (τ : sw_St), sw_J X ad t 25 [(0, .ref (ad 37)), (2, .int z2), (3, .int z3)] [] τ (K25 z2 z3 τ)) (v3 : Int32) (s0 : Int32) (s1 : Int32) (σ : sw_St) : sw_J X ad t 111 [(0, .ref (ad 37)), (3, .int v3)] [.int s0, .int s1] σ (fX10_marks_B111 K25 v3 s0 s1 σ) := by
  unfold fX10_marks_B111
  refine sw_iadd (pc := 111) C dX10_marks_111 ?_
  refine sw_leti (fun x13 => ?_)
  refine sw_istoren (pc := 112) 2 [(2, .int x13), (0, .ref (ad 37)), (3, .int v3)] C dX10_marks_112 (by rw [hn]; decide) rfl ?_
  refine sw_iinc (pc := 113) (v3 + 1) 2 [(3, .int (v3 + 1)), (2, .int x13), (0, .ref (ad 37))] C dX10_marks_113 (by rw [hn]; decide) rfl rfl rfl ?_
  refine sw_goto (pc := 116) 25 C dX10_marks_116 (by decide) ?_
  refine sw_lpick (pc := 25) (L' := [(0, .ref (ad 37)), (2, .int x13), (3, .int (v3 + 1))]) [2, 1, 0] rfl ?_
  exact hK25 _ _ _
set_option maxRecDepth 100000 in
set_option maxHeartbeats 4000000 in
theorem jX10_marks_B92 {X : sw_X} {ad : Nat → Nat} {t : Int32 × sw_St} (C : sw_C X ad cX10_marks RX10 6) (hn : sw_nL X = 6) (M : sw_Mi X ad (some .int) t)   {K25 : Int32 → Int32 → sw_St → Option (Int32 × sw_St)} (hK25 : ∀ (z2 : Int32) (z3 : Int32) (τ : sw_St), sw_J X ad t 25 [(0, .ref (ad 37)), (2, .int z2), (3, .int z3)] [] τ (K25 z2 z3 τ)) {K51 : Int32 → Int32 → Int32 → Int32 → sw_St → Option (Int32 × sw_St)} (hK51 : ∀ (z2 : Int32) (z3 : Int32) (z4 : Int32) (z5 : Int32) (τ : sw_St), sw_J X ad t 51 [(0, .ref (ad 37)), (2, .int z2), (3, .int z3), (4, .int z4), (5, .int z5)] [] τ (K51 z2 z3 z4 z5 τ)) (v2 : Int32) (v3 : Int32) (v5 : Int32) (s0 : Int32) (σ : sw_St) : sw_J X ad t 92 [(0, .ref (ad 37)), (2, .int v2), (3, .int v3), (5, .int v5)] [.int s0] σ (fX10_marks_B92 K25 K51 v2 v3 v5 s0 σ) := by
  unfold fX10_marks_B92
  refine sw_istore (pc := 92) [(4, .int s0), (0, .ref (ad 37)), (2, .int v2), (3, .int v3), (5, .int v5)] C dX10_marks_92 (by rw [hn]; decide) rfl ?_
  refine sw_iinc (pc := 94) (v5 + 1) 4 [(5, .int (v5 + 1)), (4, .int s0), (0, .ref (ad 37)), (2, .int v2), (3, .int v3)] C dX10_marks_94 (by rw [hn]; decide) rfl rfl rfl ?_
  refine sw_goto (pc := 97) 51 C dX10_marks_97 (by decide) ?_
  refine sw_lpick (pc := 51) (L' := [(0, .ref (ad 37)), (2, .int v2), (3, .int v3), (4, .int s0), (5, .int (v5 + 1))]) [2, 3, 4, 1, 0] rfl ?_
  exact hK51 _ _ _ _ _
set_option maxRecDepth 100000 in
set_option maxHeartbeats 4000000 in
theorem jX10_marks_B91 {X : sw_X} {ad : Nat → Nat} {t : Int32 × sw_St} (C : sw_C X ad cX10_marks RX10 6) (hn : sw_nL X = 6) (M : sw_Mi X ad (some .int) t)   {K25 : Int32 → Int32 → sw_St → Option (Int32 × sw_St)} (hK25 : ∀ (z2 : Int32) (z3 : Int32) (τ : sw_St), sw_J X ad t 25 [(0, .ref (ad 37)), (2, .int z2), (3, .int z3)] [] τ (K25 z2 z3 τ)) {K51 : Int32 → Int32 → Int32 → Int32 → sw_St → Option (Int32 × sw_St)} (hK51 : ∀ (z2 : Int32) (z3 : Int32) (z4 : Int32) (z5 : Int32) (τ : sw_St), sw_J X ad t 51 [(0, .ref (ad 37)), (2, .int z2), (3, .int z3), (4, .int z4), (5, .int z5)] [] τ (K51 z2 z3 z4 z5 τ)) (v2 : Int32) (v3 : Int32) (v5 : Int32) (σ : sw_St) : sw_J X ad t 91 [(0, .ref (ad 37)), (2, .int v2), (3, .int v3), (5, .int v5)] [] σ (fX10_marks_B91 K25 K51 v2 v3 v5 σ) := by
  unfold fX10_marks_B91
  refine sw_iconst (pc := 91) (v := 0) C dX10_marks_91 (by decide) ?_
  exact jX10_marks_B92 C hn M hK25 hK51 _ _ _ _ _
set_option maxRecDepth 100000 in
set_option maxHeartbeats 4000000 in
theorem jX10_marks_B87 {X : sw_X} {ad : Nat → Nat} {t : Int32 × sw_St} (C : sw_C X ad cX10_marks RX10 6) (hn : sw_nL X = 6) (M : sw_Mi X ad (some .int) t)   {K25 : Int32 → Int32 → sw_St → Option (Int32 × sw_St)} (hK25 : ∀ (z2 : Int32) (z3 : Int32) (τ : sw_St), sw_J X ad t 25 [(0, .ref (ad 37)), (2, .int z2), (3, .int z3)] [] τ (K25 z2 z3 τ)) {K51 : Int32 → Int32 → Int32 → Int32 → sw_St → Option (Int32 × sw_St)} (hK51 : ∀ (z2 : Int32) (z3 : Int32) (z4 : Int32) (z5 : Int32) (τ : sw_St), sw_J X ad t 51 [(0, .ref (ad 37)), (2, .int z2), (3, .int z3), (4, .int z4), (5, .int z5)] [] τ (K51 z2 z3 z4 z5 τ)) (v2 : Int32) (v3 : Int32) (v5 : Int32) (σ : sw_St) : sw_J X ad t 87 [(0, .ref (ad 37)), (2, .int v2), (3, .int v3), (5, .int v5)] [] σ (fX10_marks_B87 K25 K51 v2 v3 v5 σ) := by
  unfold fX10_marks_B87
  refine sw_iconst (pc := 87) (v := 1) C dX10_marks_87 (by decide) ?_
  refine sw_goto (pc := 88) 92 C dX10_marks_88 (by decide) ?_
  exact jX10_marks_B92 C hn M hK25 hK51 _ _ _ _ _
set_option maxRecDepth 100000 in
set_option maxHeartbeats 4000000 in
theorem jX10_marks_L51 {X : sw_X} {ad : Nat → Nat} {t : Int32 × sw_St} (C : sw_C X ad cX10_marks RX10 6) (hn : sw_nL X = 6) (M : sw_Mi X ad (some .int) t)   {K25 : Int32 → Int32 → sw_St → Option (Int32 × sw_St)} (hK25 : ∀ (z2 : Int32) (z3 : Int32) (τ : sw_St), sw_J X ad t 25 [(0, .ref (ad 37)), (2, .int z2), (3, .int z3)] [] τ (K25 z2 z3 τ)) : ∀ (n : Nat) (v2 : Int32) (v3 : Int32) (v4 : Int32) (v5 : Int32) (σ : sw_St), sw_J X ad t 51 [(0, .ref (ad 37)), (2, .int v2), (3, .int v3), (4, .int v4), (5, .int v5)] [] σ (fX10_marks_L51 K25 n v2 v3 v4 v5 σ) := by
  intro n
  induction n with
  | zero => exact fun _ _ _ _ _ => sw_none
  | succ n ih =>
    intro v2 v3 v4 v5 σ
    unfold fX10_marks_L51
    refine sw_iload (pc := 51) 4 C dX10_marks_51 rfl ?_
    refine sw_iloadn (pc := 53) 3 2 C dX10_marks_53 rfl ?_
    refine sw_icmp_ge (pc := 54) 100 C dX10_marks_54 (by decide) ?_ ?_
    · refine sw_iloadn (pc := 100) 2 1 C dX10_marks_100 rfl ?_
      refine sw_iload (pc := 101) 3 C dX10_marks_101 rfl ?_
      refine sw_if_eq (pc := 103) 110 C dX10_marks_103 (by decide) ?_ ?_
      · refine sw_iconst (pc := 110) (v := 0) C dX10_marks_110 (by decide) ?_
        refine sw_lpick (pc := 111) (L' := [(0, .ref (ad 37)), (3, .int v3)]) [0, 2] rfl ?_
        exact jX10_marks_B111 C hn M hK25 _ _ _ _
      · refine sw_iconst (pc := 106) (v := 1) C dX10_marks_106 (by decide) ?_
        refine sw_goto (pc := 107) 111 C dX10_marks_107 (by decide) ?_
        refine sw_lpick (pc := 111) (L' := [(0, .ref (ad 37)), (3, .int v3)]) [0, 2] rfl ?_
        exact jX10_marks_B111 C hn M hK25 _ _ _ _
    · refine sw_iload (pc := 57) 3 C dX10_marks_57 rfl ?_
      refine sw_if_eq (pc := 59) 91 C dX10_marks_59 (by decide) ?_ ?_
      · refine sw_lpick (pc := 91) (L' := [(0, .ref (ad 37)), (2, .int v2), (3, .int v3), (5, .int v5)]) [0, 1, 2, 4] rfl ?_
        exact jX10_marks_B91 C hn M hK25 ih _ _ _ _
      · refine sw_aloadn (pc := 62) 0 0 C dX10_marks_62 rfl ?_
        refine sw_iload (pc := 63) 4 C dX10_marks_63 rfl ?_
        refine sw_callVi (pc := 65) C (mX10_takesOf v5) sgX10_takesOf mlX10_148 dX10_marks_65 (by decide) [.int v5] [] sh37 rfl rfl rfl rfl (Nat.le_of_ble_eq_true rfl) (fun r7 σ8 => ?_)
        refine sw_if_le (pc := 68) 87 C dX10_marks_68 (by decide) ?_ ?_
        · refine sw_lpick (pc := 87) (L' := [(0, .ref (ad 37)), (2, .int v2), (3, .int v3), (5, .int v5)]) [0, 1, 2, 4] rfl ?_
          exact jX10_marks_B87 C hn M hK25 ih _ _ _ _
        · refine sw_aloadn (pc := 71) 0 0 C dX10_marks_71 rfl ?_
          refine sw_iload (pc := 72) 4 C dX10_marks_72 rfl ?_
          refine sw_iconst (pc := 74) (v := 0) C dX10_marks_74 (by decide) ?_
          refine sw_callVi (pc := 75) C (mX10_markOf v5 0) sgX10_markOf mlX10_220 dX10_marks_75 (by decide) [.int v5, .int 0] [] sh37 rfl rfl rfl rfl (Nat.le_of_ble_eq_true rfl) (fun r9 σ10 => ?_)
          refine sw_aloadn (pc := 78) 0 0 C dX10_marks_78 rfl ?_
          refine sw_iloadn (pc := 79) 3 2 C dX10_marks_79 rfl ?_
          refine sw_iconst (pc := 80) (v := 0) C dX10_marks_80 (by decide) ?_
          refine sw_callVi (pc := 81) C (mX10_markOf v3 0) sgX10_markOf mlX10_220 dX10_marks_81 (by decide) [.int v3, .int 0] [.int r9] sh37 rfl rfl rfl rfl (Nat.le_of_ble_eq_true rfl) (fun r11 σ12 => ?_)
          refine sw_icmp_eq (pc := 84) 91 C dX10_marks_84 (by decide) ?_ ?_
          · refine sw_lpick (pc := 91) (L' := [(0, .ref (ad 37)), (2, .int v2), (3, .int v3), (5, .int v5)]) [0, 1, 2, 4] rfl ?_
            exact jX10_marks_B91 C hn M hK25 ih _ _ _ _
          · refine sw_lpick (pc := 87) (L' := [(0, .ref (ad 37)), (2, .int v2), (3, .int v3), (5, .int v5)]) [0, 1, 2, 4] rfl ?_
            exact jX10_marks_B87 C hn M hK25 ih _ _ _ _
set_option maxRecDepth 100000 in
set_option maxHeartbeats 4000000 in
theorem jX10_marks_B46 {X : sw_X} {ad : Nat → Nat} {t : Int32 × sw_St} (C : sw_C X ad cX10_marks RX10 6) (hn : sw_nL X = 6) (M : sw_Mi X ad (some .int) t)   {K25 : Int32 → Int32 → sw_St → Option (Int32 × sw_St)} (hK25 : ∀ (z2 : Int32) (z3 : Int32) (τ : sw_St), sw_J X ad t 25 [(0, .ref (ad 37)), (2, .int z2), (3, .int z3)] [] τ (K25 z2 z3 τ)) (v2 : Int32) (v3 : Int32) (s0 : Int32) (σ : sw_St) : sw_J X ad t 46 [(0, .ref (ad 37)), (2, .int v2), (3, .int v3)] [.int s0] σ (fX10_marks_B46 K25 v2 v3 s0 σ) := by
  unfold fX10_marks_B46
  refine sw_istore (pc := 46) [(4, .int s0), (0, .ref (ad 37)), (2, .int v2), (3, .int v3)] C dX10_marks_46 (by rw [hn]; decide) rfl ?_
  refine sw_iconst (pc := 48) (v := 0) C dX10_marks_48 (by decide) ?_
  refine sw_istore (pc := 49) [(5, .int 0), (4, .int s0), (0, .ref (ad 37)), (2, .int v2), (3, .int v3)] C dX10_marks_49 (by rw [hn]; decide) rfl ?_
  refine sw_lpick (pc := 51) (L' := [(0, .ref (ad 37)), (2, .int v2), (3, .int v3), (4, .int s0), (5, .int 0)]) [2, 3, 4, 1, 0] rfl ?_
  exact jX10_marks_L51 C hn M hK25 _ _ _ _ _ _
set_option maxRecDepth 100000 in
set_option maxHeartbeats 4000000 in
theorem jX10_marks_L25 {X : sw_X} {ad : Nat → Nat} {t : Int32 × sw_St} (C : sw_C X ad cX10_marks RX10 6) (hn : sw_nL X = 6) (M : sw_Mi X ad (some .int) t)   : ∀ (n : Nat) (v2 : Int32) (v3 : Int32) (σ : sw_St), sw_J X ad t 25 [(0, .ref (ad 37)), (2, .int v2), (3, .int v3)] [] σ (fX10_marks_L25  n v2 v3 σ) := by
  intro n
  induction n with
  | zero => exact fun _ _ _ => sw_none
  | succ n ih =>
    intro v2 v3 σ
    unfold fX10_marks_L25
    refine sw_iloadn (pc := 25) 3 2 C dX10_marks_25 rfl ?_
    refine sw_aloadn (pc := 26) 0 0 C dX10_marks_26 rfl ?_
    refine sw_getI (pc := 27) C kfX10_116 sh37 ff10_1 dX10_marks_27 ?_
    refine sw_icmp_ge (pc := 30) 119 C dX10_marks_30 (by decide) ?_ ?_
    · refine sw_iloadn (pc := 119) 2 1 C dX10_marks_119 rfl ?_
      exact sw_reti (pc := 120) C M dX10_marks_120
    · refine sw_aloadn (pc := 33) 0 0 C dX10_marks_33 rfl ?_
      refine sw_iloadn (pc := 34) 3 2 C dX10_marks_34 rfl ?_
      refine sw_callVi (pc := 35) C (mX10_takesOf v3) sgX10_takesOf mlX10_148 dX10_marks_35 (by decide) [.int v3] [] sh37 rfl rfl rfl rfl (Nat.le_of_ble_eq_true rfl) (fun r5 σ6 => ?_)
      refine sw_if_le (pc := 38) 45 C dX10_marks_38 (by decide) ?_ ?_
      · refine sw_iconst (pc := 45) (v := 0) C dX10_marks_45 (by decide) ?_
        exact jX10_marks_B46 C hn M ih _ _ _ _
      · refine sw_iconst (pc := 41) (v := 1) C dX10_marks_41 (by decide) ?_
        refine sw_goto (pc := 42) 46 C dX10_marks_42 (by decide) ?_
        exact jX10_marks_B46 C hn M ih _ _ _ _
set_option maxRecDepth 100000 in
set_option maxHeartbeats 4000000 in
theorem mX10_marks   (a0 : Int32) : sw_Ki yX10_marks cX10_marks 6 (some .int) 6 (fun ad => [.ref (ad 37), .int a0]) (fX10_marks a0) := by
  refine sw_enteri (by decide) (fun ad => Nat.le_of_ble_eq_true rfl) (fun X ad t σ C hn M => ?_)
  change sw_J X ad t 0 [(0, .ref (ad 37)), (1, .int a0)] [] σ _
  replace C : sw_C X ad cX10_marks RX10 6 := C
  unfold fX10_marks
  refine sw_aloadn (pc := 0) 0 0 C dX10_marks_0 rfl ?_
  refine sw_iloadn (pc := 1) 1 1 C dX10_marks_1 rfl ?_
  refine sw_callVi (pc := 2) C (mX10_noLine a0) sgX10_noLine mlX10_180 dX10_marks_2 (by decide) [.int a0] [] sh37 rfl rfl rfl rfl (Nat.le_of_ble_eq_true rfl) (fun r1 σ2 => ?_)
  refine sw_if_eq (pc := 5) 10 C dX10_marks_5 (by decide) ?_ ?_
  · refine sw_aloadn (pc := 10) 0 0 C dX10_marks_10 rfl ?_
    refine sw_iloadn (pc := 11) 1 1 C dX10_marks_11 rfl ?_
    refine sw_callVi (pc := 12) C (mX10_isUncut a0) sgX10_isUncut mlX10_213 dX10_marks_12 (by decide) [.int a0] [] sh37 rfl rfl rfl rfl (Nat.le_of_ble_eq_true rfl) (fun r3 σ4 => ?_)
    refine sw_if_eq (pc := 15) 21 C dX10_marks_15 (by decide) ?_ ?_
    · refine sw_iconst (pc := 21) (v := 0) C dX10_marks_21 (by decide) ?_
      refine sw_istoren (pc := 22) 2 [(2, .int 0), (0, .ref (ad 37)), (1, .int a0)] C dX10_marks_22 (by rw [hn]; decide) rfl ?_
      refine sw_iconst (pc := 23) (v := 0) C dX10_marks_23 (by decide) ?_
      refine sw_istoren (pc := 24) 3 [(3, .int 0), (2, .int 0), (0, .ref (ad 37)), (1, .int a0)] C dX10_marks_24 (by rw [hn]; decide) rfl ?_
      refine sw_lpick (pc := 25) (L' := [(0, .ref (ad 37)), (2, .int 0), (3, .int 0)]) [2, 1, 0] rfl ?_
      exact jX10_marks_L25 C hn M  _ _ _ _
    · refine sw_bipush (pc := 18) (v := (-3)) C dX10_marks_18 (by decide) ?_
      exact sw_reti (pc := 20) C M dX10_marks_20
  · refine sw_iconst (pc := 8) (v := (-1)) C dX10_marks_8 (by decide) ?_
    exact sw_reti (pc := 9) C M dX10_marks_9
set_option maxRecDepth 100000 in
set_option maxHeartbeats 4000000 in
theorem jX10_which_B69 {X : sw_X} {ad : Nat → Nat} {t : Int32 × sw_St} (C : sw_C X ad cX10_which RX10 6) (hn : sw_nL X = 5) (M : sw_Mi X ad (some .int) t)   {K26 : Int32 → Int32 → Int32 → Int32 → sw_St → Option (Int32 × sw_St)} (hK26 : ∀ (z1 : Int32) (z2 : Int32) (z3 : Int32) (z4 : Int32) (τ : sw_St), sw_J X ad t 26 [(0, .ref (ad 37)), (1, .int z1), (2, .int z2), (3, .int z3), (4, .int z4)] [] τ (K26 z1 z2 z3 z4 τ)) (v1 : Int32) (v2 : Int32) (v4 : Int32) (s0 : Int32) (s1 : Int32) (σ : sw_St) : sw_J X ad t 69 [(0, .ref (ad 37)), (1, .int v1), (2, .int v2), (4, .int v4)] [.int s0, .int s1] σ (fX10_which_B69 K26 v1 v2 v4 s0 s1 σ) := by
  unfold fX10_which_B69
  refine sw_ior (pc := 69) C dX10_which_69 ?_
  refine sw_leti (fun x9 => ?_)
  refine sw_istoren (pc := 70) 3 [(3, .int x9), (0, .ref (ad 37)), (1, .int v1), (2, .int v2), (4, .int v4)] C dX10_which_70 (by rw [hn]; decide) rfl ?_
  refine sw_iinc (pc := 71) (v4 + 1) 4 [(4, .int (v4 + 1)), (3, .int x9), (0, .ref (ad 37)), (1, .int v1), (2, .int v2)] C dX10_which_71 (by rw [hn]; decide) rfl rfl rfl ?_
  refine sw_goto (pc := 74) 26 C dX10_which_74 (by decide) ?_
  refine sw_lpick (pc := 26) (L' := [(0, .ref (ad 37)), (1, .int v1), (2, .int v2), (3, .int x9), (4, .int (v4 + 1))]) [2, 3, 4, 1, 0] rfl ?_
  exact hK26 _ _ _ _ _
set_option maxRecDepth 100000 in
set_option maxHeartbeats 4000000 in
theorem jX10_which_B68 {X : sw_X} {ad : Nat → Nat} {t : Int32 × sw_St} (C : sw_C X ad cX10_which RX10 6) (hn : sw_nL X = 5) (M : sw_Mi X ad (some .int) t)   {K26 : Int32 → Int32 → Int32 → Int32 → sw_St → Option (Int32 × sw_St)} (hK26 : ∀ (z1 : Int32) (z2 : Int32) (z3 : Int32) (z4 : Int32) (τ : sw_St), sw_J X ad t 26 [(0, .ref (ad 37)), (1, .int z1), (2, .int z2), (3, .int z3), (4, .int z4)] [] τ (K26 z1 z2 z3 z4 τ)) (v1 : Int32) (v2 : Int32) (v4 : Int32) (s0 : Int32) (σ : sw_St) : sw_J X ad t 68 [(0, .ref (ad 37)), (1, .int v1), (2, .int v2), (4, .int v4)] [.int s0] σ (fX10_which_B68 K26 v1 v2 v4 s0 σ) := by
  unfold fX10_which_B68
  refine sw_iconst (pc := 68) (v := 0) C dX10_which_68 (by decide) ?_
  exact jX10_which_B69 C hn M hK26 _ _ _ _ _ _
set_option maxRecDepth 100000 in
set_option maxHeartbeats 4000000 in
theorem jX10_which_L26 {X : sw_X} {ad : Nat → Nat} {t : Int32 × sw_St} (C : sw_C X ad cX10_which RX10 6) (hn : sw_nL X = 5) (M : sw_Mi X ad (some .int) t)   : ∀ (n : Nat) (v1 : Int32) (v2 : Int32) (v3 : Int32) (v4 : Int32) (σ : sw_St), sw_J X ad t 26 [(0, .ref (ad 37)), (1, .int v1), (2, .int v2), (3, .int v3), (4, .int v4)] [] σ (fX10_which_L26  n v1 v2 v3 v4 σ) := by
  intro n
  induction n with
  | zero => exact fun _ _ _ _ _ => sw_none
  | succ n ih =>
    intro v1 v2 v3 v4 σ
    unfold fX10_which_L26
    refine sw_iload (pc := 26) 4 C dX10_which_26 rfl ?_
    refine sw_aloadn (pc := 28) 0 0 C dX10_which_28 rfl ?_
    refine sw_getI (pc := 29) C kfX10_116 sh37 ff10_1 dX10_which_29 ?_
    refine sw_icmp_ge (pc := 32) 77 C dX10_which_32 (by decide) ?_ ?_
    · refine sw_iloadn (pc := 77) 3 3 C dX10_which_77 rfl ?_
      exact sw_reti (pc := 78) C M dX10_which_78
    · refine sw_iloadn (pc := 35) 3 3 C dX10_which_35 rfl ?_
      refine sw_aloadn (pc := 36) 0 0 C dX10_which_36 rfl ?_
      refine sw_iload (pc := 37) 4 C dX10_which_37 rfl ?_
      refine sw_callVi (pc := 39) C (mX10_takesOf v4) sgX10_takesOf mlX10_148 dX10_which_39 (by decide) [.int v4] [.int v3] sh37 rfl rfl rfl rfl (Nat.le_of_ble_eq_true rfl) (fun r5 σ6 => ?_)
      refine sw_if_le (pc := 42) 68 C dX10_which_42 (by decide) ?_ ?_
      · refine sw_lpick (pc := 68) (L' := [(0, .ref (ad 37)), (1, .int v1), (2, .int v2), (4, .int v4)]) [0, 1, 2, 4] rfl ?_
        exact jX10_which_B68 C hn M ih _ _ _ _ _
      · refine sw_aloadn (pc := 45) 0 0 C dX10_which_45 rfl ?_
        refine sw_iload (pc := 46) 4 C dX10_which_46 rfl ?_
        refine sw_aloadn (pc := 48) 0 0 C dX10_which_48 rfl ?_
        refine sw_getR (pc := 49) C kfX10_43 sh37 ff10_21 dX10_which_49 ?_
        refine sw_iloadn (pc := 52) 1 1 C dX10_which_52 rfl ?_
        refine sw_iald (pc := 53) C sh49 dX10_which_53 ?_
        refine sw_callVi (pc := 54) C (mX10_markOf v4 (σ6 49 (Int32.toNatClampNeg v1))) sgX10_markOf mlX10_220 dX10_which_54 (by decide) [.int v4, .int (σ6 49 (Int32.toNatClampNeg v1))] [.int v3] sh37 rfl rfl rfl rfl (Nat.le_of_ble_eq_true rfl) (fun r7 σ8 => ?_)
        refine sw_iloadn (pc := 57) 2 2 C dX10_which_57 rfl ?_
        refine sw_icmp_ne (pc := 58) 68 C dX10_which_58 (by decide) ?_ ?_
        · refine sw_lpick (pc := 68) (L' := [(0, .ref (ad 37)), (1, .int v1), (2, .int v2), (4, .int v4)]) [0, 1, 2, 4] rfl ?_
          exact jX10_which_B68 C hn M ih _ _ _ _ _
        · refine sw_iconst (pc := 61) (v := 1) C dX10_which_61 (by decide) ?_
          refine sw_iload (pc := 62) 4 C dX10_which_62 rfl ?_
          refine sw_ishl (pc := 64) C dX10_which_64 ?_
          refine sw_goto (pc := 65) 69 C dX10_which_65 (by decide) ?_
          refine sw_lpick (pc := 69) (L' := [(0, .ref (ad 37)), (1, .int v1), (2, .int v2), (4, .int v4)]) [0, 1, 2, 4] rfl ?_
          exact jX10_which_B69 C hn M ih _ _ _ _ _ _
set_option maxRecDepth 100000 in
set_option maxHeartbeats 4000000 in
theorem mX10_which   (a0 : Int32) (a1 : Int32) : sw_Ki yX10_which cX10_which 5 (some .int) 6 (fun ad => [.ref (ad 37), .int a0, .int a1]) (fX10_which a0 a1) := by
  refine sw_enteri (by decide) (fun ad => Nat.le_of_ble_eq_true rfl) (fun X ad t σ C hn M => ?_)
  change sw_J X ad t 0 [(0, .ref (ad 37)), (1, .int a0), (2, .int a1)] [] σ _
  replace C : sw_C X ad cX10_which RX10 6 := C
  unfold fX10_which
  refine sw_aloadn (pc := 0) 0 0 C dX10_which_0 rfl ?_
  refine sw_iloadn (pc := 1) 1 1 C dX10_which_1 rfl ?_
  refine sw_callVi (pc := 2) C (mX10_noLine a0) sgX10_noLine mlX10_180 dX10_which_2 (by decide) [.int a0] [] sh37 rfl rfl rfl rfl (Nat.le_of_ble_eq_true rfl) (fun r1 σ2 => ?_)
  refine sw_if_eq (pc := 5) 10 C dX10_which_5 (by decide) ?_ ?_
  · refine sw_aloadn (pc := 10) 0 0 C dX10_which_10 rfl ?_
    refine sw_iloadn (pc := 11) 1 1 C dX10_which_11 rfl ?_
    refine sw_callVi (pc := 12) C (mX10_isUncut a0) sgX10_isUncut mlX10_213 dX10_which_12 (by decide) [.int a0] [] sh37 rfl rfl rfl rfl (Nat.le_of_ble_eq_true rfl) (fun r3 σ4 => ?_)
    refine sw_if_eq (pc := 15) 21 C dX10_which_15 (by decide) ?_ ?_
    · refine sw_iconst (pc := 21) (v := 0) C dX10_which_21 (by decide) ?_
      refine sw_istoren (pc := 22) 3 [(3, .int 0), (0, .ref (ad 37)), (1, .int a0), (2, .int a1)] C dX10_which_22 (by rw [hn]; decide) rfl ?_
      refine sw_iconst (pc := 23) (v := 0) C dX10_which_23 (by decide) ?_
      refine sw_istore (pc := 24) [(4, .int 0), (3, .int 0), (0, .ref (ad 37)), (1, .int a0), (2, .int a1)] C dX10_which_24 (by rw [hn]; decide) rfl ?_
      refine sw_lpick (pc := 26) (L' := [(0, .ref (ad 37)), (1, .int a0), (2, .int a1), (3, .int 0), (4, .int 0)]) [2, 3, 4, 1, 0] rfl ?_
      exact jX10_which_L26 C hn M  _ _ _ _ _ _
    · refine sw_bipush (pc := 18) (v := (-3)) C dX10_which_18 (by decide) ?_
      exact sw_reti (pc := 20) C M dX10_which_20
  · refine sw_iconst (pc := 8) (v := (-1)) C dX10_which_8 (by decide) ?_
    exact sw_reti (pc := 9) C M dX10_which_9
set_option maxRecDepth 100000 in
set_option maxHeartbeats 4000000 in
theorem jX10_straightest_B182 {X : sw_X} {ad : Nat → Nat} {t : Int32 × sw_St} (C : sw_C X ad cX10_straightest RX10 5) (hn : sw_nL X = 8) (M : sw_Mi X ad (some .int) t)   (v1 : Int32) (v4 : Int32) (v5 : Int32) (σ : sw_St) : sw_J X ad t 182 [(1, .int v1), (4, .int v4), (5, .int v5)] [] σ (fX10_straightest_B182  v1 v4 v5 σ) := by
  unfold fX10_straightest_B182
  refine sw_iloadn (pc := 182) 1 0 C dX10_straightest_182 rfl ?_
  refine sw_iconst (pc := 183) (v := 2) C dX10_straightest_183 (by decide) ?_
  refine sw_icmp_ge (pc := 184) 192 C dX10_straightest_184 (by decide) ?_ ?_
  · refine sw_iload (pc := 192) 2 C dX10_straightest_192 rfl ?_
    exact sw_reti (pc := 194) C M dX10_straightest_194
  · refine sw_iload (pc := 187) 1 C dX10_straightest_187 rfl ?_
    refine sw_goto (pc := 189) 194 C dX10_straightest_189 (by decide) ?_
    exact sw_reti (pc := 194) C M dX10_straightest_194
set_option maxRecDepth 100000 in
set_option maxHeartbeats 4000000 in
theorem jX10_straightest_B159 {X : sw_X} {ad : Nat → Nat} {t : Int32 × sw_St} (C : sw_C X ad cX10_straightest RX10 5) (hn : sw_nL X = 8) (M : sw_Mi X ad (some .int) t)   {K63 : Int32 → Int32 → Int32 → Int32 → Int32 → Int32 → sw_St → Option (Int32 × sw_St)} (hK63 : ∀ (z1 : Int32) (z2 : Int32) (z3 : Int32) (z4 : Int32) (z5 : Int32) (z6 : Int32) (τ : sw_St), sw_J X ad t 63 [(0, .ref (ad 37)), (1, .int z1), (2, .int z2), (3, .int z3), (4, .int z4), (5, .int z5), (6, .int z6)] [] τ (K63 z1 z2 z3 z4 z5 z6 τ)) (v1 : Int32) (v2 : Int32) (v3 : Int32) (v4 : Int32) (v5 : Int32) (v6 : Int32) (σ : sw_St) : sw_J X ad t 159 [(0, .ref (ad 37)), (1, .int v1), (2, .int v2), (3, .int v3), (4, .int v4), (5, .int v5), (6, .int v6)] [] σ (fX10_straightest_B159 K63 v1 v2 v3 v4 v5 v6 σ) := by
  unfold fX10_straightest_B159
  refine sw_iinc (pc := 159) (v6 + 1) 6 [(6, .int (v6 + 1)), (0, .ref (ad 37)), (1, .int v1), (2, .int v2), (3, .int v3), (4, .int v4), (5, .int v5)] C dX10_straightest_159 (by rw [hn]; decide) rfl rfl rfl ?_
  refine sw_goto (pc := 162) 63 C dX10_straightest_162 (by decide) ?_
  refine sw_lpick (pc := 63) (L' := [(0, .ref (ad 37)), (1, .int v1), (2, .int v2), (3, .int v3), (4, .int v4), (5, .int v5), (6, .int (v6 + 1))]) [1, 2, 3, 4, 5, 6, 0] rfl ?_
  exact hK63 _ _ _ _ _ _ _
set_option maxRecDepth 100000 in
set_option maxHeartbeats 4000000 in
theorem jX10_straightest_B149 {X : sw_X} {ad : Nat → Nat} {t : Int32 × sw_St} (C : sw_C X ad cX10_straightest RX10 5) (hn : sw_nL X = 8) (M : sw_Mi X ad (some .int) t)   {K63 : Int32 → Int32 → Int32 → Int32 → Int32 → Int32 → sw_St → Option (Int32 × sw_St)} (hK63 : ∀ (z1 : Int32) (z2 : Int32) (z3 : Int32) (z4 : Int32) (z5 : Int32) (z6 : Int32) (τ : sw_St), sw_J X ad t 63 [(0, .ref (ad 37)), (1, .int z1), (2, .int z2), (3, .int z3), (4, .int z4), (5, .int z5), (6, .int z6)] [] τ (K63 z1 z2 z3 z4 z5 z6 τ)) (v1 : Int32) (v2 : Int32) (v3 : Int32) (v6 : Int32) (v7 : Int32) (σ : sw_St) : sw_J X ad t 149 [(0, .ref (ad 37)), (1, .int v1), (2, .int v2), (3, .int v3), (6, .int v6), (7, .int v7)] [] σ (fX10_straightest_B149 K63 v1 v2 v3 v6 v7 σ) := by
  unfold fX10_straightest_B149
  refine sw_iload (pc := 149) 5 C dX10_straightest_149 rfl ?_
  refine sw_istore (pc := 151) [(4, .int v7), (0, .ref (ad 37)), (1, .int v1), (2, .int v2), (3, .int v3), (6, .int v6), (7, .int v7)] C dX10_straightest_151 (by rw [hn]; decide) rfl ?_
  refine sw_aloadn (pc := 153) 0 1 C dX10_straightest_153 rfl ?_
  refine sw_getI (pc := 154) C kfX10_204 sh37 ff10_23 dX10_straightest_154 ?_
  refine sw_leti (fun x11 => ?_)
  refine sw_istore (pc := 157) [(5, .int x11), (4, .int v7), (0, .ref (ad 37)), (1, .int v1), (2, .int v2), (3, .int v3), (6, .int v6), (7, .int v7)] C dX10_straightest_157 (by rw [hn]; decide) rfl ?_
  refine sw_lpick (pc := 159) (L' := [(0, .ref (ad 37)), (1, .int v1), (2, .int v2), (3, .int v3), (4, .int v7), (5, .int x11), (6, .int v6)]) [2, 3, 4, 5, 1, 0, 6] rfl ?_
  exact jX10_straightest_B159 C hn M hK63 _ _ _ _ _ _ _
set_option maxRecDepth 100000 in
set_option maxHeartbeats 4000000 in
theorem jX10_straightest_B131 {X : sw_X} {ad : Nat → Nat} {t : Int32 × sw_St} (C : sw_C X ad cX10_straightest RX10 5) (hn : sw_nL X = 8) (M : sw_Mi X ad (some .int) t)   {K63 : Int32 → Int32 → Int32 → Int32 → Int32 → Int32 → sw_St → Option (Int32 × sw_St)} (hK63 : ∀ (z1 : Int32) (z2 : Int32) (z3 : Int32) (z4 : Int32) (z5 : Int32) (z6 : Int32) (τ : sw_St), sw_J X ad t 63 [(0, .ref (ad 37)), (1, .int z1), (2, .int z2), (3, .int z3), (4, .int z4), (5, .int z5), (6, .int z6)] [] τ (K63 z1 z2 z3 z4 z5 z6 τ)) (v1 : Int32) (v2 : Int32) (v3 : Int32) (v4 : Int32) (v5 : Int32) (v6 : Int32) (v7 : Int32) (σ : sw_St) : sw_J X ad t 131 [(0, .ref (ad 37)), (1, .int v1), (2, .int v2), (3, .int v3), (4, .int v4), (5, .int v5), (6, .int v6), (7, .int v7)] [] σ (fX10_straightest_B131 K63 v1 v2 v3 v4 v5 v6 v7 σ) := by
  unfold fX10_straightest_B131
  refine sw_aloadn (pc := 131) 0 0 C dX10_straightest_131 rfl ?_
  refine sw_callVv (pc := 132) C mX10_cut sgX10_cut mlX10_210 dX10_straightest_132 (by decide) [] [] sh37 rfl rfl rfl rfl (Nat.le_of_ble_eq_true rfl) (fun r9 σ10 => ?_)
  refine sw_iload (pc := 135) 5 C dX10_straightest_135 rfl ?_
  refine sw_if_lt (pc := 137) 149 C dX10_straightest_137 (by decide) ?_ ?_
  · refine sw_lpick (pc := 149) (L' := [(0, .ref (ad 37)), (1, .int v1), (2, .int v2), (3, .int v3), (6, .int v6), (7, .int v7)]) [0, 1, 2, 3, 6, 7] rfl ?_
    exact jX10_straightest_B149 C hn M hK63 _ _ _ _ _ _
  · refine sw_aloadn (pc := 140) 0 0 C dX10_straightest_140 rfl ?_
    refine sw_getI (pc := 141) C kfX10_204 sh37 ff10_23 dX10_straightest_141 ?_
    refine sw_iload (pc := 144) 5 C dX10_straightest_144 rfl ?_
    refine sw_icmp_ge (pc := 146) 159 C dX10_straightest_146 (by decide) ?_ ?_
    · refine sw_lpick (pc := 159) (L' := [(0, .ref (ad 37)), (1, .int v1), (2, .int v2), (3, .int v3), (4, .int v4), (5, .int v5), (6, .int v6)]) [0, 1, 2, 3, 4, 5, 6] rfl ?_
      exact jX10_straightest_B159 C hn M hK63 _ _ _ _ _ _ _
    · refine sw_lpick (pc := 149) (L' := [(0, .ref (ad 37)), (1, .int v1), (2, .int v2), (3, .int v3), (6, .int v6), (7, .int v7)]) [0, 1, 2, 3, 6, 7] rfl ?_
      exact jX10_straightest_B149 C hn M hK63 _ _ _ _ _ _
set_option maxRecDepth 100000 in
set_option maxHeartbeats 4000000 in
theorem jX10_straightest_B110 {X : sw_X} {ad : Nat → Nat} {t : Int32 × sw_St} (C : sw_C X ad cX10_straightest RX10 5) (hn : sw_nL X = 8) (M : sw_Mi X ad (some .int) t)   {K63 : Int32 → Int32 → Int32 → Int32 → Int32 → Int32 → sw_St → Option (Int32 × sw_St)} (hK63 : ∀ (z1 : Int32) (z2 : Int32) (z3 : Int32) (z4 : Int32) (z5 : Int32) (z6 : Int32) (τ : sw_St), sw_J X ad t 63 [(0, .ref (ad 37)), (1, .int z1), (2, .int z2), (3, .int z3), (4, .int z4), (5, .int z5), (6, .int z6)] [] τ (K63 z1 z2 z3 z4 z5 z6 τ)) (v1 : Int32) (v2 : Int32) (v3 : Int32) (v4 : Int32) (v5 : Int32) (v6 : Int32) (s0 : Int32) (σ : sw_St) : sw_J X ad t 110 [(0, .ref (ad 37)), (1, .int v1), (2, .int v2), (3, .int v3), (4, .int v4), (5, .int v5), (6, .int v6)] [.int s0] σ (fX10_straightest_B110 K63 v1 v2 v3 v4 v5 v6 s0 σ) := by
  unfold fX10_straightest_B110
  refine sw_istore (pc := 110) [(7, .int s0), (0, .ref (ad 37)), (1, .int v1), (2, .int v2), (3, .int v3), (4, .int v4), (5, .int v5), (6, .int v6)] C dX10_straightest_110 (by rw [hn]; decide) rfl ?_
  refine sw_iloadn (pc := 112) 2 3 C dX10_straightest_112 rfl ?_
  refine sw_if_eq (pc := 113) 125 C dX10_straightest_113 (by decide) ?_ ?_
  · refine sw_aloadn (pc := 125) 0 1 C dX10_straightest_125 rfl ?_
    refine sw_iload (pc := 126) 0 C dX10_straightest_126 rfl ?_
    refine sw_putL (pc := 128) C kpX10_190 sh37 ff10_17 dX10_straightest_128 (fun σ7 => ?_)
    refine sw_lpick (pc := 131) (L' := [(0, .ref (ad 37)), (1, .int v1), (2, .int v2), (3, .int v3), (4, .int v4), (5, .int v5), (6, .int v6), (7, .int s0)]) [1, 2, 3, 4, 5, 6, 7, 0] rfl ?_
    exact jX10_straightest_B131 C hn M hK63 _ _ _ _ _ _ _ _
  · refine sw_aloadn (pc := 116) 0 1 C dX10_straightest_116 rfl ?_
    refine sw_iload (pc := 117) 0 C dX10_straightest_117 rfl ?_
    refine sw_putL (pc := 119) C kpX10_187 sh37 ff10_16 dX10_straightest_119 (fun σ8 => ?_)
    refine sw_goto (pc := 122) 131 C dX10_straightest_122 (by decide) ?_
    refine sw_lpick (pc := 131) (L' := [(0, .ref (ad 37)), (1, .int v1), (2, .int v2), (3, .int v3), (4, .int v4), (5, .int v5), (6, .int v6), (7, .int s0)]) [1, 2, 3, 4, 5, 6, 7, 0] rfl ?_
    exact jX10_straightest_B131 C hn M hK63 _ _ _ _ _ _ _ _
set_option maxRecDepth 100000 in
set_option maxHeartbeats 4000000 in
theorem jX10_straightest_B76 {X : sw_X} {ad : Nat → Nat} {t : Int32 × sw_St} (C : sw_C X ad cX10_straightest RX10 5) (hn : sw_nL X = 8) (M : sw_Mi X ad (some .int) t)   {K63 : Int32 → Int32 → Int32 → Int32 → Int32 → Int32 → sw_St → Option (Int32 × sw_St)} (hK63 : ∀ (z1 : Int32) (z2 : Int32) (z3 : Int32) (z4 : Int32) (z5 : Int32) (z6 : Int32) (τ : sw_St), sw_J X ad t 63 [(0, .ref (ad 37)), (1, .int z1), (2, .int z2), (3, .int z3), (4, .int z4), (5, .int z5), (6, .int z6)] [] τ (K63 z1 z2 z3 z4 z5 z6 τ)) (v1 : Int32) (v2 : Int32) (v3 : Int32) (v4 : Int32) (v5 : Int32) (v6 : Int32) (s0 : Int32) (s1 : Int32) (σ : sw_St) : sw_J X ad t 76 [(0, .ref (ad 37)), (1, .int v1), (2, .int v2), (3, .int v3), (4, .int v4), (5, .int v5), (6, .int v6)] [.int s0, .int s1] σ (fX10_straightest_B76 K63 v1 v2 v3 v4 v5 v6 s0 s1 σ) := by
  unfold fX10_straightest_B76
  refine sw_icmp_ge (pc := 76) 165 C dX10_straightest_76 (by decide) ?_ ?_
  · refine sw_iloadn (pc := 165) 2 2 C dX10_straightest_165 rfl ?_
    refine sw_if_eq (pc := 166) 177 C dX10_straightest_166 (by decide) ?_ ?_
    · refine sw_aloadn (pc := 177) 0 0 C dX10_straightest_177 rfl ?_
      refine sw_iloadn (pc := 178) 3 3 C dX10_straightest_178 rfl ?_
      refine sw_putL (pc := 179) C kpX10_190 sh37 ff10_17 dX10_straightest_179 (fun σ5 => ?_)
      refine sw_lpick (pc := 182) (L' := [(1, .int v1), (4, .int v4), (5, .int v5)]) [1, 4, 5] rfl ?_
      exact jX10_straightest_B182 C hn M  _ _ _ _
    · refine sw_aloadn (pc := 169) 0 0 C dX10_straightest_169 rfl ?_
      refine sw_iloadn (pc := 170) 3 3 C dX10_straightest_170 rfl ?_
      refine sw_putL (pc := 171) C kpX10_187 sh37 ff10_16 dX10_straightest_171 (fun σ6 => ?_)
      refine sw_goto (pc := 174) 182 C dX10_straightest_174 (by decide) ?_
      refine sw_lpick (pc := 182) (L' := [(1, .int v1), (4, .int v4), (5, .int v5)]) [1, 4, 5] rfl ?_
      exact jX10_straightest_B182 C hn M  _ _ _ _
  · refine sw_iloadn (pc := 79) 2 2 C dX10_straightest_79 rfl ?_
    refine sw_if_ne (pc := 80) 88 C dX10_straightest_80 (by decide) ?_ ?_
    · refine sw_iload (pc := 88) 6 C dX10_straightest_88 rfl ?_
      refine sw_iconst (pc := 90) (v := 2) C dX10_straightest_90 (by decide) ?_
      refine sw_iremc (pc := 91) C dX10_straightest_91 (by decide) ?_
      refine sw_iconst (pc := 92) (v := 1) C dX10_straightest_92 (by decide) ?_
      refine sw_icmp_ne (pc := 93) 106 C dX10_straightest_93 (by decide) ?_ ?_
      · refine sw_iload (pc := 106) 6 C dX10_straightest_106 rfl ?_
        refine sw_iconst (pc := 108) (v := 2) C dX10_straightest_108 (by decide) ?_
        refine sw_idivc (pc := 109) C dX10_straightest_109 (by decide) ?_
        exact jX10_straightest_B110 C hn M hK63 _ _ _ _ _ _ _ _
      · refine sw_iload (pc := 96) 6 C dX10_straightest_96 rfl ?_
        refine sw_iconst (pc := 98) (v := 1) C dX10_straightest_98 (by decide) ?_
        refine sw_iadd (pc := 99) C dX10_straightest_99 ?_
        refine sw_ineg (pc := 100) C dX10_straightest_100 ?_
        refine sw_iconst (pc := 101) (v := 2) C dX10_straightest_101 (by decide) ?_
        refine sw_idivc (pc := 102) C dX10_straightest_102 (by decide) ?_
        refine sw_goto (pc := 103) 110 C dX10_straightest_103 (by decide) ?_
        exact jX10_straightest_B110 C hn M hK63 _ _ _ _ _ _ _ _
    · refine sw_iload (pc := 83) 6 C dX10_straightest_83 rfl ?_
      refine sw_goto (pc := 85) 110 C dX10_straightest_85 (by decide) ?_
      exact jX10_straightest_B110 C hn M hK63 _ _ _ _ _ _ _ _
set_option maxRecDepth 100000 in
set_option maxHeartbeats 4000000 in
theorem jX10_straightest_L63 {X : sw_X} {ad : Nat → Nat} {t : Int32 × sw_St} (C : sw_C X ad cX10_straightest RX10 5) (hn : sw_nL X = 8) (M : sw_Mi X ad (some .int) t)   : ∀ (n : Nat) (v1 : Int32) (v2 : Int32) (v3 : Int32) (v4 : Int32) (v5 : Int32) (v6 : Int32) (σ : sw_St), sw_J X ad t 63 [(0, .ref (ad 37)), (1, .int v1), (2, .int v2), (3, .int v3), (4, .int v4), (5, .int v5), (6, .int v6)] [] σ (fX10_straightest_L63  n v1 v2 v3 v4 v5 v6 σ) := by
  intro n
  induction n with
  | zero => exact fun _ _ _ _ _ _ _ => sw_none
  | succ n ih =>
    intro v1 v2 v3 v4 v5 v6 σ
    unfold fX10_straightest_L63
    refine sw_iload (pc := 63) 6 C dX10_straightest_63 rfl ?_
    refine sw_iloadn (pc := 65) 2 2 C dX10_straightest_65 rfl ?_
    refine sw_if_eq (pc := 66) 74 C dX10_straightest_66 (by decide) ?_ ?_
    · refine sw_bipush (pc := 74) (v := 10) C dX10_straightest_74 (by decide) ?_
      exact jX10_straightest_B76 C hn M ih _ _ _ _ _ _ _ _ _
    · refine sw_bipush (pc := 69) (v := 19) C dX10_straightest_69 (by decide) ?_
      refine sw_goto (pc := 71) 76 C dX10_straightest_71 (by decide) ?_
      exact jX10_straightest_B76 C hn M ih _ _ _ _ _ _ _ _ _
set_option maxRecDepth 100000 in
set_option maxHeartbeats 4000000 in
theorem jX10_straightest_B52 {X : sw_X} {ad : Nat → Nat} {t : Int32 × sw_St} (C : sw_C X ad cX10_straightest RX10 5) (hn : sw_nL X = 8) (M : sw_Mi X ad (some .int) t)   (v1 : Int32) (v2 : Int32) (s0 : Int32) (σ : sw_St) : sw_J X ad t 52 [(0, .ref (ad 37)), (1, .int v1), (2, .int v2)] [.int s0] σ (fX10_straightest_B52  v1 v2 s0 σ) := by
  unfold fX10_straightest_B52
  refine sw_istoren (pc := 52) 3 [(3, .int s0), (0, .ref (ad 37)), (1, .int v1), (2, .int v2)] C dX10_straightest_52 (by rw [hn]; decide) rfl ?_
  refine sw_iconst (pc := 53) (v := 0) C dX10_straightest_53 (by decide) ?_
  refine sw_istore (pc := 54) [(4, .int 0), (3, .int s0), (0, .ref (ad 37)), (1, .int v1), (2, .int v2)] C dX10_straightest_54 (by rw [hn]; decide) rfl ?_
  refine sw_bipush (pc := 56) (v := (-9)) C dX10_straightest_56 (by decide) ?_
  refine sw_istore (pc := 58) [(5, .int (-9)), (4, .int 0), (3, .int s0), (0, .ref (ad 37)), (1, .int v1), (2, .int v2)] C dX10_straightest_58 (by rw [hn]; decide) rfl ?_
  refine sw_iconst (pc := 60) (v := 0) C dX10_straightest_60 (by decide) ?_
  refine sw_istore (pc := 61) [(6, .int 0), (5, .int (-9)), (4, .int 0), (3, .int s0), (0, .ref (ad 37)), (1, .int v1), (2, .int v2)] C dX10_straightest_61 (by rw [hn]; decide) rfl ?_
  refine sw_lpick (pc := 63) (L' := [(0, .ref (ad 37)), (1, .int v1), (2, .int v2), (3, .int s0), (4, .int 0), (5, .int (-9)), (6, .int 0)]) [4, 5, 6, 3, 2, 1, 0] rfl ?_
  exact jX10_straightest_L63 C hn M  _ _ _ _ _ _ _ _
set_option maxRecDepth 100000 in
set_option maxHeartbeats 4000000 in
theorem jX10_straightest_B36 {X : sw_X} {ad : Nat → Nat} {t : Int32 × sw_St} (C : sw_C X ad cX10_straightest RX10 5) (hn : sw_nL X = 8) (M : sw_Mi X ad (some .int) t)   (v1 : Int32) (s0 : Int32) (σ : sw_St) : sw_J X ad t 36 [(0, .ref (ad 37)), (1, .int v1)] [.int s0] σ (fX10_straightest_B36  v1 s0 σ) := by
  unfold fX10_straightest_B36
  refine sw_istoren (pc := 36) 2 [(2, .int s0), (0, .ref (ad 37)), (1, .int v1)] C dX10_straightest_36 (by rw [hn]; decide) rfl ?_
  refine sw_iloadn (pc := 37) 2 0 C dX10_straightest_37 rfl ?_
  refine sw_if_eq (pc := 38) 48 C dX10_straightest_38 (by decide) ?_ ?_
  · refine sw_aloadn (pc := 48) 0 1 C dX10_straightest_48 rfl ?_
    refine sw_getI (pc := 49) C kfX10_190 sh37 ff10_17 dX10_straightest_49 ?_
    refine sw_lpick (pc := 52) (L' := [(0, .ref (ad 37)), (1, .int v1), (2, .int s0)]) [1, 2, 0] rfl ?_
    exact jX10_straightest_B52 C hn M  _ _ _ _
  · refine sw_aloadn (pc := 41) 0 1 C dX10_straightest_41 rfl ?_
    refine sw_getI (pc := 42) C kfX10_187 sh37 ff10_16 dX10_straightest_42 ?_
    refine sw_goto (pc := 45) 52 C dX10_straightest_45 (by decide) ?_
    refine sw_lpick (pc := 52) (L' := [(0, .ref (ad 37)), (1, .int v1), (2, .int s0)]) [1, 2, 0] rfl ?_
    exact jX10_straightest_B52 C hn M  _ _ _ _
set_option maxRecDepth 100000 in
set_option maxHeartbeats 4000000 in
theorem mX10_straightest   (a0 : Int32) : sw_Ki yX10_straightest cX10_straightest 8 (some .int) 5 (fun ad => [.ref (ad 37), .int a0]) (fX10_straightest a0) := by
  refine sw_enteri (by decide) (fun ad => Nat.le_of_ble_eq_true rfl) (fun X ad t σ C hn M => ?_)
  change sw_J X ad t 0 [(0, .ref (ad 37)), (1, .int a0)] [] σ _
  replace C : sw_C X ad cX10_straightest RX10 5 := C
  unfold fX10_straightest
  refine sw_iloadn (pc := 0) 1 1 C dX10_straightest_0 rfl ?_
  refine sw_i2l (pc := 1) C dX10_straightest_1 ?_
  refine sw_lconst (pc := 2) (v := 0) C dX10_straightest_2 (by decide) ?_
  refine sw_ldc2 (pc := 3) C dX10_straightest_3 klX10_223 ?_
  refine sw_callSi (pc := 6) C (mX10_in (Int32.toInt64 a0) (0 : Int64) (3 : Int64)) sgX10_in mlX10_105 dX10_straightest_6 (by decide) [.long (Int32.toInt64 a0), .long (0 : Int64), .long (3 : Int64)] [] rfl rfl rfl (Nat.le_of_ble_eq_true rfl) (fun r1 σ2 => ?_)
  refine sw_if_ne (pc := 9) 15 C dX10_straightest_9 (by decide) ?_ ?_
  · refine sw_aloadn (pc := 15) 0 0 C dX10_straightest_15 rfl ?_
    refine sw_callVi (pc := 16) C mX10_isBare sgX10_isBare mlX10_216 dX10_straightest_16 (by decide) [] [] sh37 rfl rfl rfl rfl (Nat.le_of_ble_eq_true rfl) (fun r3 σ4 => ?_)
    refine sw_if_eq (pc := 19) 25 C dX10_straightest_19 (by decide) ?_ ?_
    · refine sw_iloadn (pc := 25) 1 1 C dX10_straightest_25 rfl ?_
      refine sw_iconst (pc := 26) (v := 2) C dX10_straightest_26 (by decide) ?_
      refine sw_iremc (pc := 27) C dX10_straightest_27 (by decide) ?_
      refine sw_if_ne (pc := 28) 35 C dX10_straightest_28 (by decide) ?_ ?_
      · refine sw_iconst (pc := 35) (v := 0) C dX10_straightest_35 (by decide) ?_
        exact jX10_straightest_B36 C hn M  _ _ _
      · refine sw_iconst (pc := 31) (v := 1) C dX10_straightest_31 (by decide) ?_
        refine sw_goto (pc := 32) 36 C dX10_straightest_32 (by decide) ?_
        exact jX10_straightest_B36 C hn M  _ _ _
    · refine sw_bipush (pc := 22) (v := (-3)) C dX10_straightest_22 (by decide) ?_
      exact sw_reti (pc := 24) C M dX10_straightest_24
  · refine sw_bipush (pc := 12) (v := (-2)) C dX10_straightest_12 (by decide) ?_
    exact sw_reti (pc := 14) C M dX10_straightest_14
