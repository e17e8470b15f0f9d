set_option maxRecDepth 100000 in
set_option maxHeartbeats 4000000 in
theorem jX10_log_B247 {X : sw_X} {ad : Nat → Nat} {t : Int32 × sw_St} (C : sw_C X ad cX10_log RX10 4) (hn : sw_nL X = 11) (M : sw_Mi X ad (some .int) t)   (s0 : Int32) (σ : sw_St) : sw_J X ad t 247 [] [.int s0, .ref (ad 37)] σ (fX10_log_B247  s0 σ) := by
  unfold fX10_log_B247
  refine sw_callVi (pc := 247) C (mX10_refused s0) sgX10_refused mlX10_99 dX10_log_247 (by decide) [.int s0] [] sh37 rfl rfl rfl rfl (Nat.le_of_ble_eq_true rfl) (fun r22 σ23 => ?_)
  exact sw_reti (pc := 250) C M dX10_log_250
set_option maxRecDepth 100000 in
set_option maxHeartbeats 4000000 in
theorem jX10_log_B203 {X : sw_X} {ad : Nat → Nat} {t : Int32 × sw_St} (C : sw_C X ad cX10_log RX10 4) (hn : sw_nL X = 11) (M : sw_Mi X ad (some .int) t)   {K159 : Int32 → Int32 → Int32 → Int32 → Int32 → sw_St → Option (Int32 × sw_St)} (hK159 : ∀ (z4 : Int32) (z5 : Int32) (z7 : Int32) (z8 : Int32) (z9 : Int32) (τ : sw_St), sw_J X ad t 159 [(0, .ref (ad 37)), (4, .int z4), (5, .int z5), (7, .int z7), (8, .int z8), (9, .int z9)] [] τ (K159 z4 z5 z7 z8 z9 τ)) (v4 : Int32) (v5 : Int32) (v7 : Int32) (v8 : Int32) (v9 : Int32) (σ : sw_St) : sw_J X ad t 203 [(0, .ref (ad 37)), (4, .int v4), (5, .int v5), (7, .int v7), (8, .int v8), (9, .int v9)] [] σ (fX10_log_B203 K159 v4 v5 v7 v8 v9 σ) := by
  unfold fX10_log_B203
  refine sw_iinc (pc := 203) (v9 + 1) 5 [(9, .int (v9 + 1)), (0, .ref (ad 37)), (4, .int v4), (5, .int v5), (7, .int v7), (8, .int v8)] C dX10_log_203 (by rw [hn]; decide) rfl rfl rfl ?_
  refine sw_goto (pc := 206) 159 C dX10_log_206 (by decide) ?_
  refine sw_lpick (pc := 159) (L' := [(0, .ref (ad 37)), (4, .int v4), (5, .int v5), (7, .int v7), (8, .int v8), (9, .int (v9 + 1))]) [1, 2, 3, 4, 5, 0] rfl ?_
  exact hK159 _ _ _ _ _ _
set_option maxRecDepth 100000 in
set_option maxHeartbeats 4000000 in
theorem jX10_log_B193 {X : sw_X} {ad : Nat → Nat} {t : Int32 × sw_St} (C : sw_C X ad cX10_log RX10 4) (hn : sw_nL X = 11) (M : sw_Mi X ad (some .int) t)   {K159 : Int32 → Int32 → Int32 → Int32 → Int32 → sw_St → Option (Int32 × sw_St)} (hK159 : ∀ (z4 : Int32) (z5 : Int32) (z7 : Int32) (z8 : Int32) (z9 : Int32) (τ : sw_St), sw_J X ad t 159 [(0, .ref (ad 37)), (4, .int z4), (5, .int z5), (7, .int z7), (8, .int z8), (9, .int z9)] [] τ (K159 z4 z5 z7 z8 z9 τ)) (v4 : Int32) (v5 : Int32) (v7 : Int32) (v9 : Int32) (v10 : Int32) (σ : sw_St) : sw_J X ad t 193 [(0, .ref (ad 37)), (4, .int v4), (5, .int v5), (7, .int v7), (9, .int v9), (10, .int v10)] [] σ (fX10_log_B193 K159 v4 v5 v7 v9 v10 σ) := by
  unfold fX10_log_B193
  refine sw_iload (pc := 193) 5 C dX10_log_193 rfl ?_
  refine sw_istore (pc := 195) [(8, .int v10), (0, .ref (ad 37)), (4, .int v4), (5, .int v5), (7, .int v7), (9, .int v9), (10, .int v10)] C dX10_log_195 (by rw [hn]; decide) rfl ?_
  refine sw_aloadn (pc := 197) 0 1 C dX10_log_197 rfl ?_
  refine sw_iload (pc := 198) 5 C dX10_log_198 rfl ?_
  refine sw_putL (pc := 200) C kpX10_294 sh37 ff10_40 dX10_log_200 (fun σ24 => ?_)
  refine sw_lpick (pc := 203) (L' := [(0, .ref (ad 37)), (4, .int v4), (5, .int v5), (7, .int v7), (8, .int v10), (9, .int v9)]) [1, 2, 3, 4, 0, 5] rfl ?_
  exact jX10_log_B203 C hn M hK159 _ _ _ _ _ _
set_option maxRecDepth 100000 in
set_option maxHeartbeats 4000000 in
theorem jX10_log_L159 {X : sw_X} {ad : Nat → Nat} {t : Int32 × sw_St} (C : sw_C X ad cX10_log RX10 4) (hn : sw_nL X = 11) (M : sw_Mi X ad (some .int) t)   : ∀ (n : Nat) (v4 : Int32) (v5 : Int32) (v7 : Int32) (v8 : Int32) (v9 : Int32) (σ : sw_St), sw_J X ad t 159 [(0, .ref (ad 37)), (4, .int v4), (5, .int v5), (7, .int v7), (8, .int v8), (9, .int v9)] [] σ (fX10_log_L159  n v4 v5 v7 v8 v9 σ) := by
  intro n
  induction n with
  | zero => exact fun _ _ _ _ _ _ => sw_none
  | succ n ih =>
    intro v4 v5 v7 v8 v9 σ
    unfold fX10_log_L159
    refine sw_iload (pc := 159) 5 C dX10_log_159 rfl ?_
    refine sw_iload (pc := 161) 3 C dX10_log_161 rfl ?_
    refine sw_icmp_ge (pc := 163) 209 C dX10_log_163 (by decide) ?_ ?_
    · refine sw_aloadn (pc := 209) 0 0 C dX10_log_209 rfl ?_
      refine sw_iload (pc := 210) 2 C dX10_log_210 rfl ?_
      refine sw_if_ge (pc := 212) 220 C dX10_log_212 (by decide) ?_ ?_
      · refine sw_iload (pc := 220) 2 C dX10_log_220 rfl ?_
        refine sw_iload (pc := 222) 1 C dX10_log_222 rfl ?_
        refine sw_iconst (pc := 224) (v := 1) C dX10_log_224 (by decide) ?_
        refine sw_isub (pc := 225) C dX10_log_225 ?_
        refine sw_icmp_ge (pc := 226) 245 C dX10_log_226 (by decide) ?_ ?_
        · refine sw_bipush (pc := 245) (v := (-9)) C dX10_log_245 (by decide) ?_
          refine sw_lpick (pc := 247) (L' := []) [] rfl ?_
          exact jX10_log_B247 C hn M  _ _
        · refine sw_aloadn (pc := 229) 0 0 C dX10_log_229 rfl ?_
          refine sw_getI (pc := 230) C kfX10_294 sh37 ff10_40 dX10_log_230 ?_
          refine sw_iload (pc := 233) 1 C dX10_log_233 rfl ?_
          refine sw_iconst (pc := 235) (v := 1) C dX10_log_235 (by decide) ?_
          refine sw_isub (pc := 236) C dX10_log_236 ?_
          refine sw_iload (pc := 237) 2 C dX10_log_237 rfl ?_
          refine sw_callSi (pc := 239) C (mX10_cutIn (σ 37 40) (v4 - 1) v5) sgX10_cutIn mlX10_287 dX10_log_239 (by decide) [.int (σ 37 40), .int (v4 - 1), .int v5] [.ref (ad 37)] rfl rfl rfl (Nat.le_of_ble_eq_true rfl) (fun r13 σ14 => ?_)
          refine sw_goto (pc := 242) 247 C dX10_log_242 (by decide) ?_
          refine sw_lpick (pc := 247) (L' := []) [] rfl ?_
          exact jX10_log_B247 C hn M  _ _
      · refine sw_iload (pc := 215) 4 C dX10_log_215 rfl ?_
        refine sw_goto (pc := 217) 247 C dX10_log_217 (by decide) ?_
        refine sw_lpick (pc := 247) (L' := []) [] rfl ?_
        exact jX10_log_B247 C hn M  _ _
    · refine sw_aloadn (pc := 166) 0 0 C dX10_log_166 rfl ?_
      refine sw_iload (pc := 167) 5 C dX10_log_167 rfl ?_
      refine sw_iload (pc := 169) 1 C dX10_log_169 rfl ?_
      refine sw_callVi (pc := 171) C (mX10_costOfOrder v9 v4) sgX10_costOfOrder mlX10_297 dX10_log_171 (by decide) [.int v9, .int v4] [] sh37 rfl rfl rfl rfl (Nat.le_of_ble_eq_true rfl) (fun r15 σ16 => ?_)
      refine sw_istore (pc := 174) [(10, .int r15), (0, .ref (ad 37)), (4, .int v4), (5, .int v5), (7, .int v7), (8, .int v8), (9, .int v9)] C dX10_log_174 (by rw [hn]; decide) rfl ?_
      refine sw_iload (pc := 176) 0 C dX10_log_176 rfl ?_
      refine sw_if_lt (pc := 178) 203 C dX10_log_178 (by decide) ?_ ?_
      · refine sw_lpick (pc := 203) (L' := [(0, .ref (ad 37)), (4, .int v4), (5, .int v5), (7, .int v7), (8, .int v8), (9, .int v9)]) [1, 2, 3, 4, 5, 6] rfl ?_
        exact jX10_log_B203 C hn M ih _ _ _ _ _ _
      · refine sw_iload (pc := 181) 5 C dX10_log_181 rfl ?_
        refine sw_if_lt (pc := 183) 193 C dX10_log_183 (by decide) ?_ ?_
        · refine sw_lpick (pc := 193) (L' := [(0, .ref (ad 37)), (4, .int v4), (5, .int v5), (7, .int v7), (9, .int v9), (10, .int r15)]) [1, 2, 3, 4, 6, 0] rfl ?_
          exact jX10_log_B193 C hn M ih _ _ _ _ _ _
        · refine sw_iload (pc := 186) 0 C dX10_log_186 rfl ?_
          refine sw_iload (pc := 188) 5 C dX10_log_188 rfl ?_
          refine sw_icmp_ge (pc := 190) 203 C dX10_log_190 (by decide) ?_ ?_
          · refine sw_lpick (pc := 203) (L' := [(0, .ref (ad 37)), (4, .int v4), (5, .int v5), (7, .int v7), (8, .int v8), (9, .int v9)]) [1, 2, 3, 4, 5, 6] rfl ?_
            exact jX10_log_B203 C hn M ih _ _ _ _ _ _
          · refine sw_lpick (pc := 193) (L' := [(0, .ref (ad 37)), (4, .int v4), (5, .int v5), (7, .int v7), (9, .int v9), (10, .int r15)]) [1, 2, 3, 4, 6, 0] rfl ?_
            exact jX10_log_B193 C hn M ih _ _ _ _ _ _
set_option maxRecDepth 100000 in
set_option maxHeartbeats 4000000 in
theorem jX10_log_B89 {X : sw_X} {ad : Nat → Nat} {t : Int32 × sw_St} (C : sw_C X ad cX10_log RX10 4) (hn : sw_nL X = 11) (M : sw_Mi X ad (some .int) t)   {K48 : Int32 → Int32 → Int32 → Int32 → Int32 → Int32 → sw_St → Option (Int32 × sw_St)} (hK48 : ∀ (z1 : Int32) (z3 : Int32) (z4 : Int32) (z5 : Int32) (z7 : Int32) (z8 : Int32) (τ : sw_St), sw_J X ad t 48 [(0, .ref (ad 37)), (1, .int z1), (3, .int z3), (4, .int z4), (5, .int z5), (7, .int z7), (8, .int z8)] [] τ (K48 z1 z3 z4 z5 z7 z8 τ)) (v1 : Int32) (v3 : Int32) (v4 : Int32) (v5 : Int32) (v8 : Int32) (s0 : Int32) (s1 : Int32) (σ : sw_St) : sw_J X ad t 89 [(0, .ref (ad 37)), (1, .int v1), (3, .int v3), (4, .int v4), (5, .int v5), (8, .int v8)] [.int s0, .int s1] σ (fX10_log_B89 K48 v1 v3 v4 v5 v8 s0 s1 σ) := by
  unfold fX10_log_B89
  refine sw_imul (pc := 89) C dX10_log_89 ?_
  refine sw_leti (fun x17 => ?_)
  refine sw_istore (pc := 90) [(7, .int x17), (0, .ref (ad 37)), (1, .int v1), (3, .int v3), (4, .int v4), (5, .int v5), (8, .int v8)] C dX10_log_90 (by rw [hn]; decide) rfl ?_
  refine sw_aloadn (pc := 92) 0 1 C dX10_log_92 rfl ?_
  refine sw_getR (pc := 93) C kfX10_70 sh37 ff10_39 dX10_log_93 ?_
  refine sw_iload (pc := 96) 6 C dX10_log_96 rfl ?_
  refine sw_iald (pc := 98) C sh58 dX10_log_98 ?_
  refine sw_i2l (pc := 99) C dX10_log_99 ?_
  refine sw_ldc2 (pc := 100) C dX10_log_100 klX10_183 ?_
  refine sw_ldc2 (pc := 103) C dX10_log_103 klX10_122 ?_
  refine sw_callSi (pc := 106) C (mX10_in (Int32.toInt64 (σ 58 (Int32.toNatClampNeg v8))) (-9 : Int64) (9 : Int64)) sgX10_in mlX10_105 dX10_log_106 (by decide) [.long (Int32.toInt64 (σ 58 (Int32.toNatClampNeg v8))), .long (-9 : Int64), .long (9 : Int64)] [] rfl rfl rfl (Nat.le_of_ble_eq_true rfl) (fun r18 σ19 => ?_)
  refine sw_if_ne (pc := 109) 119 C dX10_log_109 (by decide) ?_ ?_
  · refine sw_iinc (pc := 119) (v8 + 1) 6 [(8, .int (v8 + 1)), (7, .int x17), (0, .ref (ad 37)), (1, .int v1), (3, .int v3), (4, .int v4), (5, .int v5)] C dX10_log_119 (by rw [hn]; decide) rfl rfl rfl ?_
    refine sw_goto (pc := 122) 48 C dX10_log_122 (by decide) ?_
    refine sw_lpick (pc := 48) (L' := [(0, .ref (ad 37)), (1, .int v1), (3, .int v3), (4, .int v4), (5, .int v5), (7, .int x17), (8, .int (v8 + 1))]) [2, 3, 4, 5, 6, 1, 0] rfl ?_
    exact hK48 _ _ _ _ _ _ _
  · refine sw_aloadn (pc := 112) 0 1 C dX10_log_112 rfl ?_
    refine sw_bipush (pc := 113) (v := (-2)) C dX10_log_113 (by decide) ?_
    refine sw_callVi (pc := 115) C (mX10_refused (-2)) sgX10_refused mlX10_99 dX10_log_115 (by decide) [.int (-2)] [] sh37 rfl rfl rfl rfl (Nat.le_of_ble_eq_true rfl) (fun r20 σ21 => ?_)
    exact sw_reti (pc := 118) C M dX10_log_118
set_option maxRecDepth 100000 in
set_option maxHeartbeats 4000000 in
theorem jX10_log_L48 {X : sw_X} {ad : Nat → Nat} {t : Int32 × sw_St} (C : sw_C X ad cX10_log RX10 4) (hn : sw_nL X = 11) (M : sw_Mi X ad (some .int) t)   : ∀ (n : Nat) (v1 : Int32) (v3 : Int32) (v4 : Int32) (v5 : Int32) (v7 : Int32) (v8 : Int32) (σ : sw_St), sw_J X ad t 48 [(0, .ref (ad 37)), (1, .int v1), (3, .int v3), (4, .int v4), (5, .int v5), (7, .int v7), (8, .int v8)] [] σ (fX10_log_L48  n v1 v3 v4 v5 v7 v8 σ) := by
  intro n
  induction n with
  | zero => exact fun _ _ _ _ _ _ _ => sw_none
  | succ n ih =>
    intro v1 v3 v4 v5 v7 v8 σ
    unfold fX10_log_L48
    refine sw_iload (pc := 48) 6 C dX10_log_48 rfl ?_
    refine sw_iload (pc := 50) 3 C dX10_log_50 rfl ?_
    refine sw_icmp_ge (pc := 52) 125 C dX10_log_52 (by decide) ?_ ?_
    · refine sw_iload (pc := 125) 4 C dX10_log_125 rfl ?_
      refine sw_i2l (pc := 127) C dX10_log_127 ?_
      refine sw_ldc2 (pc := 128) C dX10_log_128 klX10_292 ?_
      refine sw_ldc2 (pc := 131) C dX10_log_131 klX10_185 ?_
      refine sw_callSi (pc := 134) C (mX10_in (Int32.toInt64 v5) (-1 : Int64) (5 : Int64)) sgX10_in mlX10_105 dX10_log_134 (by decide) [.long (Int32.toInt64 v5), .long (-1 : Int64), .long (5 : Int64)] [] rfl rfl rfl (Nat.le_of_ble_eq_true rfl) (fun r7 σ8 => ?_)
      refine sw_if_ne (pc := 137) 146 C dX10_log_137 (by decide) ?_ ?_
      · refine sw_aloadn (pc := 146) 0 0 C dX10_log_146 rfl ?_
        refine sw_bipush (pc := 147) (v := (-9)) C dX10_log_147 (by decide) ?_
        refine sw_putL (pc := 149) C kpX10_294 sh37 ff10_40 dX10_log_149 (fun σ9 => ?_)
        refine sw_bipush (pc := 152) (v := (-9)) C dX10_log_152 (by decide) ?_
        refine sw_istore (pc := 154) [(8, .int (-9)), (0, .ref (ad 37)), (1, .int v1), (3, .int v3), (4, .int v4), (5, .int v5), (7, .int v7)] C dX10_log_154 (by rw [hn]; decide) rfl ?_
        refine sw_iconst (pc := 156) (v := 0) C dX10_log_156 (by decide) ?_
        refine sw_istore (pc := 157) [(9, .int 0), (8, .int (-9)), (0, .ref (ad 37)), (1, .int v1), (3, .int v3), (4, .int v4), (5, .int v5), (7, .int v7)] C dX10_log_157 (by rw [hn]; decide) rfl ?_
        refine sw_lpick (pc := 159) (L' := [(0, .ref (ad 37)), (4, .int v4), (5, .int v5), (7, .int v7), (8, .int (-9)), (9, .int 0)]) [2, 5, 6, 7, 1, 0] rfl ?_
        exact jX10_log_L159 C hn M  _ _ _ _ _ _ _
      · refine sw_aloadn (pc := 140) 0 0 C dX10_log_140 rfl ?_
        refine sw_iconst (pc := 141) (v := (-1)) C dX10_log_141 (by decide) ?_
        refine sw_callVi (pc := 142) C (mX10_refused (-1)) sgX10_refused mlX10_99 dX10_log_142 (by decide) [.int (-1)] [] sh37 rfl rfl rfl rfl (Nat.le_of_ble_eq_true rfl) (fun r10 σ11 => ?_)
        exact sw_reti (pc := 145) C M dX10_log_145
    · refine sw_aloadn (pc := 55) 0 0 C dX10_log_55 rfl ?_
      refine sw_getR (pc := 56) C kfX10_70 sh37 ff10_39 dX10_log_56 ?_
      refine sw_iload (pc := 59) 6 C dX10_log_59 rfl ?_
      refine sw_aloadn (pc := 61) 0 0 C dX10_log_61 rfl ?_
      refine sw_getR (pc := 62) C kfX10_79 sh37 ff10_43 dX10_log_62 ?_
      refine sw_bipush (pc := 65) (v := 80) C dX10_log_65 (by decide) ?_
      refine sw_iloadn (pc := 67) 1 1 C dX10_log_67 rfl ?_
      refine sw_imul (pc := 68) C dX10_log_68 ?_
      refine sw_iloadn (pc := 69) 3 2 C dX10_log_69 rfl ?_
      refine sw_iadd (pc := 70) C dX10_log_70 ?_
      refine sw_iload (pc := 71) 6 C dX10_log_71 rfl ?_
      refine sw_iadd (pc := 73) C dX10_log_73 ?_
      refine sw_iald (pc := 74) C sh61 dX10_log_74 ?_
      refine sw_iastL (pc := 75) C sh58 dX10_log_75 (fun σ12 => ?_)
      refine sw_iload (pc := 76) 5 C dX10_log_76 rfl ?_
      refine sw_iload (pc := 78) 6 C dX10_log_78 rfl ?_
      refine sw_if_le (pc := 80) 88 C dX10_log_80 (by decide) ?_ ?_
      · refine sw_iconst (pc := 88) (v := 1) C dX10_log_88 (by decide) ?_
        refine sw_lpick (pc := 89) (L' := [(0, .ref (ad 37)), (1, .int v1), (3, .int v3), (4, .int v4), (5, .int v5), (8, .int v8)]) [0, 1, 2, 3, 4, 6] rfl ?_
        exact jX10_log_B89 C hn M ih _ _ _ _ _ _ _ _
      · refine sw_bipush (pc := 83) (v := 7) C dX10_log_83 (by decide) ?_
        refine sw_goto (pc := 85) 89 C dX10_log_85 (by decide) ?_
        refine sw_lpick (pc := 89) (L' := [(0, .ref (ad 37)), (1, .int v1), (3, .int v3), (4, .int v4), (5, .int v5), (8, .int v8)]) [0, 1, 2, 3, 4, 6] rfl ?_
        exact jX10_log_B89 C hn M ih _ _ _ _ _ _ _ _
set_option maxRecDepth 100000 in
set_option maxHeartbeats 4000000 in
theorem mX10_log   (a0 : Int32) (a1 : Int32) (a2 : Int32) (a3 : Int32) (a4 : Int32) : sw_Ki yX10_log cX10_log 11 (some .int) 4 (fun ad => [.ref (ad 37), .int a0, .int a1, .int a2, .int a3, .int a4]) (fX10_log a0 a1 a2 a3 a4) := by
  refine sw_enteri (by decide) (fun ad => Nat.le_of_ble_eq_true rfl) (fun X ad t σ C hn M => ?_)
  change sw_J X ad t 0 [(0, .ref (ad 37)), (1, .int a0), (2, .int a1), (3, .int a2), (4, .int a3), (5, .int a4)] [] σ _
  replace C : sw_C X ad cX10_log RX10 4 := C
  unfold fX10_log
  refine sw_aloadn (pc := 0) 0 0 C dX10_log_0 rfl ?_
  refine sw_iloadn (pc := 1) 1 1 C dX10_log_1 rfl ?_
  refine sw_iloadn (pc := 2) 2 2 C dX10_log_2 rfl ?_
  refine sw_iloadn (pc := 3) 3 3 C dX10_log_3 rfl ?_
  refine sw_iload (pc := 4) 4 C dX10_log_4 rfl ?_
  refine sw_i2l (pc := 6) C dX10_log_6 ?_
  refine sw_callVi (pc := 7) C (mX10_barred a0 a1 a2 (Int32.toInt64 a3)) sgX10_barred mlX10_134 dX10_log_7 (by decide) [.int a0, .int a1, .int a2, .long (Int32.toInt64 a3)] [] sh37 rfl rfl rfl rfl (Nat.le_of_ble_eq_true rfl) (fun r1 σ2 => ?_)
  refine sw_istore (pc := 10) [(6, .int r1), (0, .ref (ad 37)), (1, .int a0), (2, .int a1), (3, .int a2), (4, .int a3), (5, .int a4)] C dX10_log_10 (by rw [hn]; decide) rfl ?_
  refine sw_iload (pc := 12) 0 C dX10_log_12 rfl ?_
  refine sw_if_ge (pc := 14) 20 C dX10_log_14 (by decide) ?_ ?_
  · refine sw_iload (pc := 20) 5 C dX10_log_20 rfl ?_
    refine sw_i2l (pc := 22) C dX10_log_22 ?_
    refine sw_ldc2 (pc := 23) C dX10_log_23 klX10_103 ?_
    refine sw_ldc2 (pc := 26) C dX10_log_26 klX10_290 ?_
    refine sw_callSi (pc := 29) C (mX10_in (Int32.toInt64 a3) (2 : Int64) (7 : Int64)) sgX10_in mlX10_105 dX10_log_29 (by decide) [.long (Int32.toInt64 a3), .long (2 : Int64), .long (7 : Int64)] [] rfl rfl rfl (Nat.le_of_ble_eq_true rfl) (fun r3 σ4 => ?_)
    refine sw_if_ne (pc := 32) 42 C dX10_log_32 (by decide) ?_ ?_
    · refine sw_iconst (pc := 42) (v := 1) C dX10_log_42 (by decide) ?_
      refine sw_istore (pc := 43) [(7, .int 1), (6, .int r1), (0, .ref (ad 37)), (1, .int a0), (2, .int a1), (3, .int a2), (4, .int a3), (5, .int a4)] C dX10_log_43 (by rw [hn]; decide) rfl ?_
      refine sw_iconst (pc := 45) (v := 0) C dX10_log_45 (by decide) ?_
      refine sw_istore (pc := 46) [(8, .int 0), (7, .int 1), (6, .int r1), (0, .ref (ad 37)), (1, .int a0), (2, .int a1), (3, .int a2), (4, .int a3), (5, .int a4)] C dX10_log_46 (by rw [hn]; decide) rfl ?_
      refine sw_lpick (pc := 48) (L' := [(0, .ref (ad 37)), (1, .int a0), (3, .int a2), (4, .int a3), (5, .int a4), (7, .int 1), (8, .int 0)]) [3, 4, 6, 7, 8, 1, 0] rfl ?_
      exact jX10_log_L48 C hn M  _ _ _ _ _ _ _ _
    · refine sw_aloadn (pc := 35) 0 1 C dX10_log_35 rfl ?_
      refine sw_bipush (pc := 36) (v := (-2)) C dX10_log_36 (by decide) ?_
      refine sw_callVi (pc := 38) C (mX10_refused (-2)) sgX10_refused mlX10_99 dX10_log_38 (by decide) [.int (-2)] [] sh37 rfl rfl rfl rfl (Nat.le_of_ble_eq_true rfl) (fun r5 σ6 => ?_)
      exact sw_reti (pc := 41) C M dX10_log_41
  · refine sw_iload (pc := 17) 0 C dX10_log_17 rfl ?_
    exact sw_reti (pc := 19) C M dX10_log_19
set_option maxRecDepth 100000 in
set_option maxHeartbeats 4000000 in
theorem jX10_sheet_B31 {X : sw_X} {ad : Nat → Nat} {t : Int32 × sw_St} (C : sw_C X ad cX10_sheet RX10 3) (hn : sw_nL X = 5) (M : sw_Mi X ad (some .int) t)    (σ : sw_St) : sw_J X ad t 31 [(0, .ref (ad 37))] [] σ (fX10_sheet_B31   σ) := by
  unfold fX10_sheet_B31
  refine sw_aloadn (pc := 31) 0 0 C dX10_sheet_31 rfl ?_
  refine sw_bipush (pc := 32) (v := (-2)) C dX10_sheet_32 (by decide) ?_
  refine sw_callVi (pc := 34) C (mX10_refused (-2)) sgX10_refused mlX10_99 dX10_sheet_34 (by decide) [.int (-2)] [] sh37 rfl rfl rfl rfl (Nat.le_of_ble_eq_true rfl) (fun r11 σ12 => ?_)
  exact sw_reti (pc := 37) C M dX10_sheet_37
set_option maxRecDepth 100000 in
set_option maxHeartbeats 4000000 in
theorem jX10_sheet_L65 {X : sw_X} {ad : Nat → Nat} {t : Int32 × sw_St} (C : sw_C X ad cX10_sheet RX10 3) (hn : sw_nL X = 5) (M : sw_Mi X ad (some .int) t)   : ∀ (n : Nat) (v1 : Int32) (v3 : Int32) (v4 : Int32) (σ : sw_St), sw_J X ad t 65 [(0, .ref (ad 37)), (1, .int v1), (3, .int v3), (4, .int v4)] [] σ (fX10_sheet_L65  n v1 v3 v4 σ) := by
  intro n
  induction n with
  | zero => exact fun _ _ _ _ => sw_none
  | succ n ih =>
    intro v1 v3 v4 σ
    unfold fX10_sheet_L65
    refine sw_iload (pc := 65) 3 C dX10_sheet_65 rfl ?_
    refine sw_iloadn (pc := 67) 3 2 C dX10_sheet_67 rfl ?_
    refine sw_icmp_ge (pc := 68) 90 C dX10_sheet_68 (by decide) ?_ ?_
    · refine sw_aloadn (pc := 90) 0 0 C dX10_sheet_90 rfl ?_
      refine sw_iconst (pc := 91) (v := 1) C dX10_sheet_91 (by decide) ?_
      refine sw_callVi (pc := 92) C (mX10_refused 1) sgX10_refused mlX10_99 dX10_sheet_92 (by decide) [.int 1] [] sh37 rfl rfl rfl rfl (Nat.le_of_ble_eq_true rfl) (fun r13 σ14 => ?_)
      exact sw_reti (pc := 95) C M dX10_sheet_95
    · refine sw_aloadn (pc := 71) 0 0 C dX10_sheet_71 rfl ?_
      refine sw_getR (pc := 72) C kfX10_79 sh37 ff10_43 dX10_sheet_72 ?_
      refine sw_bipush (pc := 75) (v := 80) C dX10_sheet_75 (by decide) ?_
      refine sw_iloadn (pc := 77) 1 1 C dX10_sheet_77 rfl ?_
      refine sw_imul (pc := 78) C dX10_sheet_78 ?_
      refine sw_iload (pc := 79) 3 C dX10_sheet_79 rfl ?_
      refine sw_iadd (pc := 81) C dX10_sheet_81 ?_
      refine sw_iconst (pc := 82) (v := 0) C dX10_sheet_82 (by decide) ?_
      refine sw_iastL (pc := 83) C sh61 dX10_sheet_83 (fun σ15 => ?_)
      refine sw_iinc (pc := 84) (v4 + 1) 3 [(4, .int (v4 + 1)), (0, .ref (ad 37)), (1, .int v1), (3, .int v3)] C dX10_sheet_84 (by rw [hn]; decide) rfl rfl rfl ?_
      refine sw_goto (pc := 87) 65 C dX10_sheet_87 (by decide) ?_
      refine sw_lpick (pc := 65) (L' := [(0, .ref (ad 37)), (1, .int v1), (3, .int v3), (4, .int (v4 + 1))]) [1, 2, 3, 0] rfl ?_
      exact ih _ _ _ _
set_option maxRecDepth 100000 in
set_option maxHeartbeats 4000000 in
theorem mX10_sheet   (a0 : Int32) (a1 : Int32) (a2 : Int32) : sw_Ki yX10_sheet cX10_sheet 5 (some .int) 3 (fun ad => [.ref (ad 37), .int a0, .int a1, .int a2]) (fX10_sheet a0 a1 a2) := by
  refine sw_enteri (by decide) (fun ad => Nat.le_of_ble_eq_true rfl) (fun X ad t σ C hn M => ?_)
  change sw_J X ad t 0 [(0, .ref (ad 37)), (1, .int a0), (2, .int a1), (3, .int a2)] [] σ _
  replace C : sw_C X ad cX10_sheet RX10 3 := C
  unfold fX10_sheet
  refine sw_iloadn (pc := 0) 1 1 C dX10_sheet_0 rfl ?_
  refine sw_callSi (pc := 1) C (mX10_noSheet a0) sgX10_noSheet mlX10_95 dX10_sheet_1 (by decide) [.int a0] [] rfl rfl rfl (Nat.le_of_ble_eq_true rfl) (fun r1 σ2 => ?_)
  refine sw_if_eq (pc := 4) 13 C dX10_sheet_4 (by decide) ?_ ?_
  · refine sw_iloadn (pc := 13) 2 2 C dX10_sheet_13 rfl ?_
    refine sw_i2l (pc := 14) C dX10_sheet_14 ?_
    refine sw_lconst (pc := 15) (v := 0) C dX10_sheet_15 (by decide) ?_
    refine sw_ldc2 (pc := 16) C dX10_sheet_16 klX10_103 ?_
    refine sw_callSi (pc := 19) C (mX10_in (Int32.toInt64 a1) (0 : Int64) (2 : Int64)) sgX10_in mlX10_105 dX10_sheet_19 (by decide) [.long (Int32.toInt64 a1), .long (0 : Int64), .long (2 : Int64)] [] rfl rfl rfl (Nat.le_of_ble_eq_true rfl) (fun r3 σ4 => ?_)
    refine sw_if_eq (pc := 22) 31 C dX10_sheet_22 (by decide) ?_ ?_
    · refine sw_lpick (pc := 31) (L' := [(0, .ref (ad 37))]) [0] rfl ?_
      exact jX10_sheet_B31 C hn M  _
    · refine sw_iloadn (pc := 25) 3 3 C dX10_sheet_25 rfl ?_
      refine sw_bipush (pc := 26) (v := 80) C dX10_sheet_26 (by decide) ?_
      refine sw_icmp_le (pc := 28) 38 C dX10_sheet_28 (by decide) ?_ ?_
      · refine sw_iloadn (pc := 38) 3 3 C dX10_sheet_38 rfl ?_
        refine sw_if_ge (pc := 39) 48 C dX10_sheet_39 (by decide) ?_ ?_
        · refine sw_aloadn (pc := 48) 0 0 C dX10_sheet_48 rfl ?_
          refine sw_getR (pc := 49) C kfX10_73 sh37 ff10_41 dX10_sheet_49 ?_
          refine sw_iloadn (pc := 52) 1 1 C dX10_sheet_52 rfl ?_
          refine sw_iloadn (pc := 53) 3 3 C dX10_sheet_53 rfl ?_
          refine sw_iastL (pc := 54) C sh59 dX10_sheet_54 (fun σ5 => ?_)
          refine sw_aloadn (pc := 55) 0 0 C dX10_sheet_55 rfl ?_
          refine sw_getR (pc := 56) C kfX10_76 sh37 ff10_42 dX10_sheet_56 ?_
          refine sw_iloadn (pc := 59) 1 1 C dX10_sheet_59 rfl ?_
          refine sw_iloadn (pc := 60) 2 2 C dX10_sheet_60 rfl ?_
          refine sw_iastL (pc := 61) C sh60 dX10_sheet_61 (fun σ6 => ?_)
          refine sw_iconst (pc := 62) (v := 0) C dX10_sheet_62 (by decide) ?_
          refine sw_istore (pc := 63) [(4, .int 0), (0, .ref (ad 37)), (1, .int a0), (2, .int a1), (3, .int a2)] C dX10_sheet_63 (by rw [hn]; decide) rfl ?_
          refine sw_lpick (pc := 65) (L' := [(0, .ref (ad 37)), (1, .int a0), (3, .int a2), (4, .int 0)]) [1, 2, 4, 0] rfl ?_
          exact jX10_sheet_L65 C hn M  _ _ _ _ _
        · refine sw_aloadn (pc := 42) 0 0 C dX10_sheet_42 rfl ?_
          refine sw_iconst (pc := 43) (v := 4) C dX10_sheet_43 (by decide) ?_
          refine sw_callVi (pc := 44) C (mX10_failed 4) sgX10_failed mlX10_109 dX10_sheet_44 (by decide) [.int 4] [] sh37 rfl rfl rfl rfl (Nat.le_of_ble_eq_true rfl) (fun r7 σ8 => ?_)
          exact sw_reti (pc := 47) C M dX10_sheet_47
      · refine sw_lpick (pc := 31) (L' := [(0, .ref (ad 37))]) [0] rfl ?_
        exact jX10_sheet_B31 C hn M  _
  · refine sw_aloadn (pc := 7) 0 0 C dX10_sheet_7 rfl ?_
    refine sw_iconst (pc := 8) (v := (-1)) C dX10_sheet_8 (by decide) ?_
    refine sw_callVi (pc := 9) C (mX10_refused (-1)) sgX10_refused mlX10_99 dX10_sheet_9 (by decide) [.int (-1)] [] sh37 rfl rfl rfl rfl (Nat.le_of_ble_eq_true rfl) (fun r9 σ10 => ?_)
    exact sw_reti (pc := 12) C M dX10_sheet_12
set_option maxRecDepth 100000 in
set_option maxHeartbeats 4000000 in
theorem jX10_lose_B23 {X : sw_X} {ad : Nat → Nat} {t : Int32 × sw_St} (C : sw_C X ad cX10_lose RX10 3) (hn : sw_nL X = 3) (M : sw_Mi X ad (some .int) t)   (v1 : Int32) (s0 : Int32) (σ : sw_St) : sw_J X ad t 23 [(0, .ref (ad 37)), (1, .int v1)] [.int s0] σ (fX10_lose_B23  v1 s0 σ) := by
  unfold fX10_lose_B23
  refine sw_istoren (pc := 23) 2 [(2, .int s0), (0, .ref (ad 37)), (1, .int v1)] C dX10_lose_23 (by rw [hn]; decide) rfl ?_
  refine sw_aloadn (pc := 24) 0 1 C dX10_lose_24 rfl ?_
  refine sw_getR (pc := 25) C kfX10_73 sh37 ff10_41 dX10_lose_25 ?_
  refine sw_iloadn (pc := 28) 1 2 C dX10_lose_28 rfl ?_
  refine sw_iconst (pc := 29) (v := (-1)) C dX10_lose_29 (by decide) ?_
  refine sw_iastL (pc := 30) C sh59 dX10_lose_30 (fun σ3 => ?_)
  refine sw_iloadn (pc := 31) 2 0 C dX10_lose_31 rfl ?_
  exact sw_reti (pc := 32) C M dX10_lose_32
set_option maxRecDepth 100000 in
set_option maxHeartbeats 4000000 in
theorem mX10_lose   (a0 : Int32) : sw_Ki yX10_lose cX10_lose 3 (some .int) 3 (fun ad => [.ref (ad 37), .int a0]) (fX10_lose a0) := by
  refine sw_enteri (by decide) (fun ad => Nat.le_of_ble_eq_true rfl) (fun X ad t σ C hn M => ?_)
  change sw_J X ad t 0 [(0, .ref (ad 37)), (1, .int a0)] [] σ _
  replace C : sw_C X ad cX10_lose RX10 3 := C
  unfold fX10_lose
  refine sw_iloadn (pc := 0) 1 1 C dX10_lose_0 rfl ?_
  refine sw_callSi (pc := 1) C (mX10_noSheet a0) sgX10_noSheet mlX10_95 dX10_lose_1 (by decide) [.int a0] [] rfl rfl rfl (Nat.le_of_ble_eq_true rfl) (fun r1 σ2 => ?_)
  refine sw_if_eq (pc := 4) 9 C dX10_lose_4 (by decide) ?_ ?_
  · refine sw_aloadn (pc := 9) 0 0 C dX10_lose_9 rfl ?_
    refine sw_getR (pc := 10) C kfX10_73 sh37 ff10_41 dX10_lose_10 ?_
    refine sw_iloadn (pc := 13) 1 1 C dX10_lose_13 rfl ?_
    refine sw_iald (pc := 14) C sh59 dX10_lose_14 ?_
    refine sw_if_ge (pc := 15) 22 C dX10_lose_15 (by decide) ?_ ?_
    · refine sw_iconst (pc := 22) (v := 1) C dX10_lose_22 (by decide) ?_
      exact jX10_lose_B23 C hn M  _ _ _
    · refine sw_iconst (pc := 18) (v := 0) C dX10_lose_18 (by decide) ?_
      refine sw_goto (pc := 19) 23 C dX10_lose_19 (by decide) ?_
      exact jX10_lose_B23 C hn M  _ _ _
  · refine sw_iconst (pc := 7) (v := (-1)) C dX10_lose_7 (by decide) ?_
    exact sw_reti (pc := 8) C M dX10_lose_8
set_option maxRecDepth 100000 in
set_option maxHeartbeats 4000000 in
theorem mX10_noCell   (a0 : Int32) (a1 : Int32) : sw_Ki yX10_noCell cX10_noCell 3 (some .int) 2 (fun ad => [.ref (ad 37), .int a0, .int a1]) (fX10_noCell a0 a1) := by
  refine sw_enteri (by decide) (fun ad => Nat.le_of_ble_eq_true rfl) (fun X ad t σ C hn M => ?_)
  change sw_J X ad t 0 [(0, .ref (ad 37)), (1, .int a0), (2, .int a1)] [] σ _
  replace C : sw_C X ad cX10_noCell RX10 2 := C
  unfold fX10_noCell
  refine sw_aloadn (pc := 0) 0 0 C dX10_noCell_0 rfl ?_
  refine sw_getR (pc := 1) C kfX10_73 sh37 ff10_41 dX10_noCell_1 ?_
  refine sw_iloadn (pc := 4) 1 1 C dX10_noCell_4 rfl ?_
  refine sw_iald (pc := 5) C sh59 dX10_noCell_5 ?_
  refine sw_if_ge (pc := 6) 13 C dX10_noCell_6 (by decide) ?_ ?_
  · refine sw_iloadn (pc := 13) 2 2 C dX10_noCell_13 rfl ?_
    refine sw_i2l (pc := 14) C dX10_noCell_14 ?_
    refine sw_lconst (pc := 15) (v := 0) C dX10_noCell_15 (by decide) ?_
    refine sw_aloadn (pc := 16) 0 0 C dX10_noCell_16 rfl ?_
    refine sw_getR (pc := 17) C kfX10_73 sh37 ff10_41 dX10_noCell_17 ?_
    refine sw_iloadn (pc := 20) 1 1 C dX10_noCell_20 rfl ?_
    refine sw_iald (pc := 21) C sh59 dX10_noCell_21 ?_
    refine sw_i2l (pc := 22) C dX10_noCell_22 ?_
    refine sw_lconst (pc := 23) (v := 1) C dX10_noCell_23 (by decide) ?_
    refine sw_lsub (pc := 24) C dX10_noCell_24 ?_
    refine sw_callSi (pc := 25) C (mX10_in (Int32.toInt64 a1) (0 : Int64) ((Int32.toInt64 (σ 59 (Int32.toNatClampNeg a0))) - (1 : Int64))) sgX10_in mlX10_105 dX10_noCell_25 (by decide) [.long (Int32.toInt64 a1), .long (0 : Int64), .long ((Int32.toInt64 (σ 59 (Int32.toNatClampNeg a0))) - (1 : Int64))] [] rfl rfl rfl (Nat.le_of_ble_eq_true rfl) (fun r1 σ2 => ?_)
    refine sw_if_eq (pc := 28) 35 C dX10_noCell_28 (by decide) ?_ ?_
    · refine sw_iconst (pc := 35) (v := 3) C dX10_noCell_35 (by decide) ?_
      exact sw_reti (pc := 36) C M dX10_noCell_36
    · refine sw_iconst (pc := 31) (v := 0) C dX10_noCell_31 (by decide) ?_
      refine sw_goto (pc := 32) 36 C dX10_noCell_32 (by decide) ?_
      exact sw_reti (pc := 36) C M dX10_noCell_36
  · refine sw_iconst (pc := 9) (v := 1) C dX10_noCell_9 (by decide) ?_
    refine sw_goto (pc := 10) 36 C dX10_noCell_10 (by decide) ?_
    exact sw_reti (pc := 36) C M dX10_noCell_36
set_option maxRecDepth 100000 in
set_option maxHeartbeats 4000000 in
theorem jX10_put_B73 {X : sw_X} {ad : Nat → Nat} {t : Int32 × sw_St} (C : sw_C X ad cX10_put RX10 3) (hn : sw_nL X = 4) (M : sw_Mi X ad (some .int) t)   (s0 : Int32) (s1 : Int32) (σ : sw_St) : sw_J X ad t 73 [(0, .ref (ad 37))] [.int s0, .int s1, .ref (ad 61)] σ (fX10_put_B73  s0 s1 σ) := by
  unfold fX10_put_B73
  refine sw_iastL (pc := 73) C sh61 dX10_put_73 (fun σ11 => ?_)
  refine sw_aloadn (pc := 74) 0 0 C dX10_put_74 rfl ?_
  refine sw_iconst (pc := 75) (v := 1) C dX10_put_75 (by decide) ?_
  refine sw_callVi (pc := 76) C (mX10_refused 1) sgX10_refused mlX10_99 dX10_put_76 (by decide) [.int 1] [] sh37 rfl rfl rfl rfl (Nat.le_of_ble_eq_true rfl) (fun r12 σ13 => ?_)
  exact sw_reti (pc := 79) C M dX10_put_79
set_option maxRecDepth 100000 in
set_option maxHeartbeats 4000000 in
theorem mX10_put   (a0 : Int32) (a1 : Int32) (a2 : Int32) : sw_Ki yX10_put cX10_put 4 (some .int) 3 (fun ad => [.ref (ad 37), .int a0, .int a1, .int a2]) (fX10_put a0 a1 a2) := by
  refine sw_enteri (by decide) (fun ad => Nat.le_of_ble_eq_true rfl) (fun X ad t σ C hn M => ?_)
  change sw_J X ad t 0 [(0, .ref (ad 37)), (1, .int a0), (2, .int a1), (3, .int a2)] [] σ _
  replace C : sw_C X ad cX10_put RX10 3 := C
  unfold fX10_put
  refine sw_iloadn (pc := 0) 1 1 C dX10_put_0 rfl ?_
  refine sw_callSi (pc := 1) C (mX10_noSheet a0) sgX10_noSheet mlX10_95 dX10_put_1 (by decide) [.int a0] [] rfl rfl rfl (Nat.le_of_ble_eq_true rfl) (fun r1 σ2 => ?_)
  refine sw_if_eq (pc := 4) 13 C dX10_put_4 (by decide) ?_ ?_
  · refine sw_aloadn (pc := 13) 0 0 C dX10_put_13 rfl ?_
    refine sw_iloadn (pc := 14) 1 1 C dX10_put_14 rfl ?_
    refine sw_iloadn (pc := 15) 2 2 C dX10_put_15 rfl ?_
    refine sw_callVi (pc := 16) C (mX10_noCell a0 a1) sgX10_noCell mlX10_300 dX10_put_16 (by decide) [.int a0, .int a1] [] sh37 rfl rfl rfl rfl (Nat.le_of_ble_eq_true rfl) (fun r3 σ4 => ?_)
    refine sw_if_le (pc := 19) 33 C dX10_put_19 (by decide) ?_ ?_
    · refine sw_aloadn (pc := 33) 0 0 C dX10_put_33 rfl ?_
      refine sw_getR (pc := 34) C kfX10_79 sh37 ff10_43 dX10_put_34 ?_
      refine sw_bipush (pc := 37) (v := 80) C dX10_put_37 (by decide) ?_
      refine sw_iloadn (pc := 39) 1 1 C dX10_put_39 rfl ?_
      refine sw_imul (pc := 40) C dX10_put_40 ?_
      refine sw_iloadn (pc := 41) 2 2 C dX10_put_41 rfl ?_
      refine sw_iadd (pc := 42) C dX10_put_42 ?_
      refine sw_aloadn (pc := 43) 0 0 C dX10_put_43 rfl ?_
      refine sw_getR (pc := 44) C kfX10_76 sh37 ff10_42 dX10_put_44 ?_
      refine sw_iloadn (pc := 47) 1 1 C dX10_put_47 rfl ?_
      refine sw_iald (pc := 48) C sh60 dX10_put_48 ?_
      refine sw_if_ne (pc := 49) 57 C dX10_put_49 (by decide) ?_ ?_
      · refine sw_aloadn (pc := 57) 0 0 C dX10_put_57 rfl ?_
        refine sw_getR (pc := 58) C kfX10_76 sh37 ff10_42 dX10_put_58 ?_
        refine sw_iloadn (pc := 61) 1 1 C dX10_put_61 rfl ?_
        refine sw_iald (pc := 62) C sh60 dX10_put_62 ?_
        refine sw_iconst (pc := 63) (v := 1) C dX10_put_63 (by decide) ?_
        refine sw_icmp_ne (pc := 64) 72 C dX10_put_64 (by decide) ?_ ?_
        · refine sw_iloadn (pc := 72) 3 3 C dX10_put_72 rfl ?_
          refine sw_lpick (pc := 73) (L' := [(0, .ref (ad 37))]) [0] rfl ?_
          exact jX10_put_B73 C hn M  _ _ _
        · refine sw_iloadn (pc := 67) 3 3 C dX10_put_67 rfl ?_
          refine sw_i2s (pc := 68) C dX10_put_68 ?_
          refine sw_goto (pc := 69) 73 C dX10_put_69 (by decide) ?_
          refine sw_lpick (pc := 73) (L' := [(0, .ref (ad 37))]) [0] rfl ?_
          exact jX10_put_B73 C hn M  _ _ _
      · refine sw_iloadn (pc := 52) 3 3 C dX10_put_52 rfl ?_
        refine sw_i2b (pc := 53) C dX10_put_53 ?_
        refine sw_goto (pc := 54) 73 C dX10_put_54 (by decide) ?_
        refine sw_lpick (pc := 73) (L' := [(0, .ref (ad 37))]) [0] rfl ?_
        exact jX10_put_B73 C hn M  _ _ _
    · refine sw_aloadn (pc := 22) 0 0 C dX10_put_22 rfl ?_
      refine sw_aloadn (pc := 23) 0 0 C dX10_put_23 rfl ?_
      refine sw_iloadn (pc := 24) 1 1 C dX10_put_24 rfl ?_
      refine sw_iloadn (pc := 25) 2 2 C dX10_put_25 rfl ?_
      refine sw_callVi (pc := 26) C (mX10_noCell a0 a1) sgX10_noCell mlX10_300 dX10_put_26 (by decide) [.int a0, .int a1] [.ref (ad 37)] sh37 rfl rfl rfl rfl (Nat.le_of_ble_eq_true rfl) (fun r5 σ6 => ?_)
      refine sw_callVi (pc := 29) C (mX10_failed r5) sgX10_failed mlX10_109 dX10_put_29 (by decide) [.int r5] [] sh37 rfl rfl rfl rfl (Nat.le_of_ble_eq_true rfl) (fun r7 σ8 => ?_)
      exact sw_reti (pc := 32) C M dX10_put_32
  · refine sw_aloadn (pc := 7) 0 0 C dX10_put_7 rfl ?_
    refine sw_iconst (pc := 8) (v := (-1)) C dX10_put_8 (by decide) ?_
    refine sw_callVi (pc := 9) C (mX10_refused (-1)) sgX10_refused mlX10_99 dX10_put_9 (by decide) [.int (-1)] [] sh37 rfl rfl rfl rfl (Nat.le_of_ble_eq_true rfl) (fun r9 σ10 => ?_)
    exact sw_reti (pc := 12) C M dX10_put_12
set_option maxRecDepth 100000 in
set_option maxHeartbeats 4000000 in
theorem jX10_cell_B24 {X : sw_X} {ad : Nat → Nat} {t : Int64 × sw_St} (C : sw_C X ad cX10_cell RX10 3) (hn : sw_nL X = 4) (M : sw_Ml X ad (some .long) t)    (σ : sw_St) : sw_J X ad t 24 [] [] σ (fX10_cell_B24   σ) := by
  unfold fX10_cell_B24
  refine sw_callSl (pc := 24) C mX10_lost sgX10_lost mlX10_91 dX10_cell_24 (by decide) [] [] rfl rfl rfl (Nat.le_of_ble_eq_true rfl) (fun r8 σ9 => ?_)
  exact sw_retl (pc := 27) C M dX10_cell_27
set_option maxRecDepth 100000 in
set_option maxHeartbeats 4000000 in
theorem jX10_cell_B53 {X : sw_X} {ad : Nat → Nat} {t : Int64 × sw_St} (C : sw_C X ad cX10_cell RX10 3) (hn : sw_nL X = 4) (M : sw_Ml X ad (some .long) t)   (v1 : Int32) (v2 : Int32) (σ : sw_St) : sw_J X ad t 53 [(0, .ref (ad 37)), (1, .int v1), (2, .int v2)] [] σ (fX10_cell_B53  v1 v2 σ) := by
  unfold fX10_cell_B53
  refine sw_aloadn (pc := 53) 0 0 C dX10_cell_53 rfl ?_
  refine sw_iloadn (pc := 54) 1 1 C dX10_cell_54 rfl ?_
  refine sw_iloadn (pc := 55) 2 2 C dX10_cell_55 rfl ?_
  refine sw_callVi (pc := 56) C (mX10_noCell v1 v2) sgX10_noCell mlX10_300 dX10_cell_56 (by decide) [.int v1, .int v2] [] sh37 rfl rfl rfl rfl (Nat.le_of_ble_eq_true rfl) (fun r10 σ11 => ?_)
  refine sw_if_le (pc := 59) 75 C dX10_cell_59 (by decide) ?_ ?_
  · refine sw_aloadn (pc := 75) 0 0 C dX10_cell_75 rfl ?_
    refine sw_getR (pc := 76) C kfX10_79 sh37 ff10_43 dX10_cell_76 ?_
    refine sw_bipush (pc := 79) (v := 80) C dX10_cell_79 (by decide) ?_
    refine sw_iloadn (pc := 81) 1 1 C dX10_cell_81 rfl ?_
    refine sw_imul (pc := 82) C dX10_cell_82 ?_
    refine sw_iloadn (pc := 83) 2 2 C dX10_cell_83 rfl ?_
    refine sw_iadd (pc := 84) C dX10_cell_84 ?_
    refine sw_iald (pc := 85) C sh61 dX10_cell_85 ?_
    refine sw_i2l (pc := 86) C dX10_cell_86 ?_
    exact sw_retl (pc := 87) C M dX10_cell_87
  · refine sw_aloadn (pc := 62) 0 0 C dX10_cell_62 rfl ?_
    refine sw_aloadn (pc := 63) 0 0 C dX10_cell_63 rfl ?_
    refine sw_iloadn (pc := 64) 1 1 C dX10_cell_64 rfl ?_
    refine sw_iloadn (pc := 65) 2 2 C dX10_cell_65 rfl ?_
    refine sw_callVi (pc := 66) C (mX10_noCell v1 v2) sgX10_noCell mlX10_300 dX10_cell_66 (by decide) [.int v1, .int v2] [.ref (ad 37)] sh37 rfl rfl rfl rfl (Nat.le_of_ble_eq_true rfl) (fun r12 σ13 => ?_)
    refine sw_callVl (pc := 69) C (mX10_failedLong r12) sgX10_failedLong mlX10_303 dX10_cell_69 (by decide) [.int r12] [] sh37 rfl rfl rfl rfl (Nat.le_of_ble_eq_true rfl) (fun r14 σ15 => ?_)
    refine sw_goto (pc := 72) 87 C dX10_cell_72 (by decide) ?_
    exact sw_retl (pc := 87) C M dX10_cell_87
set_option maxRecDepth 100000 in
set_option maxHeartbeats 4000000 in
theorem mX10_cell   (a0 : Int32) (a1 : Int32) (a2 : Int32) : sw_Kl yX10_cell cX10_cell 4 (some .long) 3 (fun ad => [.ref (ad 37), .int a0, .int a1, .int a2]) (fX10_cell a0 a1 a2) := by
  refine sw_enterl (by decide) (fun ad => Nat.le_of_ble_eq_true rfl) (fun X ad t σ C hn M => ?_)
  change sw_J X ad t 0 [(0, .ref (ad 37)), (1, .int a0), (2, .int a1), (3, .int a2)] [] σ _
  replace C : sw_C X ad cX10_cell RX10 3 := C
  unfold fX10_cell
  refine sw_aloadn (pc := 0) 0 0 C dX10_cell_0 rfl ?_
  refine sw_iconst (pc := 1) (v := 0) C dX10_cell_1 (by decide) ?_
  refine sw_putL (pc := 2) C kpX10_87 sh37 ff10_0 dX10_cell_2 (fun σ1 => ?_)
  refine sw_iloadn (pc := 5) 1 1 C dX10_cell_5 rfl ?_
  refine sw_callSi (pc := 6) C (mX10_noSheet a0) sgX10_noSheet mlX10_95 dX10_cell_6 (by decide) [.int a0] [] rfl rfl rfl (Nat.le_of_ble_eq_true rfl) (fun r2 σ3 => ?_)
  refine sw_if_ne (pc := 9) 24 C dX10_cell_9 (by decide) ?_ ?_
  · refine sw_lpick (pc := 24) (L' := []) [] rfl ?_
    exact jX10_cell_B24 C hn M  _
  · refine sw_iloadn (pc := 12) 3 3 C dX10_cell_12 rfl ?_
    refine sw_i2l (pc := 13) C dX10_cell_13 ?_
    refine sw_lconst (pc := 14) (v := 0) C dX10_cell_14 (by decide) ?_
    refine sw_ldc2 (pc := 15) C dX10_cell_15 klX10_103 ?_
    refine sw_callSi (pc := 18) C (mX10_in (Int32.toInt64 a2) (0 : Int64) (2 : Int64)) sgX10_in mlX10_105 dX10_cell_18 (by decide) [.long (Int32.toInt64 a2), .long (0 : Int64), .long (2 : Int64)] [] rfl rfl rfl (Nat.le_of_ble_eq_true rfl) (fun r4 σ5 => ?_)
    refine sw_if_ne (pc := 21) 28 C dX10_cell_21 (by decide) ?_ ?_
    · refine sw_aloadn (pc := 28) 0 0 C dX10_cell_28 rfl ?_
      refine sw_getR (pc := 29) C kfX10_73 sh37 ff10_41 dX10_cell_29 ?_
      refine sw_iloadn (pc := 32) 1 1 C dX10_cell_32 rfl ?_
      refine sw_iald (pc := 33) C sh59 dX10_cell_33 ?_
      refine sw_if_lt (pc := 34) 53 C dX10_cell_34 (by decide) ?_ ?_
      · refine sw_lpick (pc := 53) (L' := [(0, .ref (ad 37)), (1, .int a0), (2, .int a1)]) [0, 1, 2] rfl ?_
        exact jX10_cell_B53 C hn M  _ _ _
      · refine sw_aloadn (pc := 37) 0 0 C dX10_cell_37 rfl ?_
        refine sw_getR (pc := 38) C kfX10_76 sh37 ff10_42 dX10_cell_38 ?_
        refine sw_iloadn (pc := 41) 1 1 C dX10_cell_41 rfl ?_
        refine sw_iald (pc := 42) C sh60 dX10_cell_42 ?_
        refine sw_iloadn (pc := 43) 3 3 C dX10_cell_43 rfl ?_
        refine sw_icmp_eq (pc := 44) 53 C dX10_cell_44 (by decide) ?_ ?_
        · refine sw_lpick (pc := 53) (L' := [(0, .ref (ad 37)), (1, .int a0), (2, .int a1)]) [0, 1, 2] rfl ?_
          exact jX10_cell_B53 C hn M  _ _ _
        · refine sw_aloadn (pc := 47) 0 0 C dX10_cell_47 rfl ?_
          refine sw_iconst (pc := 48) (v := 2) C dX10_cell_48 (by decide) ?_
          refine sw_callVl (pc := 49) C (mX10_failedLong 2) sgX10_failedLong mlX10_303 dX10_cell_49 (by decide) [.int 2] [] sh37 rfl rfl rfl rfl (Nat.le_of_ble_eq_true rfl) (fun r6 σ7 => ?_)
          exact sw_retl (pc := 52) C M dX10_cell_52
    · refine sw_lpick (pc := 24) (L' := []) [] rfl ?_
      exact jX10_cell_B24 C hn M  _
set_option maxRecDepth 100000 in
set_option maxHeartbeats 4000000 in
theorem jX10_copy_B14 {X : sw_X} {ad : Nat → Nat} {t : Int32 × sw_St} (C : sw_C X ad cX10_copy RX10 3) (hn : sw_nL X = 7) (M : sw_Mi X ad (some .int) t)    (σ : sw_St) : sw_J X ad t 14 [(0, .ref (ad 37))] [] σ (fX10_copy_B14   σ) := by
  unfold fX10_copy_B14
  refine sw_aloadn (pc := 14) 0 0 C dX10_copy_14 rfl ?_
  refine sw_iconst (pc := 15) (v := (-1)) C dX10_copy_15 (by decide) ?_
  refine sw_callVi (pc := 16) C (mX10_refused (-1)) sgX10_refused mlX10_99 dX10_copy_16 (by decide) [.int (-1)] [] sh37 rfl rfl rfl rfl (Nat.le_of_ble_eq_true rfl) (fun r11 σ12 => ?_)
  exact sw_reti (pc := 19) C M dX10_copy_19
set_option maxRecDepth 100000 in
set_option maxHeartbeats 4000000 in
theorem jX10_copy_B38 {X : sw_X} {ad : Nat → Nat} {t : Int32 × sw_St} (C : sw_C X ad cX10_copy RX10 3) (hn : sw_nL X = 7) (M : sw_Mi X ad (some .int) t)    (σ : sw_St) : sw_J X ad t 38 [(0, .ref (ad 37))] [] σ (fX10_copy_B38   σ) := by
  unfold fX10_copy_B38
  refine sw_aloadn (pc := 38) 0 0 C dX10_copy_38 rfl ?_
  refine sw_iconst (pc := 39) (v := 1) C dX10_copy_39 (by decide) ?_
  refine sw_callVi (pc := 40) C (mX10_failed 1) sgX10_failed mlX10_109 dX10_copy_40 (by decide) [.int 1] [] sh37 rfl rfl rfl rfl (Nat.le_of_ble_eq_true rfl) (fun r13 σ14 => ?_)
  exact sw_reti (pc := 43) C M dX10_copy_43
set_option maxRecDepth 100000 in
set_option maxHeartbeats 4000000 in
theorem jX10_copy_B98 {X : sw_X} {ad : Nat → Nat} {t : Int32 × sw_St} (C : sw_C X ad cX10_copy RX10 3) (hn : sw_nL X = 7) (M : sw_Mi X ad (some .int) t)    (σ : sw_St) : sw_J X ad t 98 [(0, .ref (ad 37))] [] σ (fX10_copy_B98   σ) := by
  unfold fX10_copy_B98
  refine sw_aloadn (pc := 98) 0 0 C dX10_copy_98 rfl ?_
  refine sw_iconst (pc := 99) (v := 3) C dX10_copy_99 (by decide) ?_
  refine sw_callVi (pc := 100) C (mX10_failed 3) sgX10_failed mlX10_109 dX10_copy_100 (by decide) [.int 3] [] sh37 rfl rfl rfl rfl (Nat.le_of_ble_eq_true rfl) (fun r15 σ16 => ?_)
  exact sw_reti (pc := 103) C M dX10_copy_103
set_option maxRecDepth 100000 in
set_option maxHeartbeats 4000000 in
theorem jX10_copy_L144 {X : sw_X} {ad : Nat → Nat} {t : Int32 × sw_St} (C : sw_C X ad cX10_copy RX10 3) (hn : sw_nL X = 7) (M : sw_Mi X ad (some .int) t)   : ∀ (n : Nat) (v3 : Int32) (v4 : Int32) (v5 : Int32) (v6 : Int32) (σ : sw_St), sw_J X ad t 144 [(0, .ref (ad 37)), (3, .int v3), (4, .int v4), (5, .int v5), (6, .int v6)] [] σ (fX10_copy_L144  n v3 v4 v5 v6 σ) := by
  intro n
  induction n with
  | zero => exact fun _ _ _ _ _ => sw_none
  | succ n ih =>
    intro v3 v4 v5 v6 σ
    unfold fX10_copy_L144
    refine sw_iload (pc := 144) 4 C dX10_copy_144 rfl ?_
    refine sw_iload (pc := 146) 3 C dX10_copy_146 rfl ?_
    refine sw_icmp_ge (pc := 148) 179 C dX10_copy_148 (by decide) ?_ ?_
    · refine sw_aloadn (pc := 179) 0 0 C dX10_copy_179 rfl ?_
      refine sw_iload (pc := 180) 3 C dX10_copy_180 rfl ?_
      refine sw_callVi (pc := 182) C (mX10_refused v5) sgX10_refused mlX10_99 dX10_copy_182 (by decide) [.int v5] [] sh37 rfl rfl rfl rfl (Nat.le_of_ble_eq_true rfl) (fun r18 σ19 => ?_)
      exact sw_reti (pc := 185) C M dX10_copy_185
    · refine sw_aloadn (pc := 151) 0 0 C dX10_copy_151 rfl ?_
      refine sw_getR (pc := 152) C kfX10_79 sh37 ff10_43 dX10_copy_152 ?_
      refine sw_bipush (pc := 155) (v := 80) C dX10_copy_155 (by decide) ?_
      refine sw_iloadn (pc := 157) 3 1 C dX10_copy_157 rfl ?_
      refine sw_imul (pc := 158) C dX10_copy_158 ?_
      refine sw_iload (pc := 159) 2 C dX10_copy_159 rfl ?_
      refine sw_iadd (pc := 161) C dX10_copy_161 ?_
      refine sw_iload (pc := 162) 4 C dX10_copy_162 rfl ?_
      refine sw_iadd (pc := 164) C dX10_copy_164 ?_
      refine sw_aloadn (pc := 165) 0 0 C dX10_copy_165 rfl ?_
      refine sw_getR (pc := 166) C kfX10_82 sh37 ff10_44 dX10_copy_166 ?_
      refine sw_iload (pc := 169) 4 C dX10_copy_169 rfl ?_
      refine sw_iald (pc := 171) C sh62 dX10_copy_171 ?_
      refine sw_iastL (pc := 172) C sh61 dX10_copy_172 (fun σ20 => ?_)
      refine sw_iinc (pc := 173) (v6 + 1) 4 [(6, .int (v6 + 1)), (0, .ref (ad 37)), (3, .int v3), (4, .int v4), (5, .int v5)] C dX10_copy_173 (by rw [hn]; decide) rfl rfl rfl ?_
      refine sw_goto (pc := 176) 144 C dX10_copy_176 (by decide) ?_
      refine sw_lpick (pc := 144) (L' := [(0, .ref (ad 37)), (3, .int v3), (4, .int v4), (5, .int v5), (6, .int (v6 + 1))]) [1, 2, 3, 4, 0] rfl ?_
      exact ih _ _ _ _ _
set_option maxRecDepth 100000 in
set_option maxHeartbeats 4000000 in
theorem jX10_copy_L107 {X : sw_X} {ad : Nat → Nat} {t : Int32 × sw_St} (C : sw_C X ad cX10_copy RX10 3) (hn : sw_nL X = 7) (M : sw_Mi X ad (some .int) t)   : ∀ (n : Nat) (v1 : Int32) (v2 : Int32) (v3 : Int32) (v4 : Int32) (v5 : Int32) (v6 : Int32) (σ : sw_St), sw_J X ad t 107 [(0, .ref (ad 37)), (1, .int v1), (2, .int v2), (3, .int v3), (4, .int v4), (5, .int v5), (6, .int v6)] [] σ (fX10_copy_L107  n v1 v2 v3 v4 v5 v6 σ) := by
  intro n
  induction n with
  | zero => exact fun _ _ _ _ _ _ _ => sw_none
  | succ n ih =>
    intro v1 v2 v3 v4 v5 v6 σ
    unfold fX10_copy_L107
    refine sw_iload (pc := 107) 6 C dX10_copy_107 rfl ?_
    refine sw_iload (pc := 109) 5 C dX10_copy_109 rfl ?_
    refine sw_icmp_ge (pc := 111) 141 C dX10_copy_111 (by decide) ?_ ?_
    · refine sw_iconst (pc := 141) (v := 0) C dX10_copy_141 (by decide) ?_
      refine sw_istore (pc := 142) [(6, .int 0), (0, .ref (ad 37)), (1, .int v1), (2, .int v2), (3, .int v3), (4, .int v4), (5, .int v5)] C dX10_copy_142 (by rw [hn]; decide) rfl ?_
      refine sw_lpick (pc := 144) (L' := [(0, .ref (ad 37)), (3, .int v3), (4, .int v4), (5, .int v5), (6, .int 0)]) [1, 4, 5, 6, 0] rfl ?_
      exact jX10_copy_L144 C hn M  _ _ _ _ _ _
    · refine sw_aloadn (pc := 114) 0 0 C dX10_copy_114 rfl ?_
      refine sw_getR (pc := 115) C kfX10_82 sh37 ff10_44 dX10_copy_115 ?_
      refine sw_iload (pc := 118) 6 C dX10_copy_118 rfl ?_
      refine sw_aloadn (pc := 120) 0 0 C dX10_copy_120 rfl ?_
      refine sw_getR (pc := 121) C kfX10_79 sh37 ff10_43 dX10_copy_121 ?_
      refine sw_bipush (pc := 124) (v := 80) C dX10_copy_124 (by decide) ?_
      refine sw_iloadn (pc := 126) 1 1 C dX10_copy_126 rfl ?_
      refine sw_imul (pc := 127) C dX10_copy_127 ?_
      refine sw_iloadn (pc := 128) 2 2 C dX10_copy_128 rfl ?_
      refine sw_iadd (pc := 129) C dX10_copy_129 ?_
      refine sw_iload (pc := 130) 6 C dX10_copy_130 rfl ?_
      refine sw_iadd (pc := 132) C dX10_copy_132 ?_
      refine sw_iald (pc := 133) C sh61 dX10_copy_133 ?_
      refine sw_iastL (pc := 134) C sh62 dX10_copy_134 (fun σ17 => ?_)
      refine sw_iinc (pc := 135) (v6 + 1) 6 [(6, .int (v6 + 1)), (0, .ref (ad 37)), (1, .int v1), (2, .int v2), (3, .int v3), (4, .int v4), (5, .int v5)] C dX10_copy_135 (by rw [hn]; decide) rfl rfl rfl ?_
      refine sw_goto (pc := 138) 107 C dX10_copy_138 (by decide) ?_
      refine sw_lpick (pc := 107) (L' := [(0, .ref (ad 37)), (1, .int v1), (2, .int v2), (3, .int v3), (4, .int v4), (5, .int v5), (6, .int (v6 + 1))]) [1, 2, 3, 4, 5, 6, 0] rfl ?_
      exact ih _ _ _ _ _ _ _
set_option maxRecDepth 100000 in
set_option maxHeartbeats 4000000 in
theorem mX10_copy   (a0 : Int32) (a1 : Int32) (a2 : Int32) (a3 : Int32) (a4 : Int32) : sw_Ki yX10_copy cX10_copy 7 (some .int) 3 (fun ad => [.ref (ad 37), .int a0, .int a1, .int a2, .int a3, .int a4]) (fX10_copy a0 a1 a2 a3 a4) := by
  refine sw_enteri (by decide) (fun ad => Nat.le_of_ble_eq_true rfl) (fun X ad t σ C hn M => ?_)
  change sw_J X ad t 0 [(0, .ref (ad 37)), (1, .int a0), (2, .int a1), (3, .int a2), (4, .int a3), (5, .int a4)] [] σ _
  replace C : sw_C X ad cX10_copy RX10 3 := C
  unfold fX10_copy
  refine sw_iloadn (pc := 0) 1 1 C dX10_copy_0 rfl ?_
  refine sw_callSi (pc := 1) C (mX10_noSheet a0) sgX10_noSheet mlX10_95 dX10_copy_1 (by decide) [.int a0] [] rfl rfl rfl (Nat.le_of_ble_eq_true rfl) (fun r1 σ2 => ?_)
  refine sw_if_ne (pc := 4) 14 C dX10_copy_4 (by decide) ?_ ?_
  · refine sw_lpick (pc := 14) (L' := [(0, .ref (ad 37))]) [0] rfl ?_
    exact jX10_copy_B14 C hn M  _
  · refine sw_iloadn (pc := 7) 3 3 C dX10_copy_7 rfl ?_
    refine sw_callSi (pc := 8) C (mX10_noSheet a2) sgX10_noSheet mlX10_95 dX10_copy_8 (by decide) [.int a2] [] rfl rfl rfl (Nat.le_of_ble_eq_true rfl) (fun r3 σ4 => ?_)
    refine sw_if_eq (pc := 11) 20 C dX10_copy_11 (by decide) ?_ ?_
    · refine sw_aloadn (pc := 20) 0 0 C dX10_copy_20 rfl ?_
      refine sw_getR (pc := 21) C kfX10_73 sh37 ff10_41 dX10_copy_21 ?_
      refine sw_iloadn (pc := 24) 1 1 C dX10_copy_24 rfl ?_
      refine sw_iald (pc := 25) C sh59 dX10_copy_25 ?_
      refine sw_if_lt (pc := 26) 38 C dX10_copy_26 (by decide) ?_ ?_
      · refine sw_lpick (pc := 38) (L' := [(0, .ref (ad 37))]) [0] rfl ?_
        exact jX10_copy_B38 C hn M  _
      · refine sw_aloadn (pc := 29) 0 0 C dX10_copy_29 rfl ?_
        refine sw_getR (pc := 30) C kfX10_73 sh37 ff10_41 dX10_copy_30 ?_
        refine sw_iloadn (pc := 33) 3 3 C dX10_copy_33 rfl ?_
        refine sw_iald (pc := 34) C sh59 dX10_copy_34 ?_
        refine sw_if_ge (pc := 35) 44 C dX10_copy_35 (by decide) ?_ ?_
        · refine sw_aloadn (pc := 44) 0 0 C dX10_copy_44 rfl ?_
          refine sw_getR (pc := 45) C kfX10_76 sh37 ff10_42 dX10_copy_45 ?_
          refine sw_iloadn (pc := 48) 1 1 C dX10_copy_48 rfl ?_
          refine sw_iald (pc := 49) C sh60 dX10_copy_49 ?_
          refine sw_aloadn (pc := 50) 0 0 C dX10_copy_50 rfl ?_
          refine sw_getR (pc := 51) C kfX10_76 sh37 ff10_42 dX10_copy_51 ?_
          refine sw_iloadn (pc := 54) 3 3 C dX10_copy_54 rfl ?_
          refine sw_iald (pc := 55) C sh60 dX10_copy_55 ?_
          refine sw_icmp_eq (pc := 56) 65 C dX10_copy_56 (by decide) ?_ ?_
          · refine sw_iloadn (pc := 65) 2 2 C dX10_copy_65 rfl ?_
            refine sw_iload (pc := 66) 5 C dX10_copy_66 rfl ?_
            refine sw_i2l (pc := 68) C dX10_copy_68 ?_
            refine sw_aloadn (pc := 69) 0 0 C dX10_copy_69 rfl ?_
            refine sw_getR (pc := 70) C kfX10_73 sh37 ff10_41 dX10_copy_70 ?_
            refine sw_iloadn (pc := 73) 1 1 C dX10_copy_73 rfl ?_
            refine sw_iald (pc := 74) C sh59 dX10_copy_74 ?_
            refine sw_callSi (pc := 75) C (mX10_isBeyond a1 (Int32.toInt64 a4) (σ4 59 (Int32.toNatClampNeg a0))) sgX10_isBeyond mlX10_112 dX10_copy_75 (by decide) [.int a1, .long (Int32.toInt64 a4), .int (σ4 59 (Int32.toNatClampNeg a0))] [] rfl rfl rfl (Nat.le_of_ble_eq_true rfl) (fun r5 σ6 => ?_)
            refine sw_if_ne (pc := 78) 98 C dX10_copy_78 (by decide) ?_ ?_
            · refine sw_lpick (pc := 98) (L' := [(0, .ref (ad 37))]) [0] rfl ?_
              exact jX10_copy_B98 C hn M  _
            · refine sw_iload (pc := 81) 4 C dX10_copy_81 rfl ?_
              refine sw_iload (pc := 83) 5 C dX10_copy_83 rfl ?_
              refine sw_i2l (pc := 85) C dX10_copy_85 ?_
              refine sw_aloadn (pc := 86) 0 0 C dX10_copy_86 rfl ?_
              refine sw_getR (pc := 87) C kfX10_73 sh37 ff10_41 dX10_copy_87 ?_
              refine sw_iloadn (pc := 90) 3 3 C dX10_copy_90 rfl ?_
              refine sw_iald (pc := 91) C sh59 dX10_copy_91 ?_
              refine sw_callSi (pc := 92) C (mX10_isBeyond a3 (Int32.toInt64 a4) (σ6 59 (Int32.toNatClampNeg a2))) sgX10_isBeyond mlX10_112 dX10_copy_92 (by decide) [.int a3, .long (Int32.toInt64 a4), .int (σ6 59 (Int32.toNatClampNeg a2))] [] rfl rfl rfl (Nat.le_of_ble_eq_true rfl) (fun r7 σ8 => ?_)
              refine sw_if_eq (pc := 95) 104 C dX10_copy_95 (by decide) ?_ ?_
              · refine sw_iconst (pc := 104) (v := 0) C dX10_copy_104 (by decide) ?_
                refine sw_istore (pc := 105) [(6, .int 0), (0, .ref (ad 37)), (1, .int a0), (2, .int a1), (3, .int a2), (4, .int a3), (5, .int a4)] C dX10_copy_105 (by rw [hn]; decide) rfl ?_
                refine sw_lpick (pc := 107) (L' := [(0, .ref (ad 37)), (1, .int a0), (2, .int a1), (3, .int a2), (4, .int a3), (5, .int a4), (6, .int 0)]) [1, 2, 3, 4, 5, 6, 0] rfl ?_
                exact jX10_copy_L107 C hn M  _ _ _ _ _ _ _ _
              · refine sw_lpick (pc := 98) (L' := [(0, .ref (ad 37))]) [0] rfl ?_
                exact jX10_copy_B98 C hn M  _
          · refine sw_aloadn (pc := 59) 0 0 C dX10_copy_59 rfl ?_
            refine sw_iconst (pc := 60) (v := 2) C dX10_copy_60 (by decide) ?_
            refine sw_callVi (pc := 61) C (mX10_failed 2) sgX10_failed mlX10_109 dX10_copy_61 (by decide) [.int 2] [] sh37 rfl rfl rfl rfl (Nat.le_of_ble_eq_true rfl) (fun r9 σ10 => ?_)
            exact sw_reti (pc := 64) C M dX10_copy_64
        · refine sw_lpick (pc := 38) (L' := [(0, .ref (ad 37))]) [0] rfl ?_
          exact jX10_copy_B38 C hn M  _
    · refine sw_lpick (pc := 14) (L' := [(0, .ref (ad 37))]) [0] rfl ?_
      exact jX10_copy_B14 C hn M  _
set_option maxRecDepth 100000 in
set_option maxHeartbeats 4000000 in
theorem mX10_traced   (a0 : Int32) : sw_Kv yX10_traced cX10_traced 2 none 1 (fun ad => [.ref (ad 37), .int a0]) (fX10_traced a0) := by
  refine sw_enterv (by decide) (fun ad => Nat.le_of_ble_eq_true rfl) (fun X ad t σ C hn M => ?_)
  change sw_J X ad t 0 [(0, .ref (ad 37)), (1, .int a0)] [] σ _
  replace C : sw_C X ad cX10_traced RX10 1 := C
  unfold fX10_traced
  refine sw_aloadn (pc := 0) 0 0 C dX10_traced_0 rfl ?_
  refine sw_bipush (pc := 1) (v := 31) C dX10_traced_1 (by decide) ?_
  refine sw_aloadn (pc := 3) 0 0 C dX10_traced_3 rfl ?_
  refine sw_getI (pc := 4) C kfX10_307 sh37 ff10_45 dX10_traced_4 ?_
  refine sw_imul (pc := 7) C dX10_traced_7 ?_
  refine sw_iloadn (pc := 8) 1 1 C dX10_traced_8 rfl ?_
  refine sw_iadd (pc := 9) C dX10_traced_9 ?_
  refine sw_putL (pc := 10) C kpX10_307 sh37 ff10_45 dX10_traced_10 (fun σ1 => ?_)
  exact sw_retv (pc := 13) C M dX10_traced_13
set_option maxRecDepth 100000 in
set_option maxHeartbeats 4000000 in
theorem jX10_tell_B51 {X : sw_X} {ad : Nat → Nat} {t : Int32 × sw_St} (C : sw_C X ad cX10_tell RX10 3) (hn : sw_nL X = 4) (M : sw_Mi X ad (some .int) t)   (v1 : Int32) (v2 : Int32) (σ : sw_St) : sw_J X ad t 51 [(0, .ref (ad 37)), (1, .int v1), (2, .int v2)] [] σ (fX10_tell_B51  v1 v2 σ) := by
  unfold fX10_tell_B51
  refine sw_aloadn (pc := 51) 0 0 C dX10_tell_51 rfl ?_
  refine sw_getR (pc := 52) C kfX10_22 sh37 ff10_6 dX10_tell_52 ?_
  refine sw_iloadn (pc := 55) 1 1 C dX10_tell_55 rfl ?_
  refine sw_iald (pc := 56) C sh42 dX10_tell_56 ?_
  refine sw_leti (fun x12 => ?_)
  refine sw_istoren (pc := 57) 3 [(3, .int x12), (0, .ref (ad 37)), (1, .int v1), (2, .int v2)] C dX10_tell_57 (by rw [hn]; decide) rfl ?_
  refine sw_iloadn (pc := 58) 2 3 C dX10_tell_58 rfl ?_
  refine sw_if_ne (pc := 59) 66 C dX10_tell_59 (by decide) ?_ ?_
  · refine sw_iloadn (pc := 66) 2 3 C dX10_tell_66 rfl ?_
    refine sw_iconst (pc := 67) (v := 1) C dX10_tell_67 (by decide) ?_
    refine sw_icmp_ne (pc := 68) 78 C dX10_tell_68 (by decide) ?_ ?_
    · refine sw_iconst (pc := 78) (v := 2) C dX10_tell_78 (by decide) ?_
      refine sw_iloadn (pc := 79) 3 0 C dX10_tell_79 rfl ?_
      refine sw_imul (pc := 80) C dX10_tell_80 ?_
      refine sw_bipush (pc := 81) (v := 100) C dX10_tell_81 (by decide) ?_
      refine sw_iadd (pc := 83) C dX10_tell_83 ?_
      exact sw_reti (pc := 84) C M dX10_tell_84
    · refine sw_iloadn (pc := 71) 3 0 C dX10_tell_71 rfl ?_
      refine sw_bipush (pc := 72) (v := 100) C dX10_tell_72 (by decide) ?_
      refine sw_iadd (pc := 74) C dX10_tell_74 ?_
      refine sw_goto (pc := 75) 84 C dX10_tell_75 (by decide) ?_
      exact sw_reti (pc := 84) C M dX10_tell_84
  · refine sw_iloadn (pc := 62) 3 0 C dX10_tell_62 rfl ?_
    refine sw_goto (pc := 63) 84 C dX10_tell_63 (by decide) ?_
    exact sw_reti (pc := 84) C M dX10_tell_84
set_option maxRecDepth 100000 in
set_option maxHeartbeats 4000000 in
theorem jX10_tell_B36 {X : sw_X} {ad : Nat → Nat} {t : Int32 × sw_St} (C : sw_C X ad cX10_tell RX10 3) (hn : sw_nL X = 4) (M : sw_Mi X ad (some .int) t)   (v1 : Int32) (v2 : Int32) (σ : sw_St) : sw_J X ad t 36 [(0, .ref (ad 37)), (1, .int v1), (2, .int v2)] [] σ (fX10_tell_B36  v1 v2 σ) := by
  unfold fX10_tell_B36
  refine sw_aloadn (pc := 36) 0 0 C dX10_tell_36 rfl ?_
  refine sw_iconst (pc := 37) (v := 1) C dX10_tell_37 (by decide) ?_
  refine sw_callVv (pc := 38) C (mX10_traced 1) sgX10_traced mlX10_310 dX10_tell_38 (by decide) [.int 1] [] sh37 rfl rfl rfl rfl (Nat.le_of_ble_eq_true rfl) (fun r8 σ9 => ?_)
  refine sw_iloadn (pc := 41) 2 2 C dX10_tell_41 rfl ?_
  refine sw_iconst (pc := 42) (v := 2) C dX10_tell_42 (by decide) ?_
  refine sw_icmp_ne (pc := 43) 51 C dX10_tell_43 (by decide) ?_ ?_
  · exact jX10_tell_B51 C hn M  _ _ _
  · refine sw_aloadn (pc := 46) 0 0 C dX10_tell_46 rfl ?_
    refine sw_iconst (pc := 47) (v := 1) C dX10_tell_47 (by decide) ?_
    refine sw_callVv (pc := 48) C (mX10_traced 1) sgX10_traced mlX10_310 dX10_tell_48 (by decide) [.int 1] [] sh37 rfl rfl rfl rfl (Nat.le_of_ble_eq_true rfl) (fun r10 σ11 => ?_)
    exact jX10_tell_B51 C hn M  _ _ _
set_option maxRecDepth 100000 in
set_option maxHeartbeats 4000000 in
theorem jX10_tell_B27 {X : sw_X} {ad : Nat → Nat} {t : Int32 × sw_St} (C : sw_C X ad cX10_tell RX10 3) (hn : sw_nL X = 4) (M : sw_Mi X ad (some .int) t)   (v1 : Int32) (v2 : Int32) (σ : sw_St) : sw_J X ad t 27 [(0, .ref (ad 37)), (1, .int v1), (2, .int v2)] [] σ (fX10_tell_B27  v1 v2 σ) := by
  unfold fX10_tell_B27
  refine sw_iloadn (pc := 27) 2 2 C dX10_tell_27 rfl ?_
  refine sw_if_le (pc := 28) 36 C dX10_tell_28 (by decide) ?_ ?_
  · exact jX10_tell_B36 C hn M  _ _ _
  · refine sw_aloadn (pc := 31) 0 0 C dX10_tell_31 rfl ?_
    refine sw_iconst (pc := 32) (v := 2) C dX10_tell_32 (by decide) ?_
    refine sw_callVv (pc := 33) C (mX10_traced 2) sgX10_traced mlX10_310 dX10_tell_33 (by decide) [.int 2] [] sh37 rfl rfl rfl rfl (Nat.le_of_ble_eq_true rfl) (fun r6 σ7 => ?_)
    exact jX10_tell_B36 C hn M  _ _ _
set_option maxRecDepth 100000 in
set_option maxHeartbeats 4000000 in
theorem mX10_tell   (a0 : Int32) : sw_Ki yX10_tell cX10_tell 4 (some .int) 3 (fun ad => [.ref (ad 37), .int a0]) (fX10_tell a0) := by
  refine sw_enteri (by decide) (fun ad => Nat.le_of_ble_eq_true rfl) (fun X ad t σ C hn M => ?_)
  change sw_J X ad t 0 [(0, .ref (ad 37)), (1, .int a0)] [] σ _
  replace C : sw_C X ad cX10_tell RX10 3 := C
  unfold fX10_tell
  refine sw_aloadn (pc := 0) 0 0 C dX10_tell_0 rfl ?_
  refine sw_iloadn (pc := 1) 1 1 C dX10_tell_1 rfl ?_
  refine sw_callVi (pc := 2) C (mX10_noTooth a0) sgX10_noTooth mlX10_151 dX10_tell_2 (by decide) [.int a0] [] sh37 rfl rfl rfl rfl (Nat.le_of_ble_eq_true rfl) (fun r1 σ2 => ?_)
  refine sw_if_eq (pc := 5) 10 C dX10_tell_5 (by decide) ?_ ?_
  · refine sw_aloadn (pc := 10) 0 0 C dX10_tell_10 rfl ?_
    refine sw_getR (pc := 11) C kfX10_7 sh37 ff10_2 dX10_tell_11 ?_
    refine sw_iloadn (pc := 14) 1 1 C dX10_tell_14 rfl ?_
    refine sw_iald (pc := 15) C sh38 dX10_tell_15 ?_
    refine sw_leti (fun x3 => ?_)
    refine sw_istoren (pc := 16) 2 [(2, .int x3), (0, .ref (ad 37)), (1, .int a0)] C dX10_tell_16 (by rw [hn]; decide) rfl ?_
    refine sw_iloadn (pc := 17) 2 0 C dX10_tell_17 rfl ?_
    refine sw_iconst (pc := 18) (v := 2) C dX10_tell_18 (by decide) ?_
    refine sw_icmp_ne (pc := 19) 27 C dX10_tell_19 (by decide) ?_ ?_
    · refine sw_lpick (pc := 27) (L' := [(0, .ref (ad 37)), (1, .int a0), (2, .int x3)]) [1, 2, 0] rfl ?_
      exact jX10_tell_B27 C hn M  _ _ _
    · refine sw_aloadn (pc := 22) 0 1 C dX10_tell_22 rfl ?_
      refine sw_iconst (pc := 23) (v := 3) C dX10_tell_23 (by decide) ?_
      refine sw_callVv (pc := 24) C (mX10_traced 3) sgX10_traced mlX10_310 dX10_tell_24 (by decide) [.int 3] [] sh37 rfl rfl rfl rfl (Nat.le_of_ble_eq_true rfl) (fun r4 σ5 => ?_)
      refine sw_lpick (pc := 27) (L' := [(0, .ref (ad 37)), (1, .int a0), (2, .int x3)]) [1, 2, 0] rfl ?_
      exact jX10_tell_B27 C hn M  _ _ _
  · refine sw_iconst (pc := 8) (v := (-1)) C dX10_tell_8 (by decide) ?_
    exact sw_reti (pc := 9) C M dX10_tell_9
set_option maxRecDepth 100000 in
set_option maxHeartbeats 4000000 in
theorem jX10_joint_B26 {X : sw_X} {ad : Nat → Nat} {t : Int32 × sw_St} (C : sw_C X ad cX10_joint RX10 3) (hn : sw_nL X = 2) (M : sw_Mi X ad (some .int) t)   (v1 : Int32) (s0 : Int32) (σ : sw_St) : sw_J X ad t 26 [(0, .ref (ad 37)), (1, .int v1)] [.int s0, .ref (ad 37)] σ (fX10_joint_B26  v1 s0 σ) := by
  unfold fX10_joint_B26
  refine sw_callVv (pc := 26) C (mX10_traced s0) sgX10_traced mlX10_310 dX10_joint_26 (by decide) [.int s0] [] sh37 rfl rfl rfl rfl (Nat.le_of_ble_eq_true rfl) (fun r3 σ4 => ?_)
  refine sw_aloadn (pc := 29) 0 0 C dX10_joint_29 rfl ?_
  refine sw_getR (pc := 30) C kfX10_7 sh37 ff10_2 dX10_joint_30 ?_
  refine sw_iloadn (pc := 33) 1 1 C dX10_joint_33 rfl ?_
  refine sw_iald (pc := 34) C sh38 dX10_joint_34 ?_
  refine sw_iconst (pc := 35) (v := 2) C dX10_joint_35 (by decide) ?_
  refine sw_icmp_ne (pc := 36) 44 C dX10_joint_36 (by decide) ?_ ?_
  · refine sw_iloadn (pc := 44) 1 1 C dX10_joint_44 rfl ?_
    exact sw_reti (pc := 45) C M dX10_joint_45
  · refine sw_bipush (pc := 39) (v := 70) C dX10_joint_39 (by decide) ?_
    refine sw_goto (pc := 41) 45 C dX10_joint_41 (by decide) ?_
    exact sw_reti (pc := 45) C M dX10_joint_45
set_option maxRecDepth 100000 in
set_option maxHeartbeats 4000000 in
theorem mX10_joint   (a0 : Int32) : sw_Ki yX10_joint cX10_joint 2 (some .int) 3 (fun ad => [.ref (ad 37), .int a0]) (fX10_joint a0) := by
  refine sw_enteri (by decide) (fun ad => Nat.le_of_ble_eq_true rfl) (fun X ad t σ C hn M => ?_)
  change sw_J X ad t 0 [(0, .ref (ad 37)), (1, .int a0)] [] σ _
  replace C : sw_C X ad cX10_joint RX10 3 := C
  unfold fX10_joint
  refine sw_aloadn (pc := 0) 0 0 C dX10_joint_0 rfl ?_
  refine sw_iloadn (pc := 1) 1 1 C dX10_joint_1 rfl ?_
  refine sw_callVi (pc := 2) C (mX10_noTooth a0) sgX10_noTooth mlX10_151 dX10_joint_2 (by decide) [.int a0] [] sh37 rfl rfl rfl rfl (Nat.le_of_ble_eq_true rfl) (fun r1 σ2 => ?_)
  refine sw_if_eq (pc := 5) 10 C dX10_joint_5 (by decide) ?_ ?_
  · refine sw_aloadn (pc := 10) 0 0 C dX10_joint_10 rfl ?_
    refine sw_aloadn (pc := 11) 0 0 C dX10_joint_11 rfl ?_
    refine sw_getR (pc := 12) C kfX10_7 sh37 ff10_2 dX10_joint_12 ?_
    refine sw_iloadn (pc := 15) 1 1 C dX10_joint_15 rfl ?_
    refine sw_iald (pc := 16) C sh38 dX10_joint_16 ?_
    refine sw_iconst (pc := 17) (v := 2) C dX10_joint_17 (by decide) ?_
    refine sw_icmp_ne (pc := 18) 25 C dX10_joint_18 (by decide) ?_ ?_
    · refine sw_iconst (pc := 25) (v := 4) C dX10_joint_25 (by decide) ?_
      exact jX10_joint_B26 C hn M  _ _ _
    · refine sw_iconst (pc := 21) (v := 5) C dX10_joint_21 (by decide) ?_
      refine sw_goto (pc := 22) 26 C dX10_joint_22 (by decide) ?_
      exact jX10_joint_B26 C hn M  _ _ _
  · refine sw_iconst (pc := 8) (v := (-1)) C dX10_joint_8 (by decide) ?_
    exact sw_reti (pc := 9) C M dX10_joint_9
set_option maxRecDepth 100000 in
set_option maxHeartbeats 4000000 in
theorem mX10_as   (a0 : Int32) (a1 : Int32) : sw_Ki yX10_as cX10_as 3 (some .int) 3 (fun ad => [.ref (ad 37), .int a0, .int a1]) (fX10_as a0 a1) := by
  refine sw_enteri (by decide) (fun ad => Nat.le_of_ble_eq_true rfl) (fun X ad t σ C hn M => ?_)
  change sw_J X ad t 0 [(0, .ref (ad 37)), (1, .int a0), (2, .int a1)] [] σ _
  replace C : sw_C X ad cX10_as RX10 3 := C
  unfold fX10_as
  refine sw_aloadn (pc := 0) 0 0 C dX10_as_0 rfl ?_
  refine sw_iloadn (pc := 1) 1 1 C dX10_as_1 rfl ?_
  refine sw_callVi (pc := 2) C (mX10_noTooth a0) sgX10_noTooth mlX10_151 dX10_as_2 (by decide) [.int a0] [] sh37 rfl rfl rfl rfl (Nat.le_of_ble_eq_true rfl) (fun r1 σ2 => ?_)
  refine sw_if_eq (pc := 5) 14 C dX10_as_5 (by decide) ?_ ?_
  · refine sw_iloadn (pc := 14) 2 2 C dX10_as_14 rfl ?_
    refine sw_i2l (pc := 15) C dX10_as_15 ?_
    refine sw_lconst (pc := 16) (v := 0) C dX10_as_16 (by decide) ?_
    refine sw_ldc2 (pc := 17) C dX10_as_17 klX10_103 ?_
    refine sw_callSi (pc := 20) C (mX10_in (Int32.toInt64 a1) (0 : Int64) (2 : Int64)) sgX10_in mlX10_105 dX10_as_20 (by decide) [.long (Int32.toInt64 a1), .long (0 : Int64), .long (2 : Int64)] [] rfl rfl rfl (Nat.le_of_ble_eq_true rfl) (fun r3 σ4 => ?_)
    refine sw_if_ne (pc := 23) 33 C dX10_as_23 (by decide) ?_ ?_
    · refine sw_aloadn (pc := 33) 0 0 C dX10_as_33 rfl ?_
      refine sw_getR (pc := 34) C kfX10_7 sh37 ff10_2 dX10_as_34 ?_
      refine sw_iloadn (pc := 37) 1 1 C dX10_as_37 rfl ?_
      refine sw_iald (pc := 38) C sh38 dX10_as_38 ?_
      refine sw_iloadn (pc := 39) 2 2 C dX10_as_39 rfl ?_
      refine sw_icmp_lt (pc := 40) 51 C dX10_as_40 (by decide) ?_ ?_
      · refine sw_aloadn (pc := 51) 0 0 C dX10_as_51 rfl ?_
        refine sw_iconst (pc := 52) (v := 2) C dX10_as_52 (by decide) ?_
        refine sw_callVi (pc := 53) C (mX10_failed 2) sgX10_failed mlX10_109 dX10_as_53 (by decide) [.int 2] [] sh37 rfl rfl rfl rfl (Nat.le_of_ble_eq_true rfl) (fun r5 σ6 => ?_)
        exact sw_reti (pc := 56) C M dX10_as_56
      · refine sw_aloadn (pc := 43) 0 0 C dX10_as_43 rfl ?_
        refine sw_iconst (pc := 44) (v := 1) C dX10_as_44 (by decide) ?_
        refine sw_callVi (pc := 45) C (mX10_refused 1) sgX10_refused mlX10_99 dX10_as_45 (by decide) [.int 1] [] sh37 rfl rfl rfl rfl (Nat.le_of_ble_eq_true rfl) (fun r7 σ8 => ?_)
        refine sw_goto (pc := 48) 56 C dX10_as_48 (by decide) ?_
        exact sw_reti (pc := 56) C M dX10_as_56
    · refine sw_aloadn (pc := 26) 0 0 C dX10_as_26 rfl ?_
      refine sw_bipush (pc := 27) (v := (-2)) C dX10_as_27 (by decide) ?_
      refine sw_callVi (pc := 29) C (mX10_refused (-2)) sgX10_refused mlX10_99 dX10_as_29 (by decide) [.int (-2)] [] sh37 rfl rfl rfl rfl (Nat.le_of_ble_eq_true rfl) (fun r9 σ10 => ?_)
      exact sw_reti (pc := 32) C M dX10_as_32
  · refine sw_aloadn (pc := 8) 0 0 C dX10_as_8 rfl ?_
    refine sw_iconst (pc := 9) (v := (-1)) C dX10_as_9 (by decide) ?_
    refine sw_callVi (pc := 10) C (mX10_refused (-1)) sgX10_refused mlX10_99 dX10_as_10 (by decide) [.int (-1)] [] sh37 rfl rfl rfl rfl (Nat.le_of_ble_eq_true rfl) (fun r11 σ12 => ?_)
    exact sw_reti (pc := 13) C M dX10_as_13
set_option maxRecDepth 100000 in
set_option maxHeartbeats 4000000 in
theorem mX10_trace    : sw_Ki yX10_trace cX10_trace 1 (some .int) 1 (fun ad => [.ref (ad 37)]) fX10_trace := by
  refine sw_enteri (by decide) (fun ad => Nat.le_of_ble_eq_true rfl) (fun X ad t σ C hn M => ?_)
  change sw_J X ad t 0 [(0, .ref (ad 37))] [] σ _
  replace C : sw_C X ad cX10_trace RX10 1 := C
  unfold fX10_trace
  refine sw_aloadn (pc := 0) 0 0 C dX10_trace_0 rfl ?_
  refine sw_getI (pc := 1) C kfX10_307 sh37 ff10_45 dX10_trace_1 ?_
  exact sw_reti (pc := 4) C M dX10_trace_4
set_option maxRecDepth 100000 in
set_option maxHeartbeats 4000000 in
theorem mX10_fault    : sw_Ki yX10_fault cX10_fault 1 (some .int) 1 (fun ad => [.ref (ad 37)]) fX10_fault := by
  refine sw_enteri (by decide) (fun ad => Nat.le_of_ble_eq_true rfl) (fun X ad t σ C hn M => ?_)
  change sw_J X ad t 0 [(0, .ref (ad 37))] [] σ _
  replace C : sw_C X ad cX10_fault RX10 1 := C
  unfold fX10_fault
  refine sw_aloadn (pc := 0) 0 0 C dX10_fault_0 rfl ?_
  refine sw_getI (pc := 1) C kfX10_87 sh37 ff10_0 dX10_fault_1 ?_
  exact sw_reti (pc := 4) C M dX10_fault_4
set_option maxRecDepth 100000 in
set_option maxHeartbeats 4000000 in
theorem mX10_many   (a0 : Int32) : sw_Ki yX10_many cX10_many 2 (some .int) 5 (fun ad => [.ref (ad 37), .int a0]) (fX10_many a0) := by
  refine sw_enteri (by decide) (fun ad => Nat.le_of_ble_eq_true rfl) (fun X ad t σ C hn M => ?_)
  change sw_J X ad t 0 [(0, .ref (ad 37)), (1, .int a0)] [] σ _
  replace C : sw_C X ad cX10_many RX10 5 := C
  unfold fX10_many
  refine sw_aloadn (pc := 0) 0 0 C dX10_many_0 rfl ?_
  refine sw_callVv (pc := 1) C mX10_cut sgX10_cut mlX10_210 dX10_many_1 (by decide) [] [] sh37 rfl rfl rfl rfl (Nat.le_of_ble_eq_true rfl) (fun r1 σ2 => ?_)
  refine sw_iloadn (pc := 4) 1 1 C dX10_many_4 rfl ?_
  refine sw_ite (fun h3 => ?_) (fun h3 => ?_)
  · refine sw_tabIn (pc := 5) (off := 35) 40 C dX10_many_5 (by rw [h3]; decide) (by rw [h3]; decide) (by rw [h3]; rfl) (by decide) ?_
    refine sw_aloadn (pc := 40) 0 0 C dX10_many_40 rfl ?_
    refine sw_getI (pc := 41) C kfX10_116 sh37 ff10_1 dX10_many_41 ?_
    exact sw_reti (pc := 44) C M dX10_many_44
  · skip
    refine sw_ite (fun h4 => ?_) (fun h4 => ?_)
    · refine sw_tabIn (pc := 5) (off := 40) 45 C dX10_many_5 (by rw [h4]; decide) (by rw [h4]; decide) (by rw [h4]; rfl) (by decide) ?_
      refine sw_aloadn (pc := 45) 0 0 C dX10_many_45 rfl ?_
      refine sw_getI (pc := 46) C kfX10_172 sh37 ff10_12 dX10_many_46 ?_
      exact sw_reti (pc := 49) C M dX10_many_49
    · skip
      refine sw_ite (fun h5 => ?_) (fun h5 => ?_)
      · refine sw_tabIn (pc := 5) (off := 45) 50 C dX10_many_5 (by rw [h5]; decide) (by rw [h5]; decide) (by rw [h5]; rfl) (by decide) ?_
        refine sw_aloadn (pc := 50) 0 0 C dX10_many_50 rfl ?_
        refine sw_getI (pc := 51) C kfX10_142 sh37 ff10_24 dX10_many_51 ?_
        exact sw_reti (pc := 54) C M dX10_many_54
      · skip
        refine sw_ite (fun h6 => ?_) (fun h6 => ?_)
        · refine sw_tabIn (pc := 5) (off := 50) 55 C dX10_many_5 (by rw [h6]; decide) (by rw [h6]; decide) (by rw [h6]; rfl) (by decide) ?_
          refine sw_aloadn (pc := 55) 0 0 C dX10_many_55 rfl ?_
          refine sw_getI (pc := 56) C kfX10_145 sh37 ff10_28 dX10_many_56 ?_
          exact sw_reti (pc := 59) C M dX10_many_59
        · skip
          refine sw_ite (fun h7 => ?_) (fun h7 => ?_)
          · refine sw_tabIn (pc := 5) (off := 55) 60 C dX10_many_5 (by rw [h7]; decide) (by rw [h7]; decide) (by rw [h7]; rfl) (by decide) ?_
            refine sw_aloadn (pc := 60) 0 0 C dX10_many_60 rfl ?_
            refine sw_getI (pc := 61) C kfX10_201 sh37 ff10_20 dX10_many_61 ?_
            exact sw_reti (pc := 64) C M dX10_many_64
          · skip
            refine sw_tabOut (pc := 5) 65 C dX10_many_5 (by have qh3 := lv_neT (a := 0) h3 (by decide); have qh4 := lv_neT (a := 1) h4 (by decide); have qh5 := lv_neT (a := 2) h5 (by decide); have qh6 := lv_neT (a := 3) h6 (by decide); have qh7 := lv_neT (a := 4) h7 (by decide); omega) (by decide) ?_
            refine sw_bipush (pc := 65) (v := (-2)) C dX10_many_65 (by decide) ?_
            exact sw_reti (pc := 67) C M dX10_many_67
