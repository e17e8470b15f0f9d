set_option maxRecDepth 100000 in
set_option maxHeartbeats 4000000 in
theorem sw_fs9 (ad : Nat → Nat) (f : Nat → Int32) : sw_fs ad f sw_fl9 = [.ref (ad 1), .ref (ad 5), .ref (ad 9), .ref (ad 13), .ref (ad 17), .ref (ad 21), .ref (ad 22), .ref (ad 23), .ref (ad 26), .ref (ad 30), .ref (ad 33), .ref (ad 34), .int (f 12), .int (f 13)] := by
  apply List.ext_getElem?
  intro k
  match k with
  | 0 => exact sw_fs_ref ff9_0
  | 1 => exact sw_fs_ref ff9_1
  | 2 => exact sw_fs_ref ff9_2
  | 3 => exact sw_fs_ref ff9_3
  | 4 => exact sw_fs_ref ff9_4
  | 5 => exact sw_fs_ref ff9_5
  | 6 => exact sw_fs_ref ff9_6
  | 7 => exact sw_fs_ref ff9_7
  | 8 => exact sw_fs_ref ff9_8
  | 9 => exact sw_fs_ref ff9_9
  | 10 => exact sw_fs_ref ff9_10
  | 11 => exact sw_fs_ref ff9_11
  | 12 => exact sw_fs_int ff9_12
  | 13 => exact sw_fs_int ff9_13
  | k + 14 => rw [List.getElem?_eq_none (by simp [sw_fs, sw_fl9]), List.getElem?_eq_none (by simp)]
set_option maxRecDepth 100000 in
set_option maxHeartbeats 4000000 in
theorem sw_fs10 (ad : Nat → Nat) (f : Nat → Int32) : sw_fs ad f sw_fl10 = [.int (f 0), .int (f 1), .ref (ad 38), .ref (ad 39), .ref (ad 40), .ref (ad 41), .ref (ad 42), .int (f 7), .int (f 8), .ref (ad 43), .ref (ad 44), .ref (ad 45), .int (f 12), .ref (ad 46), .ref (ad 47), .ref (ad 48), .int (f 16), .int (f 17), .int (f 18), .int (f 19), .int (f 20), .ref (ad 49), .ref (ad 50), .int (f 23), .int (f 24), .ref (ad 51), .ref (ad 52), .ref (ad 53), .int (f 28), .ref (ad 54), .ref (ad 55), .int (f 31), .int (f 32), .ref (ad 56), .int (f 34), .int (f 35), .int (f 36), .int (f 37), .ref (ad 57), .ref (ad 58), .int (f 40), .ref (ad 59), .ref (ad 60), .ref (ad 61), .ref (ad 62), .int (f 45)] := by
  apply List.ext_getElem?
  intro k
  match k with
  | 0 => exact sw_fs_int ff10_0
  | 1 => exact sw_fs_int ff10_1
  | 2 => exact sw_fs_ref ff10_2
  | 3 => exact sw_fs_ref ff10_3
  | 4 => exact sw_fs_ref ff10_4
  | 5 => exact sw_fs_ref ff10_5
  | 6 => exact sw_fs_ref ff10_6
  | 7 => exact sw_fs_int ff10_7
  | 8 => exact sw_fs_int ff10_8
  | 9 => exact sw_fs_ref ff10_9
  | 10 => exact sw_fs_ref ff10_10
  | 11 => exact sw_fs_ref ff10_11
  | 12 => exact sw_fs_int ff10_12
  | 13 => exact sw_fs_ref ff10_13
  | 14 => exact sw_fs_ref ff10_14
  | 15 => exact sw_fs_ref ff10_15
  | 16 => exact sw_fs_int ff10_16
  | 17 => exact sw_fs_int ff10_17
  | 18 => exact sw_fs_int ff10_18
  | 19 => exact sw_fs_int ff10_19
  | 20 => exact sw_fs_int ff10_20
  | 21 => exact sw_fs_ref ff10_21
  | 22 => exact sw_fs_ref ff10_22
  | 23 => exact sw_fs_int ff10_23
  | 24 => exact sw_fs_int ff10_24
  | 25 => exact sw_fs_ref ff10_25
  | 26 => exact sw_fs_ref ff10_26
  | 27 => exact sw_fs_ref ff10_27
  | 28 => exact sw_fs_int ff10_28
  | 29 => exact sw_fs_ref ff10_29
  | 30 => exact sw_fs_ref ff10_30
  | 31 => exact sw_fs_int ff10_31
  | 32 => exact sw_fs_int ff10_32
  | 33 => exact sw_fs_ref ff10_33
  | 34 => exact sw_fs_int ff10_34
  | 35 => exact sw_fs_int ff10_35
  | 36 => exact sw_fs_int ff10_36
  | 37 => exact sw_fs_int ff10_37
  | 38 => exact sw_fs_ref ff10_38
  | 39 => exact sw_fs_ref ff10_39
  | 40 => exact sw_fs_int ff10_40
  | 41 => exact sw_fs_ref ff10_41
  | 42 => exact sw_fs_ref ff10_42
  | 43 => exact sw_fs_ref ff10_43
  | 44 => exact sw_fs_ref ff10_44
  | 45 => exact sw_fs_int ff10_45
  | k + 46 => rw [List.getElem?_eq_none (by simp [sw_fs, sw_fl10]), List.getElem?_eq_none (by simp)]
set_option maxRecDepth 100000 in
set_option maxHeartbeats 4000000 in
theorem sw_w0_0 (cA : ClassId) (ad : Nat → Nat) : (sw_ws ad cA sw_s0)[0]? = some (ad 0, .inr (9, [.ref (ad 1), .ref (ad 5), .ref (ad 9), .ref (ad 13), .ref (ad 17), .ref (ad 21), .ref (ad 22), .ref (ad 23), .ref (ad 26), .ref (ad 30), .ref (ad 33), .ref (ad 34), .int 0, .int 0])) := by
  rw [sw_ws_at, sh0]
  show some (ad 0, Sum.inr (9, sw_fs ad (sw_s0 0) sw_fl9)) = _
  rw [sw_fs9]
  rfl
set_option maxRecDepth 100000 in
set_option maxHeartbeats 4000000 in
theorem sw_w0_1 (cA : ClassId) (ad : Nat → Nat) : (sw_ws ad cA sw_s0)[1]? = some (ad 1, .inr (7, [.ref (ad 2), .ref (ad 3), .ref (ad 4)])) := by
  rw [sw_ws_at]
  rfl
set_option maxRecDepth 100000 in
set_option maxHeartbeats 4000000 in
theorem sw_w0_2 (cA : ClassId) (ad : Nat → Nat) : (sw_ws ad cA sw_s0)[2]? = some (ad 2, .inl (cA, 4, .inl (upd (upd (upd (upd (fun _ => 0) 0 (-1)) 1 (-1)) 2 (-1)) 3 (-1)))) := by
  rw [sw_ws_at]
  rfl
set_option maxRecDepth 100000 in
set_option maxHeartbeats 4000000 in
theorem sw_w0_3 (cA : ClassId) (ad : Nat → Nat) : (sw_ws ad cA sw_s0)[3]? = some (ad 3, .inl (cA, 4, .inl (fun _ => 0))) := by
  rw [sw_ws_at]
  rfl
set_option maxRecDepth 100000 in
set_option maxHeartbeats 4000000 in
theorem sw_w0_4 (cA : ClassId) (ad : Nat → Nat) : (sw_ws ad cA sw_s0)[4]? = some (ad 4, .inl (cA, 320, .inl (fun _ => 0))) := by
  rw [sw_ws_at]
  rfl
set_option maxRecDepth 100000 in
set_option maxHeartbeats 4000000 in
theorem sw_w0_5 (cA : ClassId) (ad : Nat → Nat) : (sw_ws ad cA sw_s0)[5]? = some (ad 5, .inr (6, [.int 0, .ref (ad 6), .ref (ad 7), .ref (ad 8)])) := by
  rw [sw_ws_at]
  rfl
set_option maxRecDepth 100000 in
set_option maxHeartbeats 4000000 in
theorem sw_w0_6 (cA : ClassId) (ad : Nat → Nat) : (sw_ws ad cA sw_s0)[6]? = some (ad 6, .inl (cA, 8, .inl (fun _ => 0))) := by
  rw [sw_ws_at]
  rfl
set_option maxRecDepth 100000 in
set_option maxHeartbeats 4000000 in
theorem sw_w0_7 (cA : ClassId) (ad : Nat → Nat) : (sw_ws ad cA sw_s0)[7]? = some (ad 7, .inl (cA, 8, .inl (fun _ => 0))) := by
  rw [sw_ws_at]
  rfl
set_option maxRecDepth 100000 in
set_option maxHeartbeats 4000000 in
theorem sw_w0_8 (cA : ClassId) (ad : Nat → Nat) : (sw_ws ad cA sw_s0)[8]? = some (ad 8, .inl (cA, 24, .inl (fun _ => 0))) := by
  rw [sw_ws_at]
  rfl
set_option maxRecDepth 100000 in
set_option maxHeartbeats 4000000 in
theorem sw_w0_9 (cA : ClassId) (ad : Nat → Nat) : (sw_ws ad cA sw_s0)[9]? = some (ad 9, .inr (6, [.int 0, .ref (ad 10), .ref (ad 11), .ref (ad 12)])) := by
  rw [sw_ws_at]
  rfl
set_option maxRecDepth 100000 in
set_option maxHeartbeats 4000000 in
theorem sw_w0_10 (cA : ClassId) (ad : Nat → Nat) : (sw_ws ad cA sw_s0)[10]? = some (ad 10, .inl (cA, 8, .inl (fun _ => 0))) := by
  rw [sw_ws_at]
  rfl
set_option maxRecDepth 100000 in
set_option maxHeartbeats 4000000 in
theorem sw_w0_11 (cA : ClassId) (ad : Nat → Nat) : (sw_ws ad cA sw_s0)[11]? = some (ad 11, .inl (cA, 8, .inl (fun _ => 0))) := by
  rw [sw_ws_at]
  rfl
set_option maxRecDepth 100000 in
set_option maxHeartbeats 4000000 in
theorem sw_w0_12 (cA : ClassId) (ad : Nat → Nat) : (sw_ws ad cA sw_s0)[12]? = some (ad 12, .inl (cA, 24, .inl (fun _ => 0))) := by
  rw [sw_ws_at]
  rfl
set_option maxRecDepth 100000 in
set_option maxHeartbeats 4000000 in
theorem sw_w0_13 (cA : ClassId) (ad : Nat → Nat) : (sw_ws ad cA sw_s0)[13]? = some (ad 13, .inr (6, [.int 0, .ref (ad 14), .ref (ad 15), .ref (ad 16)])) := by
  rw [sw_ws_at]
  rfl
set_option maxRecDepth 100000 in
set_option maxHeartbeats 4000000 in
theorem sw_w0_14 (cA : ClassId) (ad : Nat → Nat) : (sw_ws ad cA sw_s0)[14]? = some (ad 14, .inl (cA, 8, .inl (fun _ => 0))) := by
  rw [sw_ws_at]
  rfl
set_option maxRecDepth 100000 in
set_option maxHeartbeats 4000000 in
theorem sw_w0_15 (cA : ClassId) (ad : Nat → Nat) : (sw_ws ad cA sw_s0)[15]? = some (ad 15, .inl (cA, 8, .inl (fun _ => 0))) := by
  rw [sw_ws_at]
  rfl
set_option maxRecDepth 100000 in
set_option maxHeartbeats 4000000 in
theorem sw_w0_16 (cA : ClassId) (ad : Nat → Nat) : (sw_ws ad cA sw_s0)[16]? = some (ad 16, .inl (cA, 24, .inl (fun _ => 0))) := by
  rw [sw_ws_at]
  rfl
set_option maxRecDepth 100000 in
set_option maxHeartbeats 4000000 in
theorem sw_w0_17 (cA : ClassId) (ad : Nat → Nat) : (sw_ws ad cA sw_s0)[17]? = some (ad 17, .inr (0, [.int 0, .ref (ad 18), .ref (ad 19), .ref (ad 20)])) := by
  rw [sw_ws_at]
  rfl
set_option maxRecDepth 100000 in
set_option maxHeartbeats 4000000 in
theorem sw_w0_18 (cA : ClassId) (ad : Nat → Nat) : (sw_ws ad cA sw_s0)[18]? = some (ad 18, .inl (cA, 24, .inl (fun _ => 0))) := by
  rw [sw_ws_at]
  rfl
set_option maxRecDepth 100000 in
set_option maxHeartbeats 4000000 in
theorem sw_w0_19 (cA : ClassId) (ad : Nat → Nat) : (sw_ws ad cA sw_s0)[19]? = some (ad 19, .inl (cA, 24, .inl (fun _ => 0))) := by
  rw [sw_ws_at]
  rfl
set_option maxRecDepth 100000 in
set_option maxHeartbeats 4000000 in
theorem sw_w0_20 (cA : ClassId) (ad : Nat → Nat) : (sw_ws ad cA sw_s0)[20]? = some (ad 20, .inl (cA, 24, .inl (fun _ => 0))) := by
  rw [sw_ws_at]
  rfl
set_option maxRecDepth 100000 in
set_option maxHeartbeats 4000000 in
theorem sw_w0_21 (cA : ClassId) (ad : Nat → Nat) : (sw_ws ad cA sw_s0)[21]? = some (ad 21, .inr (3, [.int 0, .int 0, .int 0, .int 0])) := by
  rw [sw_ws_at]
  rfl
set_option maxRecDepth 100000 in
set_option maxHeartbeats 4000000 in
theorem sw_w0_22 (cA : ClassId) (ad : Nat → Nat) : (sw_ws ad cA sw_s0)[22]? = some (ad 22, .inr (3, [.int 0, .int 0, .int 0, .int 0])) := by
  rw [sw_ws_at]
  rfl
set_option maxRecDepth 100000 in
set_option maxHeartbeats 4000000 in
theorem sw_w0_23 (cA : ClassId) (ad : Nat → Nat) : (sw_ws ad cA sw_s0)[23]? = some (ad 23, .inr (1, [.int 0, .int (-9), .int 0, .ref (ad 24), .ref (ad 25)])) := by
  rw [sw_ws_at]
  rfl
set_option maxRecDepth 100000 in
set_option maxHeartbeats 4000000 in
theorem sw_w0_24 (cA : ClassId) (ad : Nat → Nat) : (sw_ws ad cA sw_s0)[24]? = some (ad 24, .inl (cA, 24, .inl (fun _ => 0))) := by
  rw [sw_ws_at]
  rfl
set_option maxRecDepth 100000 in
set_option maxHeartbeats 4000000 in
theorem sw_w0_25 (cA : ClassId) (ad : Nat → Nat) : (sw_ws ad cA sw_s0)[25]? = some (ad 25, .inl (cA, 24, .inl (fun _ => 0))) := by
  rw [sw_ws_at]
  rfl
set_option maxRecDepth 100000 in
set_option maxHeartbeats 4000000 in
theorem sw_w0_26 (cA : ClassId) (ad : Nat → Nat) : (sw_ws ad cA sw_s0)[26]? = some (ad 26, .inr (2, [.int 0, .ref (ad 27), .ref (ad 28), .ref (ad 29)])) := by
  rw [sw_ws_at]
  rfl
set_option maxRecDepth 100000 in
set_option maxHeartbeats 4000000 in
theorem sw_w0_27 (cA : ClassId) (ad : Nat → Nat) : (sw_ws ad cA sw_s0)[27]? = some (ad 27, .inl (cA, 6, .inl (fun _ => 0))) := by
  rw [sw_ws_at]
  rfl
set_option maxRecDepth 100000 in
set_option maxHeartbeats 4000000 in
theorem sw_w0_28 (cA : ClassId) (ad : Nat → Nat) : (sw_ws ad cA sw_s0)[28]? = some (ad 28, .inl (cA, 6, .inl (fun _ => 0))) := by
  rw [sw_ws_at]
  rfl
set_option maxRecDepth 100000 in
set_option maxHeartbeats 4000000 in
theorem sw_w0_29 (cA : ClassId) (ad : Nat → Nat) : (sw_ws ad cA sw_s0)[29]? = some (ad 29, .inl (cA, 6, .inl (fun _ => 0))) := by
  rw [sw_ws_at]
  rfl
set_option maxRecDepth 100000 in
set_option maxHeartbeats 4000000 in
theorem sw_w0_30 (cA : ClassId) (ad : Nat → Nat) : (sw_ws ad cA sw_s0)[30]? = some (ad 30, .inr (5, [.int 0, .ref (ad 31), .ref (ad 32)])) := by
  rw [sw_ws_at]
  rfl
set_option maxRecDepth 100000 in
set_option maxHeartbeats 4000000 in
theorem sw_w0_31 (cA : ClassId) (ad : Nat → Nat) : (sw_ws ad cA sw_s0)[31]? = some (ad 31, .inl (cA, 8, .inl (fun _ => 0))) := by
  rw [sw_ws_at]
  rfl
set_option maxRecDepth 100000 in
set_option maxHeartbeats 4000000 in
theorem sw_w0_32 (cA : ClassId) (ad : Nat → Nat) : (sw_ws ad cA sw_s0)[32]? = some (ad 32, .inl (cA, 8, .inl (fun _ => 0))) := by
  rw [sw_ws_at]
  rfl
set_option maxRecDepth 100000 in
set_option maxHeartbeats 4000000 in
theorem sw_w0_33 (cA : ClassId) (ad : Nat → Nat) : (sw_ws ad cA sw_s0)[33]? = some (ad 33, .inr (4, [.int (-9), .int (-9), .int (-9), .int (-9)])) := by
  rw [sw_ws_at]
  rfl
set_option maxRecDepth 100000 in
set_option maxHeartbeats 4000000 in
theorem sw_w0_34 (cA : ClassId) (ad : Nat → Nat) : (sw_ws ad cA sw_s0)[34]? = some (ad 34, .inr (8, [.int 0, .ref (ad 35), .ref (ad 36)])) := by
  rw [sw_ws_at]
  rfl
set_option maxRecDepth 100000 in
set_option maxHeartbeats 4000000 in
theorem sw_w0_35 (cA : ClassId) (ad : Nat → Nat) : (sw_ws ad cA sw_s0)[35]? = some (ad 35, .inl (cA, 7, .inl (fun _ => 0))) := by
  rw [sw_ws_at]
  rfl
set_option maxRecDepth 100000 in
set_option maxHeartbeats 4000000 in
theorem sw_w0_36 (cA : ClassId) (ad : Nat → Nat) : (sw_ws ad cA sw_s0)[36]? = some (ad 36, .inl (cA, 64, .inl (fun _ => 0))) := by
  rw [sw_ws_at]
  rfl
set_option maxRecDepth 100000 in
set_option maxHeartbeats 4000000 in
theorem sw_w0_37 (cA : ClassId) (ad : Nat → Nat) : (sw_ws ad cA sw_s0)[37]? = some (ad 37, .inr (10, [.int 0, .int 0, .ref (ad 38), .ref (ad 39), .ref (ad 40), .ref (ad 41), .ref (ad 42), .int 0, .int 0, .ref (ad 43), .ref (ad 44), .ref (ad 45), .int 0, .ref (ad 46), .ref (ad 47), .ref (ad 48), .int 0, .int 0, .int 0, .int 0, .int 0, .ref (ad 49), .ref (ad 50), .int 0, .int 0, .ref (ad 51), .ref (ad 52), .ref (ad 53), .int 0, .ref (ad 54), .ref (ad 55), .int 0, .int 0, .ref (ad 56), .int 0, .int 0, .int 0, .int 0, .ref (ad 57), .ref (ad 58), .int 0, .ref (ad 59), .ref (ad 60), .ref (ad 61), .ref (ad 62), .int 0])) := by
  rw [sw_ws_at, sh37]
  show some (ad 37, Sum.inr (10, sw_fs ad (sw_s0 37) sw_fl10)) = _
  rw [sw_fs10]
  rfl
set_option maxRecDepth 100000 in
set_option maxHeartbeats 4000000 in
theorem sw_w0_38 (cA : ClassId) (ad : Nat → Nat) : (sw_ws ad cA sw_s0)[38]? = some (ad 38, .inl (cA, 8, .inl (fun _ => 0))) := by
  rw [sw_ws_at]
  rfl
set_option maxRecDepth 100000 in
set_option maxHeartbeats 4000000 in
theorem sw_w0_39 (cA : ClassId) (ad : Nat → Nat) : (sw_ws ad cA sw_s0)[39]? = some (ad 39, .inl (cA, 8, .inl (fun _ => 0))) := by
  rw [sw_ws_at]
  rfl
set_option maxRecDepth 100000 in
set_option maxHeartbeats 4000000 in
theorem sw_w0_40 (cA : ClassId) (ad : Nat → Nat) : (sw_ws ad cA sw_s0)[40]? = some (ad 40, .inl (cA, 8, .inl (fun _ => 0))) := by
  rw [sw_ws_at]
  rfl
set_option maxRecDepth 100000 in
set_option maxHeartbeats 4000000 in
theorem sw_w0_41 (cA : ClassId) (ad : Nat → Nat) : (sw_ws ad cA sw_s0)[41]? = some (ad 41, .inl (cA, 8, .inl (fun _ => 0))) := by
  rw [sw_ws_at]
  rfl
set_option maxRecDepth 100000 in
set_option maxHeartbeats 4000000 in
theorem sw_w0_42 (cA : ClassId) (ad : Nat → Nat) : (sw_ws ad cA sw_s0)[42]? = some (ad 42, .inl (cA, 8, .inl (fun _ => 0))) := by
  rw [sw_ws_at]
  rfl
set_option maxRecDepth 100000 in
set_option maxHeartbeats 4000000 in
theorem sw_w0_43 (cA : ClassId) (ad : Nat → Nat) : (sw_ws ad cA sw_s0)[43]? = some (ad 43, .inl (cA, 8, .inl (fun _ => 0))) := by
  rw [sw_ws_at]
  rfl
set_option maxRecDepth 100000 in
set_option maxHeartbeats 4000000 in
theorem sw_w0_44 (cA : ClassId) (ad : Nat → Nat) : (sw_ws ad cA sw_s0)[44]? = some (ad 44, .inl (cA, 8, .inl (fun _ => 0))) := by
  rw [sw_ws_at]
  rfl
set_option maxRecDepth 100000 in
set_option maxHeartbeats 4000000 in
theorem sw_w0_45 (cA : ClassId) (ad : Nat → Nat) : (sw_ws ad cA sw_s0)[45]? = some (ad 45, .inl (cA, 72, .inl (fun _ => 0))) := by
  rw [sw_ws_at]
  rfl
set_option maxRecDepth 100000 in
set_option maxHeartbeats 4000000 in
theorem sw_w0_46 (cA : ClassId) (ad : Nat → Nat) : (sw_ws ad cA sw_s0)[46]? = some (ad 46, .inl (cA, 24, .inl (fun _ => 0))) := by
  rw [sw_ws_at]
  rfl
set_option maxRecDepth 100000 in
set_option maxHeartbeats 4000000 in
theorem sw_w0_47 (cA : ClassId) (ad : Nat → Nat) : (sw_ws ad cA sw_s0)[47]? = some (ad 47, .inl (cA, 24, .inl (fun _ => 0))) := by
  rw [sw_ws_at]
  rfl
set_option maxRecDepth 100000 in
set_option maxHeartbeats 4000000 in
theorem sw_w0_48 (cA : ClassId) (ad : Nat → Nat) : (sw_ws ad cA sw_s0)[48]? = some (ad 48, .inl (cA, 24, .inl (fun _ => 0))) := by
  rw [sw_ws_at]
  rfl
set_option maxRecDepth 100000 in
set_option maxHeartbeats 4000000 in
theorem sw_w0_49 (cA : ClassId) (ad : Nat → Nat) : (sw_ws ad cA sw_s0)[49]? = some (ad 49, .inl (cA, 24, .inl (fun _ => 0))) := by
  rw [sw_ws_at]
  rfl
set_option maxRecDepth 100000 in
set_option maxHeartbeats 4000000 in
theorem sw_w0_50 (cA : ClassId) (ad : Nat → Nat) : (sw_ws ad cA sw_s0)[50]? = some (ad 50, .inl (cA, 24, .inl (fun _ => 0))) := by
  rw [sw_ws_at]
  rfl
set_option maxRecDepth 100000 in
set_option maxHeartbeats 4000000 in
theorem sw_w0_51 (cA : ClassId) (ad : Nat → Nat) : (sw_ws ad cA sw_s0)[51]? = some (ad 51, .inl (cA, 6, .inl (fun _ => 0))) := by
  rw [sw_ws_at]
  rfl
set_option maxRecDepth 100000 in
set_option maxHeartbeats 4000000 in
theorem sw_w0_52 (cA : ClassId) (ad : Nat → Nat) : (sw_ws ad cA sw_s0)[52]? = some (ad 52, .inl (cA, 6, .inl (fun _ => 0))) := by
  rw [sw_ws_at]
  rfl
set_option maxRecDepth 100000 in
set_option maxHeartbeats 4000000 in
theorem sw_w0_53 (cA : ClassId) (ad : Nat → Nat) : (sw_ws ad cA sw_s0)[53]? = some (ad 53, .inl (cA, 6, .inl (fun _ => 0))) := by
  rw [sw_ws_at]
  rfl
set_option maxRecDepth 100000 in
set_option maxHeartbeats 4000000 in
theorem sw_w0_54 (cA : ClassId) (ad : Nat → Nat) : (sw_ws ad cA sw_s0)[54]? = some (ad 54, .inl (cA, 8, .inl (fun _ => 0))) := by
  rw [sw_ws_at]
  rfl
set_option maxRecDepth 100000 in
set_option maxHeartbeats 4000000 in
theorem sw_w0_55 (cA : ClassId) (ad : Nat → Nat) : (sw_ws ad cA sw_s0)[55]? = some (ad 55, .inl (cA, 8, .inl (fun _ => 0))) := by
  rw [sw_ws_at]
  rfl
set_option maxRecDepth 100000 in
set_option maxHeartbeats 4000000 in
theorem sw_w0_56 (cA : ClassId) (ad : Nat → Nat) : (sw_ws ad cA sw_s0)[56]? = some (ad 56, .inl (cA, 6, .inl (fun _ => 0))) := by
  rw [sw_ws_at]
  rfl
set_option maxRecDepth 100000 in
set_option maxHeartbeats 4000000 in
theorem sw_w0_57 (cA : ClassId) (ad : Nat → Nat) : (sw_ws ad cA sw_s0)[57]? = some (ad 57, .inl (cA, 6, .inl (fun _ => 0))) := by
  rw [sw_ws_at]
  rfl
set_option maxRecDepth 100000 in
set_option maxHeartbeats 4000000 in
theorem sw_w0_58 (cA : ClassId) (ad : Nat → Nat) : (sw_ws ad cA sw_s0)[58]? = some (ad 58, .inl (cA, 7, .inl (fun _ => 0))) := by
  rw [sw_ws_at]
  rfl
set_option maxRecDepth 100000 in
set_option maxHeartbeats 4000000 in
theorem sw_w0_59 (cA : ClassId) (ad : Nat → Nat) : (sw_ws ad cA sw_s0)[59]? = some (ad 59, .inl (cA, 4, .inl (upd (upd (upd (upd (fun _ => 0) 0 (-1)) 1 (-1)) 2 (-1)) 3 (-1)))) := by
  rw [sw_ws_at]
  rfl
set_option maxRecDepth 100000 in
set_option maxHeartbeats 4000000 in
theorem sw_w0_60 (cA : ClassId) (ad : Nat → Nat) : (sw_ws ad cA sw_s0)[60]? = some (ad 60, .inl (cA, 4, .inl (fun _ => 0))) := by
  rw [sw_ws_at]
  rfl
set_option maxRecDepth 100000 in
set_option maxHeartbeats 4000000 in
theorem sw_w0_61 (cA : ClassId) (ad : Nat → Nat) : (sw_ws ad cA sw_s0)[61]? = some (ad 61, .inl (cA, 320, .inl (fun _ => 0))) := by
  rw [sw_ws_at]
  rfl
set_option maxRecDepth 100000 in
set_option maxHeartbeats 4000000 in
theorem sw_w0_62 (cA : ClassId) (ad : Nat → Nat) : (sw_ws ad cA sw_s0)[62]? = some (ad 62, .inl (cA, 80, .inl (fun _ => 0))) := by
  rw [sw_ws_at]
  rfl
def sw_w0 (cA : ClassId) (ad : Nat → Nat) : va_W := [(ad 0, .inr (9, [.ref (ad 1), .ref (ad 5), .ref (ad 9), .ref (ad 13), .ref (ad 17), .ref (ad 21), .ref (ad 22), .ref (ad 23), .ref (ad 26), .ref (ad 30), .ref (ad 33), .ref (ad 34), .int 0, .int 0])), (ad 1, .inr (7, [.ref (ad 2), .ref (ad 3), .ref (ad 4)])), (ad 2, .inl (cA, 4, .inl (upd (upd (upd (upd (fun _ => 0) 0 (-1)) 1 (-1)) 2 (-1)) 3 (-1)))), (ad 3, .inl (cA, 4, .inl (fun _ => 0))), (ad 4, .inl (cA, 320, .inl (fun _ => 0))), (ad 5, .inr (6, [.int 0, .ref (ad 6), .ref (ad 7), .ref (ad 8)])), (ad 6, .inl (cA, 8, .inl (fun _ => 0))), (ad 7, .inl (cA, 8, .inl (fun _ => 0))), (ad 8, .inl (cA, 24, .inl (fun _ => 0))), (ad 9, .inr (6, [.int 0, .ref (ad 10), .ref (ad 11), .ref (ad 12)])), (ad 10, .inl (cA, 8, .inl (fun _ => 0))), (ad 11, .inl (cA, 8, .inl (fun _ => 0))), (ad 12, .inl (cA, 24, .inl (fun _ => 0))), (ad 13, .inr (6, [.int 0, .ref (ad 14), .ref (ad 15), .ref (ad 16)])), (ad 14, .inl (cA, 8, .inl (fun _ => 0))), (ad 15, .inl (cA, 8, .inl (fun _ => 0))), (ad 16, .inl (cA, 24, .inl (fun _ => 0))), (ad 17, .inr (0, [.int 0, .ref (ad 18), .ref (ad 19), .ref (ad 20)])), (ad 18, .inl (cA, 24, .inl (fun _ => 0))), (ad 19, .inl (cA, 24, .inl (fun _ => 0))), (ad 20, .inl (cA, 24, .inl (fun _ => 0))), (ad 21, .inr (3, [.int 0, .int 0, .int 0, .int 0])), (ad 22, .inr (3, [.int 0, .int 0, .int 0, .int 0])), (ad 23, .inr (1, [.int 0, .int (-9), .int 0, .ref (ad 24), .ref (ad 25)])), (ad 24, .inl (cA, 24, .inl (fun _ => 0))), (ad 25, .inl (cA, 24, .inl (fun _ => 0))), (ad 26, .inr (2, [.int 0, .ref (ad 27), .ref (ad 28), .ref (ad 29)])), (ad 27, .inl (cA, 6, .inl (fun _ => 0))), (ad 28, .inl (cA, 6, .inl (fun _ => 0))), (ad 29, .inl (cA, 6, .inl (fun _ => 0))), (ad 30, .inr (5, [.int 0, .ref (ad 31), .ref (ad 32)])), (ad 31, .inl (cA, 8, .inl (fun _ => 0))), (ad 32, .inl (cA, 8, .inl (fun _ => 0))), (ad 33, .inr (4, [.int (-9), .int (-9), .int (-9), .int (-9)])), (ad 34, .inr (8, [.int 0, .ref (ad 35), .ref (ad 36)])), (ad 35, .inl (cA, 7, .inl (fun _ => 0))), (ad 36, .inl (cA, 64, .inl (fun _ => 0))), (ad 37, .inr (10, [.int 0, .int 0, .ref (ad 38), .ref (ad 39), .ref (ad 40), .ref (ad 41), .ref (ad 42), .int 0, .int 0, .ref (ad 43), .ref (ad 44), .ref (ad 45), .int 0, .ref (ad 46), .ref (ad 47), .ref (ad 48), .int 0, .int 0, .int 0, .int 0, .int 0, .ref (ad 49), .ref (ad 50), .int 0, .int 0, .ref (ad 51), .ref (ad 52), .ref (ad 53), .int 0, .ref (ad 54), .ref (ad 55), .int 0, .int 0, .ref (ad 56), .int 0, .int 0, .int 0, .int 0, .ref (ad 57), .ref (ad 58), .int 0, .ref (ad 59), .ref (ad 60), .ref (ad 61), .ref (ad 62), .int 0])), (ad 38, .inl (cA, 8, .inl (fun _ => 0))), (ad 39, .inl (cA, 8, .inl (fun _ => 0))), (ad 40, .inl (cA, 8, .inl (fun _ => 0))), (ad 41, .inl (cA, 8, .inl (fun _ => 0))), (ad 42, .inl (cA, 8, .inl (fun _ => 0))), (ad 43, .inl (cA, 8, .inl (fun _ => 0))), (ad 44, .inl (cA, 8, .inl (fun _ => 0))), (ad 45, .inl (cA, 72, .inl (fun _ => 0))), (ad 46, .inl (cA, 24, .inl (fun _ => 0))), (ad 47, .inl (cA, 24, .inl (fun _ => 0))), (ad 48, .inl (cA, 24, .inl (fun _ => 0))), (ad 49, .inl (cA, 24, .inl (fun _ => 0))), (ad 50, .inl (cA, 24, .inl (fun _ => 0))), (ad 51, .inl (cA, 6, .inl (fun _ => 0))), (ad 52, .inl (cA, 6, .inl (fun _ => 0))), (ad 53, .inl (cA, 6, .inl (fun _ => 0))), (ad 54, .inl (cA, 8, .inl (fun _ => 0))), (ad 55, .inl (cA, 8, .inl (fun _ => 0))), (ad 56, .inl (cA, 6, .inl (fun _ => 0))), (ad 57, .inl (cA, 6, .inl (fun _ => 0))), (ad 58, .inl (cA, 7, .inl (fun _ => 0))), (ad 59, .inl (cA, 4, .inl (upd (upd (upd (upd (fun _ => 0) 0 (-1)) 1 (-1)) 2 (-1)) 3 (-1)))), (ad 60, .inl (cA, 4, .inl (fun _ => 0))), (ad 61, .inl (cA, 320, .inl (fun _ => 0))), (ad 62, .inl (cA, 80, .inl (fun _ => 0)))]
set_option maxRecDepth 100000 in
set_option maxHeartbeats 4000000 in
theorem sw_w0_len (cA : ClassId) (ad : Nat → Nat) : (sw_w0 cA ad).length = 63 := rfl
set_option maxRecDepth 100000 in
set_option maxHeartbeats 4000000 in
theorem sw_world0 (cA : ClassId) (ad : Nat → Nat) : sw_w0 cA ad = sw_ws ad cA sw_s0 := by
  apply List.ext_getElem?
  intro k
  match k with
  | 0 => exact (sw_w0_0 cA ad).symm
  | 1 => exact (sw_w0_1 cA ad).symm
  | 2 => exact (sw_w0_2 cA ad).symm
  | 3 => exact (sw_w0_3 cA ad).symm
  | 4 => exact (sw_w0_4 cA ad).symm
  | 5 => exact (sw_w0_5 cA ad).symm
  | 6 => exact (sw_w0_6 cA ad).symm
  | 7 => exact (sw_w0_7 cA ad).symm
  | 8 => exact (sw_w0_8 cA ad).symm
  | 9 => exact (sw_w0_9 cA ad).symm
  | 10 => exact (sw_w0_10 cA ad).symm
  | 11 => exact (sw_w0_11 cA ad).symm
  | 12 => exact (sw_w0_12 cA ad).symm
  | 13 => exact (sw_w0_13 cA ad).symm
  | 14 => exact (sw_w0_14 cA ad).symm
  | 15 => exact (sw_w0_15 cA ad).symm
  | 16 => exact (sw_w0_16 cA ad).symm
  | 17 => exact (sw_w0_17 cA ad).symm
  | 18 => exact (sw_w0_18 cA ad).symm
  | 19 => exact (sw_w0_19 cA ad).symm
  | 20 => exact (sw_w0_20 cA ad).symm
  | 21 => exact (sw_w0_21 cA ad).symm
  | 22 => exact (sw_w0_22 cA ad).symm
  | 23 => exact (sw_w0_23 cA ad).symm
  | 24 => exact (sw_w0_24 cA ad).symm
  | 25 => exact (sw_w0_25 cA ad).symm
  | 26 => exact (sw_w0_26 cA ad).symm
  | 27 => exact (sw_w0_27 cA ad).symm
  | 28 => exact (sw_w0_28 cA ad).symm
  | 29 => exact (sw_w0_29 cA ad).symm
  | 30 => exact (sw_w0_30 cA ad).symm
  | 31 => exact (sw_w0_31 cA ad).symm
  | 32 => exact (sw_w0_32 cA ad).symm
  | 33 => exact (sw_w0_33 cA ad).symm
  | 34 => exact (sw_w0_34 cA ad).symm
  | 35 => exact (sw_w0_35 cA ad).symm
  | 36 => exact (sw_w0_36 cA ad).symm
  | 37 => exact (sw_w0_37 cA ad).symm
  | 38 => exact (sw_w0_38 cA ad).symm
  | 39 => exact (sw_w0_39 cA ad).symm
  | 40 => exact (sw_w0_40 cA ad).symm
  | 41 => exact (sw_w0_41 cA ad).symm
  | 42 => exact (sw_w0_42 cA ad).symm
  | 43 => exact (sw_w0_43 cA ad).symm
  | 44 => exact (sw_w0_44 cA ad).symm
  | 45 => exact (sw_w0_45 cA ad).symm
  | 46 => exact (sw_w0_46 cA ad).symm
  | 47 => exact (sw_w0_47 cA ad).symm
  | 48 => exact (sw_w0_48 cA ad).symm
  | 49 => exact (sw_w0_49 cA ad).symm
  | 50 => exact (sw_w0_50 cA ad).symm
  | 51 => exact (sw_w0_51 cA ad).symm
  | 52 => exact (sw_w0_52 cA ad).symm
  | 53 => exact (sw_w0_53 cA ad).symm
  | 54 => exact (sw_w0_54 cA ad).symm
  | 55 => exact (sw_w0_55 cA ad).symm
  | 56 => exact (sw_w0_56 cA ad).symm
  | 57 => exact (sw_w0_57 cA ad).symm
  | 58 => exact (sw_w0_58 cA ad).symm
  | 59 => exact (sw_w0_59 cA ad).symm
  | 60 => exact (sw_w0_60 cA ad).symm
  | 61 => exact (sw_w0_61 cA ad).symm
  | 62 => exact (sw_w0_62 cA ad).symm
  | k + 63 => rw [List.getElem?_eq_none (by rw [sw_w0_len]; omega), List.getElem?_eq_none (by simp [sw_ws, sw_sh_len])]
theorem sw_null10 : ∀ j, j < 46 → defaultValue (tyX10 j) = vp_V [.int 0, .int 0, .null, .null, .null, .null, .null, .int 0, .int 0, .null, .null, .null, .int 0, .null, .null, .null, .int 0, .int 0, .int 0, .int 0, .int 0, .null, .null, .int 0, .int 0, .null, .null, .null, .int 0, .null, .null, .int 0, .int 0, .null, .int 0, .int 0, .int 0, .int 0, .null, .null, .int 0, .null, .null, .null, .null, .int 0] j := by decide +kernel
theorem sw_adx (l : List Nat) : ∃ ad : Nat → Nat, ∀ (i x : Nat), l[i]? = some x → x = ad i := ⟨fun i => l.getD i 0, fun i x h => by simp [List.getD, h]⟩
set_option maxRecDepth 100000 in
set_option maxHeartbeats 4000000 in
theorem sw_from18 (hpure : ∀ (L : Nat) (xs : Nat → Int32), L ≤ 3072 → ∃ t, fL_law_L18 L xs sw_fuel 0 sw_s0 = some t) {p : Program} {e : Env} {s : State} {m : MethodId} {below : List Frame} {meth : Method} {c : Code} (l : Launch) {b L : Nat} {xs : Nat → Int32} (hL : L ≤ 3072) (C0 : lw_At p s m meth c b L xs) {D : va_G} {cA : ClassId} {ad : Nat → Nat} {A : Nat → Prop} {H : Heap} {locs : List Loc} {ls : Array Slot} (hK : va_K D vwCl [(cA, .int)] s) (hAe : A = (fun q : Nat => s.heap.size ≤ q)) (hP : va_P D vwCl (sw_w0 cA ad) H) (hD : va_D A (sw_w0 cA ad)) (hS : va_S A s.heap H locs) (hl : lv_has ls 4 [(0, .ref b), (1, .ref (ad 0)), (2, .ref (ad 37)), (3, .int 0)]) : W p l e room_1 s m #[Value.ref b] below meth c H locs 63 1488 (lw_Z below #[Value.ref b] s) (F0 m 18 ls []) := by
  obtain ⟨hx, hb, hr, hml, hown, hts0, hX, hbl, hlocks, hgv⟩ := id C0
  have hown : s.vm.findClass RL = some m.cls := hown
  have hts : ∀ w ∈ sw_tbl, w.before #[Value.ref b] s = true := fun w hw => hts0 w (List.mem_filter.mp hw).1
  rw [sw_world0 cA ad] at hP hD
  subst hAe
  obtain ⟨t, hpt⟩ := hpure L xs hL
  have hap : sw_ap ad := by
    intro i j hi hj hij
    have h1 := List.getElem?_eq_getElem (l := sw_sh) (i := i) (by rw [sw_sh_len]; exact hi)
    have h2 := List.getElem?_eq_getElem (l := sw_sh) (i := j) (by rw [sw_sh_len]; exact hj)
    exact hD.1 i j (sw_cell ad cA sw_s0 i sw_sh[i]) (sw_cell ad cA sw_s0 j sw_sh[j]) (by rw [sw_ws_at, h1]; rfl) (by rw [sw_ws_at, h2]; rfl) (by rw [sw_cell_1, sw_cell_1]; exact hij)
  have hAd : ∀ i : Nat, i < 63 → s.heap.size ≤ ad i := by
    intro i hi
    have h1 := List.getElem?_eq_getElem (l := sw_sh) (i := i) (by rw [sw_sh_len]; exact hi)
    have := hD.2 i (sw_cell ad cA sw_s0 i sw_sh[i]) (by rw [sw_ws_at, h1]; rfl)
    rw [sw_cell_1] at this
    exact this
  have key := jL_law_L18 (X := ((p, l, e, room_1, s, m), (#[Value.ref b], below, meth, c), (63, 1488, lw_Z below #[Value.ref b] s), (fun q => s.heap.size ≤ q, D, cA, 4))) (ad := ad) (t := t) (b := b) (Ls := L) (xs := xs) ⟨hx, hb, hml, hown, hts, hK, hap, hAd, fun _ h => h, by decide, by decide, by decide, by decide⟩ rfl ⟨hX, hbl, rfl, rfl, rfl, rfl, rfl, rfl, hlocks, hr⟩ sw_fuel 0 sw_s0 hpt
  exact key H locs ls hP hS hl
