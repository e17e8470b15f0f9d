theorem ingX0 : ∀ w ∈ u_ws RX0 TX0 4, w ∈ sw_tbl := fun w h => sw_memw (inX0 w h) ((by decide +kernel : ∀ w ∈ wsX00, goodWord w = true) w h)
theorem ingX1 : ∀ w ∈ u_ws RX1 TX1 5, w ∈ sw_tbl := fun w h => sw_memw (inX1 w h) ((by decide +kernel : ∀ w ∈ wsX10, goodWord w = true) w h)
theorem ingX2 : ∀ w ∈ u_ws RX2 TX2 4, w ∈ sw_tbl := fun w h => sw_memw (inX2 w h) ((by decide +kernel : ∀ w ∈ wsX20, goodWord w = true) w h)
theorem ingX3 : ∀ w ∈ u_ws RX3 TX3 4, w ∈ sw_tbl := fun w h => sw_memw (inX3 w h) ((by decide +kernel : ∀ w ∈ wsX30, goodWord w = true) w h)
theorem ingX4 : ∀ w ∈ u_ws RX4 TX4 4, w ∈ sw_tbl := fun w h => sw_memw (inX4 w h) ((by decide +kernel : ∀ w ∈ wsX40, goodWord w = true) w h)
theorem ingX5 : ∀ w ∈ u_ws RX5 TX5 3, w ∈ sw_tbl := fun w h => sw_memw (inX5 w h) ((by decide +kernel : ∀ w ∈ wsX50, goodWord w = true) w h)
theorem ingX6 : ∀ w ∈ u_ws RX6 TX6 4, w ∈ sw_tbl := fun w h => sw_memw (inX6 w h) ((by decide +kernel : ∀ w ∈ wsX60, goodWord w = true) w h)
theorem ingX7 : ∀ w ∈ u_ws RX7 TX7 3, w ∈ sw_tbl := fun w h => sw_memw (inX7 w h) ((by decide +kernel : ∀ w ∈ wsX70, goodWord w = true) w h)
theorem ingX8 : ∀ w ∈ u_ws RX8 TX8 3, w ∈ sw_tbl := fun w h => sw_memw (inX8 w h) ((by decide +kernel : ∀ w ∈ wsX80, goodWord w = true) w h)
theorem ingX9 : ∀ w ∈ u_ws RX9 TX9 14, w ∈ sw_tbl := fun w h => sw_memw (inX9 w h) ((by decide +kernel : ∀ w ∈ wsX90, goodWord w = true) w h)
theorem ingX10 : ∀ w ∈ u_ws RX10 TX10 46, w ∈ sw_tbl := fun w h => sw_memw (inX10 w h) ((by decide +kernel : ∀ w ∈ wsX100, goodWord w = true) w h)
theorem ff9_0 : sw_fl9[0]? = some (some 1) := rfl
theorem ff9_1 : sw_fl9[1]? = some (some 5) := rfl
theorem ff9_2 : sw_fl9[2]? = some (some 9) := rfl
theorem ff9_3 : sw_fl9[3]? = some (some 13) := rfl
theorem ff9_4 : sw_fl9[4]? = some (some 17) := rfl
theorem ff9_5 : sw_fl9[5]? = some (some 21) := rfl
theorem ff9_6 : sw_fl9[6]? = some (some 22) := rfl
theorem ff9_7 : sw_fl9[7]? = some (some 23) := rfl
theorem ff9_8 : sw_fl9[8]? = some (some 26) := rfl
theorem ff9_9 : sw_fl9[9]? = some (some 30) := rfl
theorem ff9_10 : sw_fl9[10]? = some (some 33) := rfl
theorem ff9_11 : sw_fl9[11]? = some (some 34) := rfl
theorem ff9_12 : sw_fl9[12]? = some (none) := rfl
theorem ff9_13 : sw_fl9[13]? = some (none) := rfl
theorem sh0 : sw_sh[0]? = some (.inr (9, sw_fl9)) := rfl
theorem sh1 : sw_sh[1]? = some (.inr (7, [some 2, some 3, some 4])) := rfl
theorem sh2 : sw_sh[2]? = some (.inl 4) := rfl
theorem sh3 : sw_sh[3]? = some (.inl 4) := rfl
theorem sh4 : sw_sh[4]? = some (.inl 320) := rfl
theorem sh5 : sw_sh[5]? = some (.inr (6, [none, some 6, some 7, some 8])) := rfl
theorem sh6 : sw_sh[6]? = some (.inl 8) := rfl
theorem sh7 : sw_sh[7]? = some (.inl 8) := rfl
theorem sh8 : sw_sh[8]? = some (.inl 24) := rfl
theorem sh9 : sw_sh[9]? = some (.inr (6, [none, some 10, some 11, some 12])) := rfl
theorem sh10 : sw_sh[10]? = some (.inl 8) := rfl
theorem sh11 : sw_sh[11]? = some (.inl 8) := rfl
theorem sh12 : sw_sh[12]? = some (.inl 24) := rfl
theorem sh13 : sw_sh[13]? = some (.inr (6, [none, some 14, some 15, some 16])) := rfl
theorem sh14 : sw_sh[14]? = some (.inl 8) := rfl
theorem sh15 : sw_sh[15]? = some (.inl 8) := rfl
theorem sh16 : sw_sh[16]? = some (.inl 24) := rfl
theorem sh17 : sw_sh[17]? = some (.inr (0, [none, some 18, some 19, some 20])) := rfl
theorem sh18 : sw_sh[18]? = some (.inl 24) := rfl
theorem sh19 : sw_sh[19]? = some (.inl 24) := rfl
theorem sh20 : sw_sh[20]? = some (.inl 24) := rfl
theorem sh21 : sw_sh[21]? = some (.inr (3, [none, none, none, none])) := rfl
theorem sh22 : sw_sh[22]? = some (.inr (3, [none, none, none, none])) := rfl
theorem sh23 : sw_sh[23]? = some (.inr (1, [none, none, none, some 24, some 25])) := rfl
theorem sh24 : sw_sh[24]? = some (.inl 24) := rfl
theorem sh25 : sw_sh[25]? = some (.inl 24) := rfl
theorem sh26 : sw_sh[26]? = some (.inr (2, [none, some 27, some 28, some 29])) := rfl
theorem sh27 : sw_sh[27]? = some (.inl 6) := rfl
theorem sh28 : sw_sh[28]? = some (.inl 6) := rfl
theorem sh29 : sw_sh[29]? = some (.inl 6) := rfl
theorem sh30 : sw_sh[30]? = some (.inr (5, [none, some 31, some 32])) := rfl
theorem sh31 : sw_sh[31]? = some (.inl 8) := rfl
theorem sh32 : sw_sh[32]? = some (.inl 8) := rfl
theorem sh33 : sw_sh[33]? = some (.inr (4, [none, none, none, none])) := rfl
theorem sh34 : sw_sh[34]? = some (.inr (8, [none, some 35, some 36])) := rfl
theorem sh35 : sw_sh[35]? = some (.inl 7) := rfl
theorem sh36 : sw_sh[36]? = some (.inl 64) := rfl
theorem ff10_0 : sw_fl10[0]? = some (none) := rfl
theorem ff10_1 : sw_fl10[1]? = some (none) := rfl
theorem ff10_2 : sw_fl10[2]? = some (some 38) := rfl
theorem ff10_3 : sw_fl10[3]? = some (some 39) := rfl
theorem ff10_4 : sw_fl10[4]? = some (some 40) := rfl
theorem ff10_5 : sw_fl10[5]? = some (some 41) := rfl
theorem ff10_6 : sw_fl10[6]? = some (some 42) := rfl
theorem ff10_7 : sw_fl10[7]? = some (none) := rfl
theorem ff10_8 : sw_fl10[8]? = some (none) := rfl
theorem ff10_9 : sw_fl10[9]? = some (some 43) := rfl
theorem ff10_10 : sw_fl10[10]? = some (some 44) := rfl
theorem ff10_11 : sw_fl10[11]? = some (some 45) := rfl
theorem ff10_12 : sw_fl10[12]? = some (none) := rfl
theorem ff10_13 : sw_fl10[13]? = some (some 46) := rfl
theorem ff10_14 : sw_fl10[14]? = some (some 47) := rfl
theorem ff10_15 : sw_fl10[15]? = some (some 48) := rfl
theorem ff10_16 : sw_fl10[16]? = some (none) := rfl
theorem ff10_17 : sw_fl10[17]? = some (none) := rfl
theorem ff10_18 : sw_fl10[18]? = some (none) := rfl
theorem ff10_19 : sw_fl10[19]? = some (none) := rfl
theorem ff10_20 : sw_fl10[20]? = some (none) := rfl
theorem ff10_21 : sw_fl10[21]? = some (some 49) := rfl
theorem ff10_22 : sw_fl10[22]? = some (some 50) := rfl
theorem ff10_23 : sw_fl10[23]? = some (none) := rfl
theorem ff10_24 : sw_fl10[24]? = some (none) := rfl
theorem ff10_25 : sw_fl10[25]? = some (some 51) := rfl
theorem ff10_26 : sw_fl10[26]? = some (some 52) := rfl
theorem ff10_27 : sw_fl10[27]? = some (some 53) := rfl
theorem ff10_28 : sw_fl10[28]? = some (none) := rfl
theorem ff10_29 : sw_fl10[29]? = some (some 54) := rfl
theorem ff10_30 : sw_fl10[30]? = some (some 55) := rfl
theorem ff10_31 : sw_fl10[31]? = some (none) := rfl
theorem ff10_32 : sw_fl10[32]? = some (none) := rfl
theorem ff10_33 : sw_fl10[33]? = some (some 56) := rfl
theorem ff10_34 : sw_fl10[34]? = some (none) := rfl
theorem ff10_35 : sw_fl10[35]? = some (none) := rfl
theorem ff10_36 : sw_fl10[36]? = some (none) := rfl
theorem ff10_37 : sw_fl10[37]? = some (none) := rfl
theorem ff10_38 : sw_fl10[38]? = some (some 57) := rfl
theorem ff10_39 : sw_fl10[39]? = some (some 58) := rfl
theorem ff10_40 : sw_fl10[40]? = some (none) := rfl
theorem ff10_41 : sw_fl10[41]? = some (some 59) := rfl
theorem ff10_42 : sw_fl10[42]? = some (some 60) := rfl
theorem ff10_43 : sw_fl10[43]? = some (some 61) := rfl
theorem ff10_44 : sw_fl10[44]? = some (some 62) := rfl
theorem ff10_45 : sw_fl10[45]? = some (none) := rfl
theorem sh37 : sw_sh[37]? = some (.inr (10, sw_fl10)) := rfl
theorem sh38 : sw_sh[38]? = some (.inl 8) := rfl
theorem sh39 : sw_sh[39]? = some (.inl 8) := rfl
theorem sh40 : sw_sh[40]? = some (.inl 8) := rfl
theorem sh41 : sw_sh[41]? = some (.inl 8) := rfl
theorem sh42 : sw_sh[42]? = some (.inl 8) := rfl
theorem sh43 : sw_sh[43]? = some (.inl 8) := rfl
theorem sh44 : sw_sh[44]? = some (.inl 8) := rfl
theorem sh45 : sw_sh[45]? = some (.inl 72) := rfl
theorem sh46 : sw_sh[46]? = some (.inl 24) := rfl
theorem sh47 : sw_sh[47]? = some (.inl 24) := rfl
theorem sh48 : sw_sh[48]? = some (.inl 24) := rfl
theorem sh49 : sw_sh[49]? = some (.inl 24) := rfl
theorem sh50 : sw_sh[50]? = some (.inl 24) := rfl
theorem sh51 : sw_sh[51]? = some (.inl 6) := rfl
theorem sh52 : sw_sh[52]? = some (.inl 6) := rfl
theorem sh53 : sw_sh[53]? = some (.inl 6) := rfl
theorem sh54 : sw_sh[54]? = some (.inl 8) := rfl
theorem sh55 : sw_sh[55]? = some (.inl 8) := rfl
theorem sh56 : sw_sh[56]? = some (.inl 6) := rfl
theorem sh57 : sw_sh[57]? = some (.inl 6) := rfl
theorem sh58 : sw_sh[58]? = some (.inl 7) := rfl
theorem sh59 : sw_sh[59]? = some (.inl 4) := rfl
theorem sh60 : sw_sh[60]? = some (.inl 4) := rfl
theorem sh61 : sw_sh[61]? = some (.inl 320) := rfl
theorem sh62 : sw_sh[62]? = some (.inl 80) := rfl
def sw_saw (c : Nat) : Prop := sw_sh[c]? = some (.inr (6, [none, some (c + 1), some (c + 2), some (c + 3)])) ∧ sw_sh[c + 1]? = some (.inl 8) ∧ sw_sh[c + 2]? = some (.inl 8) ∧ sw_sh[c + 3]? = some (.inl 24)
def sw_hand (c : Nat) : Prop := sw_sh[c]? = some (.inr (3, [none, none, none, none]))
theorem saw5 : sw_saw 5 := ⟨sh5, sh6, sh7, sh8⟩
theorem saw9 : sw_saw 9 := ⟨sh9, sh10, sh11, sh12⟩
theorem saw13 : sw_saw 13 := ⟨sh13, sh14, sh15, sh16⟩
theorem kfX0_9 : sw_F RX0 9 0 0 := ⟨RX0, TX0, 4, rfl, by decide, ingX0, sw_mem 130 (by decide +kernel) rfl⟩
theorem kfX0_15 : sw_F RX0 15 0 1 := ⟨RX0, TX0, 4, rfl, by decide, ingX0, sw_mem 133 (by decide +kernel) rfl⟩
theorem kfX0_19 : sw_F RX0 19 0 2 := ⟨RX0, TX0, 4, rfl, by decide, ingX0, sw_mem 134 (by decide +kernel) rfl⟩
theorem kfX0_22 : sw_F RX0 22 0 3 := ⟨RX0, TX0, 4, rfl, by decide, ingX0, sw_mem 135 (by decide +kernel) rfl⟩
theorem kfX1_9 : sw_F RX1 9 1 0 := ⟨RX1, TX1, 5, rfl, by decide, ingX1, sw_mem 178 (by decide +kernel) rfl⟩
theorem kfX1_18 : sw_F RX1 18 1 2 := ⟨RX1, TX1, 5, rfl, by decide, ingX1, sw_mem 183 (by decide +kernel) rfl⟩
theorem kfX1_23 : sw_F RX1 23 1 3 := ⟨RX1, TX1, 5, rfl, by decide, ingX1, sw_mem 185 (by decide +kernel) rfl⟩
theorem kfX1_27 : sw_F RX1 27 1 4 := ⟨RX1, TX1, 5, rfl, by decide, ingX1, sw_mem 186 (by decide +kernel) rfl⟩
theorem kfX1_39 : sw_F RX1 39 0 0 := ⟨RX0, TX0, 4, rfl, by decide, ingX0, sw_mem 131 (by decide +kernel) rfl⟩
theorem kfX1_49 : sw_F RX1 49 3 1 := ⟨RX3, TX3, 4, rfl, by decide, ingX3, sw_mem 155 (by decide +kernel) rfl⟩
theorem kfX1_54 : sw_F RX1 54 3 2 := ⟨RX3, TX3, 4, rfl, by decide, ingX3, sw_mem 158 (by decide +kernel) rfl⟩
theorem kfX1_63 : sw_F RX1 63 3 0 := ⟨RX3, TX3, 4, rfl, by decide, ingX3, sw_mem 152 (by decide +kernel) rfl⟩
theorem kfX1_66 : sw_F RX1 66 3 3 := ⟨RX3, TX3, 4, rfl, by decide, ingX3, sw_mem 161 (by decide +kernel) rfl⟩
theorem kfX10_7 : sw_F RX10 7 10 2 := ⟨RX10, TX10, 46, rfl, by decide, ingX10, sw_mem 881 (by decide +kernel) rfl⟩
theorem kfX10_13 : sw_F RX10 13 10 3 := ⟨RX10, TX10, 46, rfl, by decide, ingX10, sw_mem 882 (by decide +kernel) rfl⟩
theorem kfX10_16 : sw_F RX10 16 10 4 := ⟨RX10, TX10, 46, rfl, by decide, ingX10, sw_mem 883 (by decide +kernel) rfl⟩
theorem kfX10_19 : sw_F RX10 19 10 5 := ⟨RX10, TX10, 46, rfl, by decide, ingX10, sw_mem 884 (by decide +kernel) rfl⟩
theorem kfX10_22 : sw_F RX10 22 10 6 := ⟨RX10, TX10, 46, rfl, by decide, ingX10, sw_mem 885 (by decide +kernel) rfl⟩
theorem kfX10_25 : sw_F RX10 25 10 9 := ⟨RX10, TX10, 46, rfl, by decide, ingX10, sw_mem 888 (by decide +kernel) rfl⟩
theorem kfX10_28 : sw_F RX10 28 10 10 := ⟨RX10, TX10, 46, rfl, by decide, ingX10, sw_mem 889 (by decide +kernel) rfl⟩
theorem kfX10_31 : sw_F RX10 31 10 11 := ⟨RX10, TX10, 46, rfl, by decide, ingX10, sw_mem 890 (by decide +kernel) rfl⟩
theorem kfX10_34 : sw_F RX10 34 10 13 := ⟨RX10, TX10, 46, rfl, by decide, ingX10, sw_mem 892 (by decide +kernel) rfl⟩
theorem kfX10_37 : sw_F RX10 37 10 14 := ⟨RX10, TX10, 46, rfl, by decide, ingX10, sw_mem 893 (by decide +kernel) rfl⟩
theorem kfX10_40 : sw_F RX10 40 10 15 := ⟨RX10, TX10, 46, rfl, by decide, ingX10, sw_mem 894 (by decide +kernel) rfl⟩
theorem kfX10_43 : sw_F RX10 43 10 21 := ⟨RX10, TX10, 46, rfl, by decide, ingX10, sw_mem 900 (by decide +kernel) rfl⟩
theorem kfX10_46 : sw_F RX10 46 10 22 := ⟨RX10, TX10, 46, rfl, by decide, ingX10, sw_mem 901 (by decide +kernel) rfl⟩
theorem kfX10_49 : sw_F RX10 49 10 25 := ⟨RX10, TX10, 46, rfl, by decide, ingX10, sw_mem 904 (by decide +kernel) rfl⟩
theorem kfX10_52 : sw_F RX10 52 10 26 := ⟨RX10, TX10, 46, rfl, by decide, ingX10, sw_mem 905 (by decide +kernel) rfl⟩
theorem kfX10_55 : sw_F RX10 55 10 27 := ⟨RX10, TX10, 46, rfl, by decide, ingX10, sw_mem 906 (by decide +kernel) rfl⟩
theorem kfX10_58 : sw_F RX10 58 10 29 := ⟨RX10, TX10, 46, rfl, by decide, ingX10, sw_mem 908 (by decide +kernel) rfl⟩
theorem kfX10_61 : sw_F RX10 61 10 30 := ⟨RX10, TX10, 46, rfl, by decide, ingX10, sw_mem 909 (by decide +kernel) rfl⟩
theorem kfX10_64 : sw_F RX10 64 10 33 := ⟨RX10, TX10, 46, rfl, by decide, ingX10, sw_mem 912 (by decide +kernel) rfl⟩
theorem kfX10_67 : sw_F RX10 67 10 38 := ⟨RX10, TX10, 46, rfl, by decide, ingX10, sw_mem 917 (by decide +kernel) rfl⟩
theorem kfX10_70 : sw_F RX10 70 10 39 := ⟨RX10, TX10, 46, rfl, by decide, ingX10, sw_mem 918 (by decide +kernel) rfl⟩
theorem kfX10_73 : sw_F RX10 73 10 41 := ⟨RX10, TX10, 46, rfl, by decide, ingX10, sw_mem 920 (by decide +kernel) rfl⟩
theorem kfX10_76 : sw_F RX10 76 10 42 := ⟨RX10, TX10, 46, rfl, by decide, ingX10, sw_mem 921 (by decide +kernel) rfl⟩
theorem kfX10_79 : sw_F RX10 79 10 43 := ⟨RX10, TX10, 46, rfl, by decide, ingX10, sw_mem 922 (by decide +kernel) rfl⟩
theorem kfX10_82 : sw_F RX10 82 10 44 := ⟨RX10, TX10, 46, rfl, by decide, ingX10, sw_mem 923 (by decide +kernel) rfl⟩
theorem kfX10_87 : sw_F RX10 87 10 0 := ⟨RX10, TX10, 46, rfl, by decide, ingX10, sw_mem 879 (by decide +kernel) rfl⟩
theorem kfX10_116 : sw_F RX10 116 10 1 := ⟨RX10, TX10, 46, rfl, by decide, ingX10, sw_mem 880 (by decide +kernel) rfl⟩
theorem kfX10_119 : sw_F RX10 119 10 7 := ⟨RX10, TX10, 46, rfl, by decide, ingX10, sw_mem 886 (by decide +kernel) rfl⟩
theorem kfX10_124 : sw_F RX10 124 10 8 := ⟨RX10, TX10, 46, rfl, by decide, ingX10, sw_mem 887 (by decide +kernel) rfl⟩
theorem kfX10_142 : sw_F RX10 142 10 24 := ⟨RX10, TX10, 46, rfl, by decide, ingX10, sw_mem 903 (by decide +kernel) rfl⟩
theorem kfX10_145 : sw_F RX10 145 10 28 := ⟨RX10, TX10, 46, rfl, by decide, ingX10, sw_mem 907 (by decide +kernel) rfl⟩
theorem kfX10_172 : sw_F RX10 172 10 12 := ⟨RX10, TX10, 46, rfl, by decide, ingX10, sw_mem 891 (by decide +kernel) rfl⟩
theorem kfX10_187 : sw_F RX10 187 10 16 := ⟨RX10, TX10, 46, rfl, by decide, ingX10, sw_mem 895 (by decide +kernel) rfl⟩
theorem kfX10_190 : sw_F RX10 190 10 17 := ⟨RX10, TX10, 46, rfl, by decide, ingX10, sw_mem 896 (by decide +kernel) rfl⟩
theorem kfX10_193 : sw_F RX10 193 10 18 := ⟨RX10, TX10, 46, rfl, by decide, ingX10, sw_mem 897 (by decide +kernel) rfl⟩
theorem kfX10_198 : sw_F RX10 198 10 19 := ⟨RX10, TX10, 46, rfl, by decide, ingX10, sw_mem 898 (by decide +kernel) rfl⟩
theorem kfX10_201 : sw_F RX10 201 10 20 := ⟨RX10, TX10, 46, rfl, by decide, ingX10, sw_mem 899 (by decide +kernel) rfl⟩
theorem kfX10_204 : sw_F RX10 204 10 23 := ⟨RX10, TX10, 46, rfl, by decide, ingX10, sw_mem 902 (by decide +kernel) rfl⟩
theorem kfX10_231 : sw_F RX10 231 10 31 := ⟨RX10, TX10, 46, rfl, by decide, ingX10, sw_mem 910 (by decide +kernel) rfl⟩
theorem kfX10_234 : sw_F RX10 234 10 32 := ⟨RX10, TX10, 46, rfl, by decide, ingX10, sw_mem 911 (by decide +kernel) rfl⟩
theorem kfX10_250 : sw_F RX10 250 10 34 := ⟨RX10, TX10, 46, rfl, by decide, ingX10, sw_mem 913 (by decide +kernel) rfl⟩
theorem kfX10_253 : sw_F RX10 253 10 35 := ⟨RX10, TX10, 46, rfl, by decide, ingX10, sw_mem 914 (by decide +kernel) rfl⟩
theorem kfX10_256 : sw_F RX10 256 10 36 := ⟨RX10, TX10, 46, rfl, by decide, ingX10, sw_mem 915 (by decide +kernel) rfl⟩
theorem kfX10_259 : sw_F RX10 259 10 37 := ⟨RX10, TX10, 46, rfl, by decide, ingX10, sw_mem 916 (by decide +kernel) rfl⟩
theorem kfX10_294 : sw_F RX10 294 10 40 := ⟨RX10, TX10, 46, rfl, by decide, ingX10, sw_mem 919 (by decide +kernel) rfl⟩
theorem kfX10_307 : sw_F RX10 307 10 45 := ⟨RX10, TX10, 46, rfl, by decide, ingX10, sw_mem 924 (by decide +kernel) rfl⟩
theorem kfX2_9 : sw_F RX2 9 2 0 := ⟨RX2, TX2, 4, rfl, by decide, ingX2, sw_mem 204 (by decide +kernel) rfl⟩
theorem kfX2_15 : sw_F RX2 15 2 1 := ⟨RX2, TX2, 4, rfl, by decide, ingX2, sw_mem 206 (by decide +kernel) rfl⟩
theorem kfX2_19 : sw_F RX2 19 2 2 := ⟨RX2, TX2, 4, rfl, by decide, ingX2, sw_mem 207 (by decide +kernel) rfl⟩
theorem kfX2_22 : sw_F RX2 22 2 3 := ⟨RX2, TX2, 4, rfl, by decide, ingX2, sw_mem 208 (by decide +kernel) rfl⟩
theorem kfX3_7 : sw_F RX3 7 3 0 := ⟨RX3, TX3, 4, rfl, by decide, ingX3, sw_mem 151 (by decide +kernel) rfl⟩
theorem kfX3_13 : sw_F RX3 13 3 1 := ⟨RX3, TX3, 4, rfl, by decide, ingX3, sw_mem 154 (by decide +kernel) rfl⟩
theorem kfX3_16 : sw_F RX3 16 3 2 := ⟨RX3, TX3, 4, rfl, by decide, ingX3, sw_mem 157 (by decide +kernel) rfl⟩
theorem kfX3_19 : sw_F RX3 19 3 3 := ⟨RX3, TX3, 4, rfl, by decide, ingX3, sw_mem 160 (by decide +kernel) rfl⟩
theorem kfX4_15 : sw_F RX4 15 4 1 := ⟨RX4, TX4, 4, rfl, by decide, ingX4, sw_mem 243 (by decide +kernel) rfl⟩
theorem kfX5_9 : sw_F RX5 9 5 0 := ⟨RX5, TX5, 3, rfl, by decide, ingX5, sw_mem 224 (by decide +kernel) rfl⟩
theorem kfX5_15 : sw_F RX5 15 5 1 := ⟨RX5, TX5, 3, rfl, by decide, ingX5, sw_mem 226 (by decide +kernel) rfl⟩
theorem kfX5_19 : sw_F RX5 19 5 2 := ⟨RX5, TX5, 3, rfl, by decide, ingX5, sw_mem 227 (by decide +kernel) rfl⟩
theorem kfX5_22 : sw_F RX5 22 1 0 := ⟨RX1, TX1, 5, rfl, by decide, ingX1, sw_mem 179 (by decide +kernel) rfl⟩
theorem kfX6_9 : sw_F RX6 9 6 0 := ⟨RX6, TX6, 4, rfl, by decide, ingX6, sw_mem 110 (by decide +kernel) rfl⟩
theorem kfX6_15 : sw_F RX6 15 6 1 := ⟨RX6, TX6, 4, rfl, by decide, ingX6, sw_mem 112 (by decide +kernel) rfl⟩
theorem kfX6_19 : sw_F RX6 19 6 2 := ⟨RX6, TX6, 4, rfl, by decide, ingX6, sw_mem 113 (by decide +kernel) rfl⟩
theorem kfX6_22 : sw_F RX6 22 6 3 := ⟨RX6, TX6, 4, rfl, by decide, ingX6, sw_mem 114 (by decide +kernel) rfl⟩
theorem kfX7_11 : sw_F RX7 11 7 0 := ⟨RX7, TX7, 3, rfl, by decide, ingX7, sw_mem 93 (by decide +kernel) rfl⟩
theorem kfX7_15 : sw_F RX7 15 7 1 := ⟨RX7, TX7, 3, rfl, by decide, ingX7, sw_mem 94 (by decide +kernel) rfl⟩
theorem kfX7_18 : sw_F RX7 18 7 2 := ⟨RX7, TX7, 3, rfl, by decide, ingX7, sw_mem 95 (by decide +kernel) rfl⟩
theorem kfX8_9 : sw_F RX8 9 8 0 := ⟨RX8, TX8, 3, rfl, by decide, ingX8, sw_mem 264 (by decide +kernel) rfl⟩
theorem kfX8_15 : sw_F RX8 15 8 1 := ⟨RX8, TX8, 3, rfl, by decide, ingX8, sw_mem 265 (by decide +kernel) rfl⟩
theorem kfX8_19 : sw_F RX8 19 8 2 := ⟨RX8, TX8, 3, rfl, by decide, ingX8, sw_mem 266 (by decide +kernel) rfl⟩
theorem kfX9_12 : sw_F RX9 12 9 0 := ⟨RX9, TX9, 14, rfl, by decide, ingX9, sw_mem 274 (by decide +kernel) rfl⟩
theorem kfX9_21 : sw_F RX9 21 9 1 := ⟨RX9, TX9, 14, rfl, by decide, ingX9, sw_mem 275 (by decide +kernel) rfl⟩
theorem kfX9_25 : sw_F RX9 25 9 2 := ⟨RX9, TX9, 14, rfl, by decide, ingX9, sw_mem 276 (by decide +kernel) rfl⟩
theorem kfX9_28 : sw_F RX9 28 9 3 := ⟨RX9, TX9, 14, rfl, by decide, ingX9, sw_mem 277 (by decide +kernel) rfl⟩
theorem kfX9_34 : sw_F RX9 34 9 4 := ⟨RX9, TX9, 14, rfl, by decide, ingX9, sw_mem 278 (by decide +kernel) rfl⟩
theorem kfX9_41 : sw_F RX9 41 9 5 := ⟨RX9, TX9, 14, rfl, by decide, ingX9, sw_mem 279 (by decide +kernel) rfl⟩
theorem kfX9_45 : sw_F RX9 45 9 6 := ⟨RX9, TX9, 14, rfl, by decide, ingX9, sw_mem 280 (by decide +kernel) rfl⟩
theorem kfX9_51 : sw_F RX9 51 9 7 := ⟨RX9, TX9, 14, rfl, by decide, ingX9, sw_mem 281 (by decide +kernel) rfl⟩
theorem kfX9_58 : sw_F RX9 58 9 8 := ⟨RX9, TX9, 14, rfl, by decide, ingX9, sw_mem 282 (by decide +kernel) rfl⟩
theorem kfX9_65 : sw_F RX9 65 9 9 := ⟨RX9, TX9, 14, rfl, by decide, ingX9, sw_mem 283 (by decide +kernel) rfl⟩
theorem kfX9_72 : sw_F RX9 72 9 10 := ⟨RX9, TX9, 14, rfl, by decide, ingX9, sw_mem 284 (by decide +kernel) rfl⟩
theorem kfX9_79 : sw_F RX9 79 9 11 := ⟨RX9, TX9, 14, rfl, by decide, ingX9, sw_mem 285 (by decide +kernel) rfl⟩
theorem kfX9_83 : sw_F RX9 83 9 12 := ⟨RX9, TX9, 14, rfl, by decide, ingX9, sw_mem 286 (by decide +kernel) rfl⟩
theorem kfX9_87 : sw_F RX9 87 9 13 := ⟨RX9, TX9, 14, rfl, by decide, ingX9, sw_mem 287 (by decide +kernel) rfl⟩
theorem kfX9_102 : sw_F RX9 102 2 0 := ⟨RX2, TX2, 4, rfl, by decide, ingX2, sw_mem 205 (by decide +kernel) rfl⟩
theorem kfX9_105 : sw_F RX9 105 5 0 := ⟨RX5, TX5, 3, rfl, by decide, ingX5, sw_mem 225 (by decide +kernel) rfl⟩
theorem kfX9_106 : sw_F RX9 106 6 0 := ⟨RX6, TX6, 4, rfl, by decide, ingX6, sw_mem 111 (by decide +kernel) rfl⟩
theorem kfX9_155 : sw_F RX9 155 0 0 := ⟨RX0, TX0, 4, rfl, by decide, ingX0, sw_mem 132 (by decide +kernel) rfl⟩
theorem kfX9_166 : sw_F RX9 166 3 0 := ⟨RX3, TX3, 4, rfl, by decide, ingX3, sw_mem 153 (by decide +kernel) rfl⟩
theorem kfX9_169 : sw_F RX9 169 3 1 := ⟨RX3, TX3, 4, rfl, by decide, ingX3, sw_mem 156 (by decide +kernel) rfl⟩
theorem kfX9_172 : sw_F RX9 172 3 2 := ⟨RX3, TX3, 4, rfl, by decide, ingX3, sw_mem 159 (by decide +kernel) rfl⟩
theorem kfX9_175 : sw_F RX9 175 3 3 := ⟨RX3, TX3, 4, rfl, by decide, ingX3, sw_mem 162 (by decide +kernel) rfl⟩
theorem kfX9_196 : sw_F RX9 196 1 2 := ⟨RX1, TX1, 5, rfl, by decide, ingX1, sw_mem 184 (by decide +kernel) rfl⟩
theorem kfX9_199 : sw_F RX9 199 1 1 := ⟨RX1, TX1, 5, rfl, by decide, ingX1, sw_mem 182 (by decide +kernel) rfl⟩
theorem kfX9_250 : sw_F RX9 250 4 0 := ⟨RX4, TX4, 4, rfl, by decide, ingX4, sw_mem 242 (by decide +kernel) rfl⟩
theorem kfX9_253 : sw_F RX9 253 4 1 := ⟨RX4, TX4, 4, rfl, by decide, ingX4, sw_mem 244 (by decide +kernel) rfl⟩
theorem kfX9_256 : sw_F RX9 256 4 2 := ⟨RX4, TX4, 4, rfl, by decide, ingX4, sw_mem 246 (by decide +kernel) rfl⟩
theorem kfX9_259 : sw_F RX9 259 4 3 := ⟨RX4, TX4, 4, rfl, by decide, ingX4, sw_mem 248 (by decide +kernel) rfl⟩
theorem kfX9_333 : sw_F RX9 333 1 0 := ⟨RX1, TX1, 5, rfl, by decide, ingX1, sw_mem 180 (by decide +kernel) rfl⟩
theorem kpX0_9 : sw_FP RX0 9 0 0 := ⟨RX0, TX0, 4, tyX0, rfl, by decide, ingX0, sw_mem 130 (by decide +kernel) rfl, tyX0_ok, nmX0, rfl, tyX0_ok 0 (by decide)⟩
theorem kpX1_9 : sw_FP RX1 9 1 0 := ⟨RX1, TX1, 5, tyX1, rfl, by decide, ingX1, sw_mem 178 (by decide +kernel) rfl, tyX1_ok, nmX1, rfl, tyX1_ok 0 (by decide)⟩
theorem kpX1_15 : sw_FP RX1 15 1 1 := ⟨RX1, TX1, 5, tyX1, rfl, by decide, ingX1, sw_mem 181 (by decide +kernel) rfl, tyX1_ok, nmX1, rfl, tyX1_ok 1 (by decide)⟩
theorem kpX1_18 : sw_FP RX1 18 1 2 := ⟨RX1, TX1, 5, tyX1, rfl, by decide, ingX1, sw_mem 183 (by decide +kernel) rfl, tyX1_ok, nmX1, rfl, tyX1_ok 2 (by decide)⟩
theorem kpX10_87 : sw_FP RX10 87 10 0 := ⟨RX10, TX10, 46, tyX10, rfl, by decide, ingX10, sw_mem 879 (by decide +kernel) rfl, tyX10_ok, nmX10, rfl, tyX10_ok 0 (by decide)⟩
theorem kpX10_116 : sw_FP RX10 116 10 1 := ⟨RX10, TX10, 46, tyX10, rfl, by decide, ingX10, sw_mem 880 (by decide +kernel) rfl, tyX10_ok, nmX10, rfl, tyX10_ok 1 (by decide)⟩
theorem kpX10_119 : sw_FP RX10 119 10 7 := ⟨RX10, TX10, 46, tyX10, rfl, by decide, ingX10, sw_mem 886 (by decide +kernel) rfl, tyX10_ok, nmX10, rfl, tyX10_ok 7 (by decide)⟩
theorem kpX10_124 : sw_FP RX10 124 10 8 := ⟨RX10, TX10, 46, tyX10, rfl, by decide, ingX10, sw_mem 887 (by decide +kernel) rfl, tyX10_ok, nmX10, rfl, tyX10_ok 8 (by decide)⟩
theorem kpX10_142 : sw_FP RX10 142 10 24 := ⟨RX10, TX10, 46, tyX10, rfl, by decide, ingX10, sw_mem 903 (by decide +kernel) rfl, tyX10_ok, nmX10, rfl, tyX10_ok 24 (by decide)⟩
theorem kpX10_145 : sw_FP RX10 145 10 28 := ⟨RX10, TX10, 46, tyX10, rfl, by decide, ingX10, sw_mem 907 (by decide +kernel) rfl, tyX10_ok, nmX10, rfl, tyX10_ok 28 (by decide)⟩
theorem kpX10_172 : sw_FP RX10 172 10 12 := ⟨RX10, TX10, 46, tyX10, rfl, by decide, ingX10, sw_mem 891 (by decide +kernel) rfl, tyX10_ok, nmX10, rfl, tyX10_ok 12 (by decide)⟩
theorem kpX10_187 : sw_FP RX10 187 10 16 := ⟨RX10, TX10, 46, tyX10, rfl, by decide, ingX10, sw_mem 895 (by decide +kernel) rfl, tyX10_ok, nmX10, rfl, tyX10_ok 16 (by decide)⟩
theorem kpX10_190 : sw_FP RX10 190 10 17 := ⟨RX10, TX10, 46, tyX10, rfl, by decide, ingX10, sw_mem 896 (by decide +kernel) rfl, tyX10_ok, nmX10, rfl, tyX10_ok 17 (by decide)⟩
theorem kpX10_193 : sw_FP RX10 193 10 18 := ⟨RX10, TX10, 46, tyX10, rfl, by decide, ingX10, sw_mem 897 (by decide +kernel) rfl, tyX10_ok, nmX10, rfl, tyX10_ok 18 (by decide)⟩
theorem kpX10_198 : sw_FP RX10 198 10 19 := ⟨RX10, TX10, 46, tyX10, rfl, by decide, ingX10, sw_mem 898 (by decide +kernel) rfl, tyX10_ok, nmX10, rfl, tyX10_ok 19 (by decide)⟩
theorem kpX10_201 : sw_FP RX10 201 10 20 := ⟨RX10, TX10, 46, tyX10, rfl, by decide, ingX10, sw_mem 899 (by decide +kernel) rfl, tyX10_ok, nmX10, rfl, tyX10_ok 20 (by decide)⟩
theorem kpX10_204 : sw_FP RX10 204 10 23 := ⟨RX10, TX10, 46, tyX10, rfl, by decide, ingX10, sw_mem 902 (by decide +kernel) rfl, tyX10_ok, nmX10, rfl, tyX10_ok 23 (by decide)⟩
theorem kpX10_231 : sw_FP RX10 231 10 31 := ⟨RX10, TX10, 46, tyX10, rfl, by decide, ingX10, sw_mem 910 (by decide +kernel) rfl, tyX10_ok, nmX10, rfl, tyX10_ok 31 (by decide)⟩
theorem kpX10_234 : sw_FP RX10 234 10 32 := ⟨RX10, TX10, 46, tyX10, rfl, by decide, ingX10, sw_mem 911 (by decide +kernel) rfl, tyX10_ok, nmX10, rfl, tyX10_ok 32 (by decide)⟩
theorem kpX10_250 : sw_FP RX10 250 10 34 := ⟨RX10, TX10, 46, tyX10, rfl, by decide, ingX10, sw_mem 913 (by decide +kernel) rfl, tyX10_ok, nmX10, rfl, tyX10_ok 34 (by decide)⟩
theorem kpX10_253 : sw_FP RX10 253 10 35 := ⟨RX10, TX10, 46, tyX10, rfl, by decide, ingX10, sw_mem 914 (by decide +kernel) rfl, tyX10_ok, nmX10, rfl, tyX10_ok 35 (by decide)⟩
theorem kpX10_256 : sw_FP RX10 256 10 36 := ⟨RX10, TX10, 46, tyX10, rfl, by decide, ingX10, sw_mem 915 (by decide +kernel) rfl, tyX10_ok, nmX10, rfl, tyX10_ok 36 (by decide)⟩
theorem kpX10_259 : sw_FP RX10 259 10 37 := ⟨RX10, TX10, 46, tyX10, rfl, by decide, ingX10, sw_mem 916 (by decide +kernel) rfl, tyX10_ok, nmX10, rfl, tyX10_ok 37 (by decide)⟩
theorem kpX10_294 : sw_FP RX10 294 10 40 := ⟨RX10, TX10, 46, tyX10, rfl, by decide, ingX10, sw_mem 919 (by decide +kernel) rfl, tyX10_ok, nmX10, rfl, tyX10_ok 40 (by decide)⟩
theorem kpX10_307 : sw_FP RX10 307 10 45 := ⟨RX10, TX10, 46, tyX10, rfl, by decide, ingX10, sw_mem 924 (by decide +kernel) rfl, tyX10_ok, nmX10, rfl, tyX10_ok 45 (by decide)⟩
theorem kpX2_9 : sw_FP RX2 9 2 0 := ⟨RX2, TX2, 4, tyX2, rfl, by decide, ingX2, sw_mem 204 (by decide +kernel) rfl, tyX2_ok, nmX2, rfl, tyX2_ok 0 (by decide)⟩
theorem kpX3_7 : sw_FP RX3 7 3 0 := ⟨RX3, TX3, 4, tyX3, rfl, by decide, ingX3, sw_mem 151 (by decide +kernel) rfl, tyX3_ok, nmX3, rfl, tyX3_ok 0 (by decide)⟩
theorem kpX3_13 : sw_FP RX3 13 3 1 := ⟨RX3, TX3, 4, tyX3, rfl, by decide, ingX3, sw_mem 154 (by decide +kernel) rfl, tyX3_ok, nmX3, rfl, tyX3_ok 1 (by decide)⟩
theorem kpX3_16 : sw_FP RX3 16 3 2 := ⟨RX3, TX3, 4, tyX3, rfl, by decide, ingX3, sw_mem 157 (by decide +kernel) rfl, tyX3_ok, nmX3, rfl, tyX3_ok 2 (by decide)⟩
theorem kpX3_19 : sw_FP RX3 19 3 3 := ⟨RX3, TX3, 4, tyX3, rfl, by decide, ingX3, sw_mem 160 (by decide +kernel) rfl, tyX3_ok, nmX3, rfl, tyX3_ok 3 (by decide)⟩
theorem kpX4_9 : sw_FP RX4 9 4 0 := ⟨RX4, TX4, 4, tyX4, rfl, by decide, ingX4, sw_mem 241 (by decide +kernel) rfl, tyX4_ok, nmX4, rfl, tyX4_ok 0 (by decide)⟩
theorem kpX4_15 : sw_FP RX4 15 4 1 := ⟨RX4, TX4, 4, tyX4, rfl, by decide, ingX4, sw_mem 243 (by decide +kernel) rfl, tyX4_ok, nmX4, rfl, tyX4_ok 1 (by decide)⟩
theorem kpX4_18 : sw_FP RX4 18 4 2 := ⟨RX4, TX4, 4, tyX4, rfl, by decide, ingX4, sw_mem 245 (by decide +kernel) rfl, tyX4_ok, nmX4, rfl, tyX4_ok 2 (by decide)⟩
theorem kpX4_21 : sw_FP RX4 21 4 3 := ⟨RX4, TX4, 4, tyX4, rfl, by decide, ingX4, sw_mem 247 (by decide +kernel) rfl, tyX4_ok, nmX4, rfl, tyX4_ok 3 (by decide)⟩
theorem kpX5_9 : sw_FP RX5 9 5 0 := ⟨RX5, TX5, 3, tyX5, rfl, by decide, ingX5, sw_mem 224 (by decide +kernel) rfl, tyX5_ok, nmX5, rfl, tyX5_ok 0 (by decide)⟩
theorem kpX6_9 : sw_FP RX6 9 6 0 := ⟨RX6, TX6, 4, tyX6, rfl, by decide, ingX6, sw_mem 110 (by decide +kernel) rfl, tyX6_ok, nmX6, rfl, tyX6_ok 0 (by decide)⟩
theorem kpX8_9 : sw_FP RX8 9 8 0 := ⟨RX8, TX8, 3, tyX8, rfl, by decide, ingX8, sw_mem 264 (by decide +kernel) rfl, tyX8_ok, nmX8, rfl, tyX8_ok 0 (by decide)⟩
theorem kpX9_83 : sw_FP RX9 83 9 12 := ⟨RX9, TX9, 14, tyX9, rfl, by decide, ingX9, sw_mem 286 (by decide +kernel) rfl, tyX9_ok, nmX9, rfl, tyX9_ok 12 (by decide)⟩
theorem kpX9_87 : sw_FP RX9 87 9 13 := ⟨RX9, TX9, 14, tyX9, rfl, by decide, ingX9, sw_mem 287 (by decide +kernel) rfl, tyX9_ok, nmX9, rfl, tyX9_ok 13 (by decide)⟩
theorem kpX9_102 : sw_FP RX9 102 2 0 := ⟨RX2, TX2, 4, tyX2, rfl, by decide, ingX2, sw_mem 205 (by decide +kernel) rfl, tyX2_ok, nmX2, rfl, tyX2_ok 0 (by decide)⟩
theorem kpX9_105 : sw_FP RX9 105 5 0 := ⟨RX5, TX5, 3, tyX5, rfl, by decide, ingX5, sw_mem 225 (by decide +kernel) rfl, tyX5_ok, nmX5, rfl, tyX5_ok 0 (by decide)⟩
theorem kpX9_166 : sw_FP RX9 166 3 0 := ⟨RX3, TX3, 4, tyX3, rfl, by decide, ingX3, sw_mem 153 (by decide +kernel) rfl, tyX3_ok, nmX3, rfl, tyX3_ok 0 (by decide)⟩
theorem kpX9_169 : sw_FP RX9 169 3 1 := ⟨RX3, TX3, 4, tyX3, rfl, by decide, ingX3, sw_mem 156 (by decide +kernel) rfl, tyX3_ok, nmX3, rfl, tyX3_ok 1 (by decide)⟩
theorem kpX9_172 : sw_FP RX9 172 3 2 := ⟨RX3, TX3, 4, tyX3, rfl, by decide, ingX3, sw_mem 159 (by decide +kernel) rfl, tyX3_ok, nmX3, rfl, tyX3_ok 2 (by decide)⟩
theorem kpX9_175 : sw_FP RX9 175 3 3 := ⟨RX3, TX3, 4, tyX3, rfl, by decide, ingX3, sw_mem 162 (by decide +kernel) rfl, tyX3_ok, nmX3, rfl, tyX3_ok 3 (by decide)⟩
theorem mlX0_25 : Cond.methodLink RX0 25 yX0_has ∈ sw_tbl := sw_mem 475 (by decide +kernel) rfl
theorem mlX0_29 : Cond.methodLink RX0 29 yX7_at ∈ sw_tbl := sw_mem 452 (by decide +kernel) rfl
theorem mlX0_35 : Cond.methodLink RX0 35 yX0_goesOnWith ∈ sw_tbl := sw_mem 453 (by decide +kernel) rfl
theorem mlX0_39 : Cond.methodLink RX0 39 yJ9_min_7cf53 ∈ sw_tbl := sw_mem 460 (by decide +kernel) rfl
theorem mlX1_30 : Cond.methodLink RX1 30 yX6_push ∈ sw_tbl := sw_mem 520 (by decide +kernel) rfl
theorem mlX1_36 : Cond.methodLink RX1 36 yX6_kerf ∈ sw_tbl := sw_mem 521 (by decide +kernel) rfl
theorem mlX1_42 : Cond.methodLink RX1 42 yX0_closesOf ∈ sw_tbl := sw_mem 522 (by decide +kernel) rfl
theorem mlX1_46 : Cond.methodLink RX1 46 yX0_hardOf ∈ sw_tbl := sw_mem 523 (by decide +kernel) rfl
theorem mlX1_57 : Cond.methodLink RX1 57 yX1_placeBehind ∈ sw_tbl := sw_mem 524 (by decide +kernel) rfl
theorem mlX1_60 : Cond.methodLink RX1 60 yX0_grainOf ∈ sw_tbl := sw_mem 528 (by decide +kernel) rfl
theorem mlX1_69 : Cond.methodLink RX1 69 yX1_stroke ∈ sw_tbl := sw_mem 529 (by decide +kernel) rfl
theorem mlX1_73 : Cond.methodLink RX1 73 yX1_headingBehind ∈ sw_tbl := sw_mem 533 (by decide +kernel) rfl
theorem mlX1_76 : Cond.methodLink RX1 76 yJ9_min_7cf53 ∈ sw_tbl := sw_mem 537 (by decide +kernel) rfl
theorem mlX1_82 : Cond.methodLink RX1 82 yJ9_max_7cf53 ∈ sw_tbl := sw_mem 538 (by decide +kernel) rfl
theorem mlX1_85 : Cond.methodLink RX1 85 yJ9_abs_0f7a4 ∈ sw_tbl := sw_mem 539 (by decide +kernel) rfl
theorem mlX10_91 : Cond.methodLink RX10 91 yX10_lost ∈ sw_tbl := sw_mem 1143 (by decide +kernel) rfl
theorem mlX10_95 : Cond.methodLink RX10 95 yX10_noSheet ∈ sw_tbl := sw_mem 1026 (by decide +kernel) rfl
theorem mlX10_99 : Cond.methodLink RX10 99 yX10_refused ∈ sw_tbl := sw_mem 1033 (by decide +kernel) rfl
theorem mlX10_105 : Cond.methodLink RX10 105 yX10_in ∈ sw_tbl := sw_mem 1030 (by decide +kernel) rfl
theorem mlX10_109 : Cond.methodLink RX10 109 yX10_failed ∈ sw_tbl := sw_mem 1038 (by decide +kernel) rfl
theorem mlX10_112 : Cond.methodLink RX10 112 yX10_isBeyond ∈ sw_tbl := sw_mem 1042 (by decide +kernel) rfl
theorem mlX10_127 : Cond.methodLink RX10 127 yX10_sideBy ∈ sw_tbl := sw_mem 1049 (by decide +kernel) rfl
theorem mlX10_130 : Cond.methodLink RX10 130 yX10_readsFigures ∈ sw_tbl := sw_mem 1052 (by decide +kernel) rfl
theorem mlX10_134 : Cond.methodLink RX10 134 yX10_barred ∈ sw_tbl := sw_mem 1022 (by decide +kernel) rfl
theorem mlX10_138 : Cond.methodLink RX10 138 yX10_readsSaw ∈ sw_tbl := sw_mem 1045 (by decide +kernel) rfl
theorem mlX10_148 : Cond.methodLink RX10 148 yX10_takesOf ∈ sw_tbl := sw_mem 1065 (by decide +kernel) rfl
theorem mlX10_151 : Cond.methodLink RX10 151 yX10_noTooth ∈ sw_tbl := sw_mem 1061 (by decide +kernel) rfl
theorem mlX10_154 : Cond.methodLink RX10 154 yX10_pushOf ∈ sw_tbl := sw_mem 1069 (by decide +kernel) rfl
theorem mlX10_157 : Cond.methodLink RX10 157 yX10_change ∈ sw_tbl := sw_mem 1077 (by decide +kernel) rfl
theorem mlX10_161 : Cond.methodLink RX10 161 yX10_greater ∈ sw_tbl := sw_mem 1093 (by decide +kernel) rfl
theorem mlX10_165 : Cond.methodLink RX10 165 yX10_pushNow ∈ sw_tbl := sw_mem 1085 (by decide +kernel) rfl
theorem mlX10_169 : Cond.methodLink RX10 169 yX10_kerfNow ∈ sw_tbl := sw_mem 1089 (by decide +kernel) rfl
theorem mlX10_177 : Cond.methodLink RX10 177 yX10_readsBoard ∈ sw_tbl := sw_mem 1100 (by decide +kernel) rfl
theorem mlX10_180 : Cond.methodLink RX10 180 yX10_noLine ∈ sw_tbl := sw_mem 1109 (by decide +kernel) rfl
theorem mlX10_207 : Cond.methodLink RX10 207 yX10_size ∈ sw_tbl := sw_mem 1140 (by decide +kernel) rfl
theorem mlX10_210 : Cond.methodLink RX10 210 yX10_cut ∈ sw_tbl := sw_mem 1136 (by decide +kernel) rfl
theorem mlX10_213 : Cond.methodLink RX10 213 yX10_isUncut ∈ sw_tbl := sw_mem 1132 (by decide +kernel) rfl
theorem mlX10_216 : Cond.methodLink RX10 216 yX10_isBare ∈ sw_tbl := sw_mem 1155 (by decide +kernel) rfl
theorem mlX10_220 : Cond.methodLink RX10 220 yX10_markOf ∈ sw_tbl := sw_mem 1167 (by decide +kernel) rfl
theorem mlX10_225 : Cond.methodLink RX10 225 yX10_noFlaw ∈ sw_tbl := sw_mem 1187 (by decide +kernel) rfl
theorem mlX10_228 : Cond.methodLink RX10 228 yX10_doesFit ∈ sw_tbl := sw_mem 1211 (by decide +kernel) rfl
theorem mlX10_237 : Cond.methodLink RX10 237 yX10_doFit ∈ sw_tbl := sw_mem 1207 (by decide +kernel) rfl
theorem mlX10_240 : Cond.methodLink RX10 240 yX10_layLikely ∈ sw_tbl := sw_mem 1203 (by decide +kernel) rfl
theorem mlX10_243 : Cond.methodLink RX10 243 yX10_mayBe ∈ sw_tbl := sw_mem 1223 (by decide +kernel) rfl
theorem mlX10_246 : Cond.methodLink RX10 246 yX10_doAct ∈ sw_tbl := sw_mem 1227 (by decide +kernel) rfl
theorem mlX10_262 : Cond.methodLink RX10 262 yX10_keep ∈ sw_tbl := sw_mem 1245 (by decide +kernel) rfl
theorem mlX10_265 : Cond.methodLink RX10 265 yX10_costOf ∈ sw_tbl := sw_mem 1249 (by decide +kernel) rfl
theorem mlX10_268 : Cond.methodLink RX10 268 yX10_look ∈ sw_tbl := sw_mem 1241 (by decide +kernel) rfl
theorem mlX10_272 : Cond.methodLink RX10 272 yX10_putBack ∈ sw_tbl := sw_mem 1256 (by decide +kernel) rfl
theorem mlX10_275 : Cond.methodLink RX10 275 yX10_lookFurther ∈ sw_tbl := sw_mem 1252 (by decide +kernel) rfl
theorem mlX10_283 : Cond.methodLink RX10 283 yX10_layMend ∈ sw_tbl := sw_mem 1237 (by decide +kernel) rfl
theorem mlX10_287 : Cond.methodLink RX10 287 yX10_cutIn ∈ sw_tbl := sw_mem 1270 (by decide +kernel) rfl
theorem mlX10_297 : Cond.methodLink RX10 297 yX10_costOfOrder ∈ sw_tbl := sw_mem 1266 (by decide +kernel) rfl
theorem mlX10_300 : Cond.methodLink RX10 300 yX10_noCell ∈ sw_tbl := sw_mem 1285 (by decide +kernel) rfl
theorem mlX10_303 : Cond.methodLink RX10 303 yX10_failedLong ∈ sw_tbl := sw_mem 1293 (by decide +kernel) rfl
theorem mlX10_310 : Cond.methodLink RX10 310 yX10_traced ∈ sw_tbl := sw_mem 1305 (by decide +kernel) rfl
theorem mlX2_25 : Cond.methodLink RX2 25 yX2_has ∈ sw_tbl := sw_mem 621 (by decide +kernel) rfl
theorem mlX2_29 : Cond.methodLink RX2 29 yX2_toothOf ∈ sw_tbl := sw_mem 664 (by decide +kernel) rfl
theorem mlX2_33 : Cond.methodLink RX2 33 yX2_whatOf ∈ sw_tbl := sw_mem 665 (by decide +kernel) rfl
theorem mlX2_36 : Cond.methodLink RX2 36 yX2_valueOf ∈ sw_tbl := sw_mem 666 (by decide +kernel) rfl
theorem mlX2_39 : Cond.methodLink RX2 39 yX6_change ∈ sw_tbl := sw_mem 667 (by decide +kernel) rfl
theorem mlX4_24 : Cond.methodLink RX4 24 yX4_costOf ∈ sw_tbl := sw_mem 733 (by decide +kernel) rfl
theorem mlX4_28 : Cond.methodLink RX4 28 yX4_toldNumber ∈ sw_tbl := sw_mem 734 (by decide +kernel) rfl
theorem mlX5_27 : Cond.methodLink RX5 27 yX1_placeBehind ∈ sw_tbl := sw_mem 672 (by decide +kernel) rfl
theorem mlX6_25 : Cond.methodLink RX6 25 yX6_has ∈ sw_tbl := sw_mem 372 (by decide +kernel) rfl
theorem mlX6_29 : Cond.methodLink RX6 29 yX6_isSize ∈ sw_tbl := sw_mem 376 (by decide +kernel) rfl
theorem mlX6_32 : Cond.methodLink RX6 32 arraycopyName ∈ sw_tbl := sw_mem 387 (by decide +kernel) rfl
theorem mlX6_38 : Cond.methodLink RX6 38 yX7_at ∈ sw_tbl := sw_mem 352 (by decide +kernel) rfl
theorem mlX6_44 : Cond.methodLink RX6 44 yX6_readCode ∈ sw_tbl := sw_mem 360 (by decide +kernel) rfl
theorem mlX6_47 : Cond.methodLink RX6 47 yX6_beginTooth ∈ sw_tbl := sw_mem 364 (by decide +kernel) rfl
theorem mlX6_50 : Cond.methodLink RX6 50 yX6_change ∈ sw_tbl := sw_mem 368 (by decide +kernel) rfl
theorem mlX6_54 : Cond.methodLink RX6 54 yX6_kindOf ∈ sw_tbl := sw_mem 379 (by decide +kernel) rfl
theorem mlX6_58 : Cond.methodLink RX6 58 yX6_takes ∈ sw_tbl := sw_mem 412 (by decide +kernel) rfl
theorem mlX6_61 : Cond.methodLink RX6 61 yX6_leaning ∈ sw_tbl := sw_mem 413 (by decide +kernel) rfl
theorem mlX6_64 : Cond.methodLink RX6 64 yJ9_max_7cf53 ∈ sw_tbl := sw_mem 438 (by decide +kernel) rfl
theorem mlX6_69 : Cond.methodLink RX6 69 yX6_isMarkedAhead ∈ sw_tbl := sw_mem 565 (by decide +kernel) rfl
theorem mlX6_72 : Cond.methodLink RX6 72 yX6_fileIt ∈ sw_tbl := sw_mem 689 (by decide +kernel) rfl
theorem mlX6_75 : Cond.methodLink RX6 75 yX6_bendBy ∈ sw_tbl := sw_mem 694 (by decide +kernel) rfl
theorem mlX6_79 : Cond.methodLink RX6 79 yX6_breakOff ∈ sw_tbl := sw_mem 698 (by decide +kernel) rfl
theorem mlX6_82 : Cond.methodLink RX6 82 yX6_sizeOf ∈ sw_tbl := sw_mem 693 (by decide +kernel) rfl
theorem mlX7_21 : Cond.methodLink RX7 21 yX7_isSheet ∈ sw_tbl := sw_mem 339 (by decide +kernel) rfl
theorem mlX7_25 : Cond.methodLink RX7 25 yX7_isNothing ∈ sw_tbl := sw_mem 335 (by decide +kernel) rfl
theorem mlX7_28 : Cond.methodLink RX7 28 yX7_hasCell ∈ sw_tbl := sw_mem 356 (by decide +kernel) rfl
theorem mlX7_32 : Cond.methodLink RX7 32 yX7_isLane ∈ sw_tbl := sw_mem 795 (by decide +kernel) rfl
theorem mlX7_35 : Cond.methodLink RX7 35 yX7_hasCells ∈ sw_tbl := sw_mem 831 (by decide +kernel) rfl
theorem mlX7_39 : Cond.methodLink RX7 39 arraycopyName ∈ sw_tbl := sw_mem 832 (by decide +kernel) rfl
theorem mlX8_22 : Cond.methodLink RX8 22 yX7_at ∈ sw_tbl := sw_mem 753 (by decide +kernel) rfl
theorem mlX8_28 : Cond.methodLink RX8 28 yX8_isOpen ∈ sw_tbl := sw_mem 758 (by decide +kernel) rfl
theorem mlX8_32 : Cond.methodLink RX8 32 yX8_costThrough ∈ sw_tbl := sw_mem 761 (by decide +kernel) rfl
theorem mlX8_35 : Cond.methodLink RX8 35 yJ9_min_7cf53 ∈ sw_tbl := sw_mem 774 (by decide +kernel) rfl
theorem mlX8_40 : Cond.methodLink RX8 40 yX8_lowestBest ∈ sw_tbl := sw_mem 783 (by decide +kernel) rfl
theorem mlX8_44 : Cond.methodLink RX8 44 yX8_strainLeftOf ∈ sw_tbl := sw_mem 765 (by decide +kernel) rfl
theorem mlX8_47 : Cond.methodLink RX8 47 yX8_strainRightOf ∈ sw_tbl := sw_mem 769 (by decide +kernel) rfl
theorem mlX8_50 : Cond.methodLink RX8 50 yJ9_abs_0f7a4 ∈ sw_tbl := sw_mem 773 (by decide +kernel) rfl
theorem mlX9_90 : Cond.methodLink RX9 90 yX9_refusalOfCells ∈ sw_tbl := sw_mem 321 (by decide +kernel) rfl
theorem mlX9_94 : Cond.methodLink RX9 94 yX6_read ∈ sw_tbl := sw_mem 348 (by decide +kernel) rfl
theorem mlX9_98 : Cond.methodLink RX9 98 yX6_become ∈ sw_tbl := sw_mem 383 (by decide +kernel) rfl
theorem mlX9_107 : Cond.methodLink RX9 107 yX6_has ∈ sw_tbl := sw_mem 394 (by decide +kernel) rfl
theorem mlX9_111 : Cond.methodLink RX9 111 yX6_kindOf ∈ sw_tbl := sw_mem 395 (by decide +kernel) rfl
theorem mlX9_115 : Cond.methodLink RX9 115 yX6_sideOf ∈ sw_tbl := sw_mem 396 (by decide +kernel) rfl
theorem mlX9_118 : Cond.methodLink RX9 118 yX6_sizeOf ∈ sw_tbl := sw_mem 400 (by decide +kernel) rfl
theorem mlX9_122 : Cond.methodLink RX9 122 yX6_takes ∈ sw_tbl := sw_mem 404 (by decide +kernel) rfl
theorem mlX9_125 : Cond.methodLink RX9 125 yX6_pushes ∈ sw_tbl := sw_mem 408 (by decide +kernel) rfl
theorem mlX9_128 : Cond.methodLink RX9 128 yX6_isSize ∈ sw_tbl := sw_mem 421 (by decide +kernel) rfl
theorem mlX9_131 : Cond.methodLink RX9 131 yX9_isWithin ∈ sw_tbl := sw_mem 422 (by decide +kernel) rfl
theorem mlX9_135 : Cond.methodLink RX9 135 yX6_change ∈ sw_tbl := sw_mem 425 (by decide +kernel) rfl
theorem mlX9_139 : Cond.methodLink RX9 139 yX6_push ∈ sw_tbl := sw_mem 430 (by decide +kernel) rfl
theorem mlX9_143 : Cond.methodLink RX9 143 yX6_kerf ∈ sw_tbl := sw_mem 434 (by decide +kernel) rfl
theorem mlX9_146 : Cond.methodLink RX9 146 yX6_taken ∈ sw_tbl := sw_mem 441 (by decide +kernel) rfl
theorem mlX9_149 : Cond.methodLink RX9 149 yX0_firstFault ∈ sw_tbl := sw_mem 449 (by decide +kernel) rfl
theorem mlX9_152 : Cond.methodLink RX9 152 yX0_read ∈ sw_tbl := sw_mem 456 (by decide +kernel) rfl
theorem mlX9_156 : Cond.methodLink RX9 156 yX0_has ∈ sw_tbl := sw_mem 467 (by decide +kernel) rfl
theorem mlX9_157 : Cond.methodLink RX9 157 yX0_hardOf ∈ sw_tbl := sw_mem 471 (by decide +kernel) rfl
theorem mlX9_160 : Cond.methodLink RX9 160 yX0_grainOf ∈ sw_tbl := sw_mem 476 (by decide +kernel) rfl
theorem mlX9_163 : Cond.methodLink RX9 163 yX0_closesOf ∈ sw_tbl := sw_mem 480 (by decide +kernel) rfl
theorem mlX9_178 : Cond.methodLink RX9 178 yX9_refusalOfStroke ∈ sw_tbl := sw_mem 500 (by decide +kernel) rfl
theorem mlX9_181 : Cond.methodLink RX9 181 yX1_placeBehind ∈ sw_tbl := sw_mem 542 (by decide +kernel) rfl
theorem mlX9_186 : Cond.methodLink RX9 186 yX1_headingBehind ∈ sw_tbl := sw_mem 548 (by decide +kernel) rfl
theorem mlX9_189 : Cond.methodLink RX9 189 yX9_lacksSawOrBoard ∈ sw_tbl := sw_mem 508 (by decide +kernel) rfl
theorem mlX9_193 : Cond.methodLink RX9 193 yX9_cutAsItIs ∈ sw_tbl := sw_mem 512 (by decide +kernel) rfl
theorem mlX9_202 : Cond.methodLink RX9 202 yX6_countMarks ∈ sw_tbl := sw_mem 561 (by decide +kernel) rfl
theorem mlX9_205 : Cond.methodLink RX9 205 yX6_whichLeave ∈ sw_tbl := sw_mem 573 (by decide +kernel) rfl
theorem mlX9_208 : Cond.methodLink RX9 208 yX9_straightestLean ∈ sw_tbl := sw_mem 581 (by decide +kernel) rfl
theorem mlX9_211 : Cond.methodLink RX9 211 yX9_straightestSteers ∈ sw_tbl := sw_mem 593 (by decide +kernel) rfl
theorem mlX9_214 : Cond.methodLink RX9 214 yX9_offByLean ∈ sw_tbl := sw_mem 585 (by decide +kernel) rfl
theorem mlX9_217 : Cond.methodLink RX9 217 yX9_offBySteers ∈ sw_tbl := sw_mem 597 (by decide +kernel) rfl
theorem mlX9_220 : Cond.methodLink RX9 220 yX2_add ∈ sw_tbl := sw_mem 605 (by decide +kernel) rfl
theorem mlX9_224 : Cond.methodLink RX9 224 yX2_has ∈ sw_tbl := sw_mem 613 (by decide +kernel) rfl
theorem mlX9_225 : Cond.methodLink RX9 225 yX2_toothOf ∈ sw_tbl := sw_mem 617 (by decide +kernel) rfl
theorem mlX9_228 : Cond.methodLink RX9 228 yX2_whatOf ∈ sw_tbl := sw_mem 622 (by decide +kernel) rfl
theorem mlX9_231 : Cond.methodLink RX9 231 yX2_valueOf ∈ sw_tbl := sw_mem 626 (by decide +kernel) rfl
theorem mlX9_234 : Cond.methodLink RX9 234 yX5_add ∈ sw_tbl := sw_mem 634 (by decide +kernel) rfl
theorem mlX9_236 : Cond.methodLink RX9 236 yX9_countFitting ∈ sw_tbl := sw_mem 646 (by decide +kernel) rfl
theorem mlX9_239 : Cond.methodLink RX9 239 yX9_firstOfFewest ∈ sw_tbl := sw_mem 673 (by decide +kernel) rfl
theorem mlX9_242 : Cond.methodLink RX9 242 yX6_mendBy ∈ sw_tbl := sw_mem 685 (by decide +kernel) rfl
theorem mlX9_246 : Cond.methodLink RX9 246 yX9_seekMending ∈ sw_tbl := sw_mem 706 (by decide +kernel) rfl
theorem mlX9_262 : Cond.methodLink RX9 262 yX8_read ∈ sw_tbl := sw_mem 749 (by decide +kernel) rfl
theorem mlX9_265 : Cond.methodLink RX9 265 yX8_weighOrders ∈ sw_tbl := sw_mem 754 (by decide +kernel) rfl
theorem mlX9_268 : Cond.methodLink RX9 268 yX8_leastCost ∈ sw_tbl := sw_mem 775 (by decide +kernel) rfl
theorem mlX9_271 : Cond.methodLink RX9 271 yX8_cutOfOrder ∈ sw_tbl := sw_mem 779 (by decide +kernel) rfl
theorem mlX9_274 : Cond.methodLink RX9 274 yX7_isSheet ∈ sw_tbl := sw_mem 325 (by decide +kernel) rfl
theorem mlX9_277 : Cond.methodLink RX9 277 yX7_isLane ∈ sw_tbl := sw_mem 328 (by decide +kernel) rfl
theorem mlX9_280 : Cond.methodLink RX9 280 yX9_answerOfFault ∈ sw_tbl := sw_mem 340 (by decide +kernel) rfl
theorem mlX9_283 : Cond.methodLink RX9 283 yX7_renew ∈ sw_tbl := sw_mem 791 (by decide +kernel) rfl
theorem mlX9_286 : Cond.methodLink RX9 286 yX7_drop ∈ sw_tbl := sw_mem 800 (by decide +kernel) rfl
theorem mlX9_289 : Cond.methodLink RX9 289 yX7_isNothing ∈ sw_tbl := sw_mem 808 (by decide +kernel) rfl
theorem mlX9_292 : Cond.methodLink RX9 292 yX7_hasCell ∈ sw_tbl := sw_mem 809 (by decide +kernel) rfl
theorem mlX9_295 : Cond.methodLink RX9 295 yX7_write ∈ sw_tbl := sw_mem 810 (by decide +kernel) rfl
theorem mlX9_298 : Cond.methodLink RX9 298 yX7_faultOfRow ∈ sw_tbl := sw_mem 331 (by decide +kernel) rfl
theorem mlX9_301 : Cond.methodLink RX9 301 yX7_at ∈ sw_tbl := sw_mem 818 (by decide +kernel) rfl
theorem mlX9_304 : Cond.methodLink RX9 304 yX7_areOfOneLane ∈ sw_tbl := sw_mem 823 (by decide +kernel) rfl
theorem mlX9_307 : Cond.methodLink RX9 307 yX7_hasCells ∈ sw_tbl := sw_mem 344 (by decide +kernel) rfl
theorem mlX9_310 : Cond.methodLink RX9 310 yX7_carry ∈ sw_tbl := sw_mem 827 (by decide +kernel) rfl
theorem mlX9_314 : Cond.methodLink RX9 314 yX9_tellAsHooked ∈ sw_tbl := sw_mem 837 (by decide +kernel) rfl
theorem mlX9_317 : Cond.methodLink RX9 317 yX9_tellAsBent ∈ sw_tbl := sw_mem 845 (by decide +kernel) rfl
theorem mlX9_320 : Cond.methodLink RX9 320 yX9_tellAsTooth ∈ sw_tbl := sw_mem 849 (by decide +kernel) rfl
theorem mlX9_323 : Cond.methodLink RX9 323 yX9_leaveInTrail ∈ sw_tbl := sw_mem 841 (by decide +kernel) rfl
theorem mlX9_326 : Cond.methodLink RX9 326 yX9_countStrokes ∈ sw_tbl := sw_mem 504 (by decide +kernel) rfl
theorem mlX9_329 : Cond.methodLink RX9 329 yX1_go ∈ sw_tbl := sw_mem 516 (by decide +kernel) rfl
theorem mlX9_336 : Cond.methodLink RX9 336 yX3_become ∈ sw_tbl := sw_mem 589 (by decide +kernel) rfl
theorem mlX9_339 : Cond.methodLink RX9 339 yX2_applyTo ∈ sw_tbl := sw_mem 660 (by decide +kernel) rfl
theorem mlX9_343 : Cond.methodLink RX9 343 yX5_areSo ∈ sw_tbl := sw_mem 668 (by decide +kernel) rfl
theorem mlX9_347 : Cond.methodLink RX9 347 yJ6_bitCount_0f7a4 ∈ sw_tbl := sw_mem 650 (by decide +kernel) rfl
theorem mlX9_352 : Cond.methodLink RX9 352 yX9_fits ∈ sw_tbl := sw_mem 656 (by decide +kernel) rfl
theorem mlX9_355 : Cond.methodLink RX9 355 yX4_forget ∈ sw_tbl := sw_mem 710 (by decide +kernel) rfl
theorem mlX9_358 : Cond.methodLink RX9 358 yX9_goesStraightEnough ∈ sw_tbl := sw_mem 714 (by decide +kernel) rfl
theorem mlX9_362 : Cond.methodLink RX9 362 yX4_keepNoAct ∈ sw_tbl := sw_mem 718 (by decide +kernel) rfl
theorem mlX9_365 : Cond.methodLink RX9 365 yX4_costOf ∈ sw_tbl := sw_mem 722 (by decide +kernel) rfl
theorem mlX9_368 : Cond.methodLink RX9 368 yX4_isCheaper ∈ sw_tbl := sw_mem 725 (by decide +kernel) rfl
theorem mlX9_371 : Cond.methodLink RX9 371 yX4_keepOneAct ∈ sw_tbl := sw_mem 729 (by decide +kernel) rfl
theorem mlX9_374 : Cond.methodLink RX9 374 yX9_seekSecondAct ∈ sw_tbl := sw_mem 737 (by decide +kernel) rfl
theorem mlX9_378 : Cond.methodLink RX9 378 yX4_keepTwoActs ∈ sw_tbl := sw_mem 741 (by decide +kernel) rfl
theorem kcJ6_265 : Cond.constant RJ6 265 1431655765 ∈ sw_tbl := sw_mem 653 (by decide +kernel) rfl
theorem kcJ6_266 : Cond.constant RJ6 266 858993459 ∈ sw_tbl := sw_mem 654 (by decide +kernel) rfl
theorem kcJ6_267 : Cond.constant RJ6 267 252645135 ∈ sw_tbl := sw_mem 655 (by decide +kernel) rfl
theorem klX10_85 : Cond.constantLong RX10 85 (-9223372036854775808 : Int64) ∈ sw_tbl := sw_mem 1146 (by decide +kernel) rfl
theorem klX10_103 : Cond.constantLong RX10 103 (2 : Int64) ∈ sw_tbl := sw_mem 1037 (by decide +kernel) rfl
theorem klX10_122 : Cond.constantLong RX10 122 (9 : Int64) ∈ sw_tbl := sw_mem 1056 (by decide +kernel) rfl
theorem klX10_175 : Cond.constantLong RX10 175 (8 : Int64) ∈ sw_tbl := sw_mem 1104 (by decide +kernel) rfl
theorem klX10_183 : Cond.constantLong RX10 183 (-9 : Int64) ∈ sw_tbl := sw_mem 1117 (by decide +kernel) rfl
theorem klX10_185 : Cond.constantLong RX10 185 (5 : Int64) ∈ sw_tbl := sw_mem 1118 (by decide +kernel) rfl
theorem klX10_196 : Cond.constantLong RX10 196 (99 : Int64) ∈ sw_tbl := sw_mem 1127 (by decide +kernel) rfl
theorem klX10_223 : Cond.constantLong RX10 223 (3 : Int64) ∈ sw_tbl := sw_mem 1029 (by decide +kernel) rfl
theorem klX10_279 : Cond.constantLong RX10 279 (9999 : Int64) ∈ sw_tbl := sw_mem 1235 (by decide +kernel) rfl
theorem klX10_281 : Cond.constantLong RX10 281 (-2 : Int64) ∈ sw_tbl := sw_mem 1236 (by decide +kernel) rfl
theorem klX10_290 : Cond.constantLong RX10 290 (7 : Int64) ∈ sw_tbl := sw_mem 1264 (by decide +kernel) rfl
theorem klX10_292 : Cond.constantLong RX10 292 (-1 : Int64) ∈ sw_tbl := sw_mem 1265 (by decide +kernel) rfl
theorem klX9_184 : Cond.constantLong RX9 184 (-9223372036854775808 : Int64) ∈ sw_tbl := sw_mem 543 (by decide +kernel) rfl
theorem kcopy : Cond.native arraycopyName ∈ sw_tbl ∧ Cond.static arraycopyName ∈ sw_tbl ∧ Cond.initialized "java/lang/System" ∈ sw_tbl := ⟨sw_mem 389 (by decide +kernel) rfl, sw_mem 388 (by decide +kernel) rfl, sw_mem 76 (by decide +kernel) rfl⟩
theorem sgX0_has : sw_SV yX0_has cX0_has 2 (some .boolean) 1 := ⟨⟨sw_mem 470 (by decide +kernel) rfl, sw_mem 68 (by decide +kernel) rfl, by decide +kernel, by decide⟩, sw_mem 468 (by decide +kernel) rfl, sw_mem 469 (by decide +kernel) rfl⟩
theorem sgX0_hardOf : sw_SV yX0_hardOf cX0_hardOf 2 (some .int) 1 := ⟨⟨sw_mem 474 (by decide +kernel) rfl, sw_mem 68 (by decide +kernel) rfl, by decide +kernel, by decide⟩, sw_mem 472 (by decide +kernel) rfl, sw_mem 473 (by decide +kernel) rfl⟩
theorem sgX0_grainOf : sw_SV yX0_grainOf cX0_grainOf 2 (some .int) 1 := ⟨⟨sw_mem 479 (by decide +kernel) rfl, sw_mem 68 (by decide +kernel) rfl, by decide +kernel, by decide⟩, sw_mem 477 (by decide +kernel) rfl, sw_mem 478 (by decide +kernel) rfl⟩
theorem sgX0_closesOf : sw_SV yX0_closesOf cX0_closesOf 2 (some .int) 1 := ⟨⟨sw_mem 483 (by decide +kernel) rfl, sw_mem 68 (by decide +kernel) rfl, by decide +kernel, by decide⟩, sw_mem 481 (by decide +kernel) rfl, sw_mem 482 (by decide +kernel) rfl⟩
theorem sgX7_isSheet : sw_SS yX7_isSheet cX7_isSheet 1 (some .boolean) 1 := ⟨⟨sw_mem 327 (by decide +kernel) rfl, sw_mem 66 (by decide +kernel) rfl, by decide +kernel, by decide⟩, sw_mem 326 (by decide +kernel) rfl⟩
theorem sgX7_isNothing : sw_SV yX7_isNothing cX7_isNothing 2 (some .boolean) 1 := ⟨⟨sw_mem 338 (by decide +kernel) rfl, sw_mem 66 (by decide +kernel) rfl, by decide +kernel, by decide⟩, sw_mem 336 (by decide +kernel) rfl, sw_mem 337 (by decide +kernel) rfl⟩
theorem sgX7_hasCell : sw_SV yX7_hasCell cX7_hasCell 3 (some .boolean) 2 := ⟨⟨sw_mem 359 (by decide +kernel) rfl, sw_mem 66 (by decide +kernel) rfl, by decide +kernel, by decide⟩, sw_mem 357 (by decide +kernel) rfl, sw_mem 358 (by decide +kernel) rfl⟩
theorem sgX7_at : sw_SV yX7_at cX7_at 3 (some .int) 2 := ⟨⟨sw_mem 355 (by decide +kernel) rfl, sw_mem 66 (by decide +kernel) rfl, by decide +kernel, by decide⟩, sw_mem 353 (by decide +kernel) rfl, sw_mem 354 (by decide +kernel) rfl⟩
theorem sgX0_goesOnWith : sw_SS yX0_goesOnWith cX0_goesOnWith 2 (some .boolean) 2 := ⟨⟨sw_mem 455 (by decide +kernel) rfl, sw_mem 68 (by decide +kernel) rfl, by decide +kernel, by decide⟩, sw_mem 454 (by decide +kernel) rfl⟩
theorem sgX0_firstFault : sw_SS yX0_firstFault cX0_firstFault 5 (some .int) 4 := ⟨⟨sw_mem 451 (by decide +kernel) rfl, sw_mem 68 (by decide +kernel) rfl, by decide +kernel, by decide⟩, sw_mem 450 (by decide +kernel) rfl⟩
theorem sgJ9_min_7cf53 : sw_SS yJ9_min_7cf53 cJ9_min_7cf53 2 (some .int) 2 := ⟨⟨sw_mem 462 (by decide +kernel) rfl, sw_mem 77 (by decide +kernel) rfl, by decide +kernel, by decide⟩, sw_mem 461 (by decide +kernel) rfl⟩
theorem sgX0_read : sw_SV yX0_read cX0_read 7 none 4 := ⟨⟨sw_mem 459 (by decide +kernel) rfl, sw_mem 68 (by decide +kernel) rfl, by decide +kernel, by decide⟩, sw_mem 457 (by decide +kernel) rfl, sw_mem 458 (by decide +kernel) rfl⟩
theorem sgX1_placeBehind : sw_SV yX1_placeBehind cX1_placeBehind 2 (some .int) 1 := ⟨⟨sw_mem 527 (by decide +kernel) rfl, sw_mem 70 (by decide +kernel) rfl, by decide +kernel, by decide⟩, sw_mem 525 (by decide +kernel) rfl, sw_mem 526 (by decide +kernel) rfl⟩
theorem sgX1_headingBehind : sw_SV yX1_headingBehind cX1_headingBehind 2 (some .int) 1 := ⟨⟨sw_mem 536 (by decide +kernel) rfl, sw_mem 70 (by decide +kernel) rfl, by decide +kernel, by decide⟩, sw_mem 534 (by decide +kernel) rfl, sw_mem 535 (by decide +kernel) rfl⟩
theorem sgX6_takes : sw_SV yX6_takes cX6_takes 3 (some .int) 1 := ⟨⟨sw_mem 407 (by decide +kernel) rfl, sw_mem 67 (by decide +kernel) rfl, by decide +kernel, by decide⟩, sw_mem 405 (by decide +kernel) rfl, sw_mem 406 (by decide +kernel) rfl⟩
theorem sgX6_leaning : sw_SV yX6_leaning cX6_leaning 2 (some .int) 1 := ⟨⟨sw_mem 416 (by decide +kernel) rfl, sw_mem 67 (by decide +kernel) rfl, by decide +kernel, by decide⟩, sw_mem 415 (by decide +kernel) rfl, sw_mem 4 (by decide +kernel) rfl⟩
theorem sgX6_push : sw_SV yX6_push cX6_push 3 (some .int) 0 := ⟨⟨sw_mem 433 (by decide +kernel) rfl, sw_mem 67 (by decide +kernel) rfl, by decide +kernel, by decide⟩, sw_mem 431 (by decide +kernel) rfl, sw_mem 432 (by decide +kernel) rfl⟩
theorem sgJ9_max_7cf53 : sw_SS yJ9_max_7cf53 cJ9_max_7cf53 2 (some .int) 2 := ⟨⟨sw_mem 440 (by decide +kernel) rfl, sw_mem 77 (by decide +kernel) rfl, by decide +kernel, by decide⟩, sw_mem 439 (by decide +kernel) rfl⟩
theorem sgX6_kerf : sw_SV yX6_kerf cX6_kerf 4 (some .int) 0 := ⟨⟨sw_mem 437 (by decide +kernel) rfl, sw_mem 67 (by decide +kernel) rfl, by decide +kernel, by decide⟩, sw_mem 435 (by decide +kernel) rfl, sw_mem 436 (by decide +kernel) rfl⟩
theorem sgJ9_abs_0f7a4 : sw_SS yJ9_abs_0f7a4 cJ9_abs_0f7a4 1 (some .int) 1 := ⟨⟨sw_mem 541 (by decide +kernel) rfl, sw_mem 77 (by decide +kernel) rfl, by decide +kernel, by decide⟩, sw_mem 540 (by decide +kernel) rfl⟩
theorem sgX1_stroke : sw_SV yX1_stroke cX1_stroke 6 none 2 := ⟨⟨sw_mem 532 (by decide +kernel) rfl, sw_mem 70 (by decide +kernel) rfl, by decide +kernel, by decide⟩, sw_mem 531 (by decide +kernel) rfl, sw_mem 9 (by decide +kernel) rfl⟩
theorem sgX1_go : sw_SV yX1_go cX1_go 11 none 3 := ⟨⟨sw_mem 519 (by decide +kernel) rfl, sw_mem 70 (by decide +kernel) rfl, by decide +kernel, by decide⟩, sw_mem 517 (by decide +kernel) rfl, sw_mem 518 (by decide +kernel) rfl⟩
theorem sgX2_has : sw_SV yX2_has cX2_has 2 (some .boolean) 1 := ⟨⟨sw_mem 616 (by decide +kernel) rfl, sw_mem 71 (by decide +kernel) rfl, by decide +kernel, by decide⟩, sw_mem 614 (by decide +kernel) rfl, sw_mem 615 (by decide +kernel) rfl⟩
theorem sgX2_toothOf : sw_SV yX2_toothOf cX2_toothOf 2 (some .int) 1 := ⟨⟨sw_mem 620 (by decide +kernel) rfl, sw_mem 71 (by decide +kernel) rfl, by decide +kernel, by decide⟩, sw_mem 618 (by decide +kernel) rfl, sw_mem 619 (by decide +kernel) rfl⟩
theorem sgX2_whatOf : sw_SV yX2_whatOf cX2_whatOf 2 (some .int) 1 := ⟨⟨sw_mem 625 (by decide +kernel) rfl, sw_mem 71 (by decide +kernel) rfl, by decide +kernel, by decide⟩, sw_mem 623 (by decide +kernel) rfl, sw_mem 624 (by decide +kernel) rfl⟩
theorem sgX2_valueOf : sw_SV yX2_valueOf cX2_valueOf 2 (some .int) 1 := ⟨⟨sw_mem 629 (by decide +kernel) rfl, sw_mem 71 (by decide +kernel) rfl, by decide +kernel, by decide⟩, sw_mem 627 (by decide +kernel) rfl, sw_mem 628 (by decide +kernel) rfl⟩
theorem sgX2_add : sw_SV yX2_add cX2_add 4 (some .int) 3 := ⟨⟨sw_mem 608 (by decide +kernel) rfl, sw_mem 71 (by decide +kernel) rfl, by decide +kernel, by decide⟩, sw_mem 606 (by decide +kernel) rfl, sw_mem 607 (by decide +kernel) rfl⟩
theorem sgX6_has : sw_SV yX6_has cX6_has 2 (some .boolean) 1 := ⟨⟨sw_mem 375 (by decide +kernel) rfl, sw_mem 67 (by decide +kernel) rfl, by decide +kernel, by decide⟩, sw_mem 373 (by decide +kernel) rfl, sw_mem 374 (by decide +kernel) rfl⟩
theorem sgX6_isSize : sw_SS yX6_isSize cX6_isSize 1 (some .boolean) 1 := ⟨⟨sw_mem 378 (by decide +kernel) rfl, sw_mem 67 (by decide +kernel) rfl, by decide +kernel, by decide⟩, sw_mem 377 (by decide +kernel) rfl⟩
theorem sgX6_change : sw_SV yX6_change cX6_change 4 none 3 := ⟨⟨sw_mem 371 (by decide +kernel) rfl, sw_mem 67 (by decide +kernel) rfl, by decide +kernel, by decide⟩, sw_mem 369 (by decide +kernel) rfl, sw_mem 370 (by decide +kernel) rfl⟩
theorem sgX2_applyTo : sw_SV yX2_applyTo cX2_applyTo 4 none 2 := ⟨⟨sw_mem 663 (by decide +kernel) rfl, sw_mem 71 (by decide +kernel) rfl, by decide +kernel, by decide⟩, sw_mem 661 (by decide +kernel) rfl, sw_mem 662 (by decide +kernel) rfl⟩
theorem sgX3_become : sw_SV yX3_become cX3_become 2 none 1 := ⟨⟨sw_mem 592 (by decide +kernel) rfl, sw_mem 69 (by decide +kernel) rfl, by decide +kernel, by decide⟩, sw_mem 590 (by decide +kernel) rfl, sw_mem 591 (by decide +kernel) rfl⟩
theorem sgX4_costOf : sw_SS yX4_costOf cX4_costOf 1 (some .int) 1 := ⟨⟨sw_mem 724 (by decide +kernel) rfl, sw_mem 73 (by decide +kernel) rfl, by decide +kernel, by decide⟩, sw_mem 723 (by decide +kernel) rfl⟩
theorem sgX4_toldNumber : sw_SS yX4_toldNumber cX4_toldNumber 1 (some .int) 1 := ⟨⟨sw_mem 736 (by decide +kernel) rfl, sw_mem 73 (by decide +kernel) rfl, by decide +kernel, by decide⟩, sw_mem 735 (by decide +kernel) rfl⟩
theorem sgX4_forget : sw_SV yX4_forget cX4_forget 1 none 0 := ⟨⟨sw_mem 713 (by decide +kernel) rfl, sw_mem 73 (by decide +kernel) rfl, by decide +kernel, by decide⟩, sw_mem 711 (by decide +kernel) rfl, sw_mem 712 (by decide +kernel) rfl⟩
theorem sgX4_isCheaper : sw_SV yX4_isCheaper cX4_isCheaper 2 (some .boolean) 1 := ⟨⟨sw_mem 728 (by decide +kernel) rfl, sw_mem 73 (by decide +kernel) rfl, by decide +kernel, by decide⟩, sw_mem 726 (by decide +kernel) rfl, sw_mem 727 (by decide +kernel) rfl⟩
theorem sgX4_keepNoAct : sw_SV yX4_keepNoAct cX4_keepNoAct 1 none 0 := ⟨⟨sw_mem 721 (by decide +kernel) rfl, sw_mem 73 (by decide +kernel) rfl, by decide +kernel, by decide⟩, sw_mem 719 (by decide +kernel) rfl, sw_mem 720 (by decide +kernel) rfl⟩
theorem sgX4_keepOneAct : sw_SV yX4_keepOneAct cX4_keepOneAct 2 none 1 := ⟨⟨sw_mem 732 (by decide +kernel) rfl, sw_mem 73 (by decide +kernel) rfl, by decide +kernel, by decide⟩, sw_mem 730 (by decide +kernel) rfl, sw_mem 731 (by decide +kernel) rfl⟩
theorem sgX4_keepTwoActs : sw_SV yX4_keepTwoActs cX4_keepTwoActs 3 none 2 := ⟨⟨sw_mem 744 (by decide +kernel) rfl, sw_mem 73 (by decide +kernel) rfl, by decide +kernel, by decide⟩, sw_mem 742 (by decide +kernel) rfl, sw_mem 743 (by decide +kernel) rfl⟩
theorem sgX5_add : sw_SV yX5_add cX5_add 3 (some .int) 2 := ⟨⟨sw_mem 637 (by decide +kernel) rfl, sw_mem 72 (by decide +kernel) rfl, by decide +kernel, by decide⟩, sw_mem 635 (by decide +kernel) rfl, sw_mem 636 (by decide +kernel) rfl⟩
theorem sgX5_areSo : sw_SV yX5_areSo cX5_areSo 4 (some .boolean) 1 := ⟨⟨sw_mem 671 (by decide +kernel) rfl, sw_mem 72 (by decide +kernel) rfl, by decide +kernel, by decide⟩, sw_mem 669 (by decide +kernel) rfl, sw_mem 670 (by decide +kernel) rfl⟩
theorem sgX6_kindOf : sw_SV yX6_kindOf cX6_kindOf 2 (some .int) 1 := ⟨⟨sw_mem 382 (by decide +kernel) rfl, sw_mem 67 (by decide +kernel) rfl, by decide +kernel, by decide⟩, sw_mem 380 (by decide +kernel) rfl, sw_mem 381 (by decide +kernel) rfl⟩
theorem sgX6_sideOf : sw_SV yX6_sideOf cX6_sideOf 2 (some .int) 1 := ⟨⟨sw_mem 399 (by decide +kernel) rfl, sw_mem 67 (by decide +kernel) rfl, by decide +kernel, by decide⟩, sw_mem 397 (by decide +kernel) rfl, sw_mem 398 (by decide +kernel) rfl⟩
theorem sgX6_sizeOf : sw_SV yX6_sizeOf cX6_sizeOf 3 (some .int) 2 := ⟨⟨sw_mem 403 (by decide +kernel) rfl, sw_mem 67 (by decide +kernel) rfl, by decide +kernel, by decide⟩, sw_mem 401 (by decide +kernel) rfl, sw_mem 402 (by decide +kernel) rfl⟩
theorem sgX6_become : sw_SV yX6_become cX6_become 2 none 1 := ⟨⟨sw_mem 386 (by decide +kernel) rfl, sw_mem 67 (by decide +kernel) rfl, by decide +kernel, by decide⟩, sw_mem 384 (by decide +kernel) rfl, sw_mem 385 (by decide +kernel) rfl⟩
theorem sgX6_beginTooth : sw_SV yX6_beginTooth cX6_beginTooth 2 (some .boolean) 1 := ⟨⟨sw_mem 367 (by decide +kernel) rfl, sw_mem 67 (by decide +kernel) rfl, by decide +kernel, by decide⟩, sw_mem 366 (by decide +kernel) rfl, sw_mem 3 (by decide +kernel) rfl⟩
theorem sgX6_readCode : sw_SV yX6_readCode cX6_readCode 3 (some .int) 2 := ⟨⟨sw_mem 363 (by decide +kernel) rfl, sw_mem 67 (by decide +kernel) rfl, by decide +kernel, by decide⟩, sw_mem 362 (by decide +kernel) rfl, sw_mem 2 (by decide +kernel) rfl⟩
theorem sgX6_read : sw_SV yX6_read cX6_read 7 (some .int) 4 := ⟨⟨sw_mem 351 (by decide +kernel) rfl, sw_mem 67 (by decide +kernel) rfl, by decide +kernel, by decide⟩, sw_mem 349 (by decide +kernel) rfl, sw_mem 350 (by decide +kernel) rfl⟩
theorem sgX6_pushes : sw_SV yX6_pushes cX6_pushes 2 (some .int) 1 := ⟨⟨sw_mem 411 (by decide +kernel) rfl, sw_mem 67 (by decide +kernel) rfl, by decide +kernel, by decide⟩, sw_mem 409 (by decide +kernel) rfl, sw_mem 410 (by decide +kernel) rfl⟩
theorem sgX6_taken : sw_SV yX6_taken cX6_taken 3 (some .int) 0 := ⟨⟨sw_mem 444 (by decide +kernel) rfl, sw_mem 67 (by decide +kernel) rfl, by decide +kernel, by decide⟩, sw_mem 442 (by decide +kernel) rfl, sw_mem 443 (by decide +kernel) rfl⟩
theorem sgX6_isMarkedAhead : sw_SV yX6_isMarkedAhead cX6_isMarkedAhead 3 (some .boolean) 1 := ⟨⟨sw_mem 568 (by decide +kernel) rfl, sw_mem 67 (by decide +kernel) rfl, by decide +kernel, by decide⟩, sw_mem 567 (by decide +kernel) rfl, sw_mem 10 (by decide +kernel) rfl⟩
theorem sgX6_countMarks : sw_SV yX6_countMarks cX6_countMarks 3 (some .int) 0 := ⟨⟨sw_mem 564 (by decide +kernel) rfl, sw_mem 67 (by decide +kernel) rfl, by decide +kernel, by decide⟩, sw_mem 562 (by decide +kernel) rfl, sw_mem 563 (by decide +kernel) rfl⟩
theorem sgX6_whichLeave : sw_SV yX6_whichLeave cX6_whichLeave 5 (some .int) 2 := ⟨⟨sw_mem 576 (by decide +kernel) rfl, sw_mem 67 (by decide +kernel) rfl, by decide +kernel, by decide⟩, sw_mem 574 (by decide +kernel) rfl, sw_mem 575 (by decide +kernel) rfl⟩
theorem sgX6_fileIt : sw_SV yX6_fileIt cX6_fileIt 4 (some .boolean) 1 := ⟨⟨sw_mem 692 (by decide +kernel) rfl, sw_mem 67 (by decide +kernel) rfl, by decide +kernel, by decide⟩, sw_mem 691 (by decide +kernel) rfl, sw_mem 18 (by decide +kernel) rfl⟩
theorem sgX6_bendBy : sw_SV yX6_bendBy cX6_bendBy 4 (some .boolean) 2 := ⟨⟨sw_mem 697 (by decide +kernel) rfl, sw_mem 67 (by decide +kernel) rfl, by decide +kernel, by decide⟩, sw_mem 696 (by decide +kernel) rfl, sw_mem 19 (by decide +kernel) rfl⟩
theorem sgX6_breakOff : sw_SV yX6_breakOff cX6_breakOff 2 (some .boolean) 1 := ⟨⟨sw_mem 701 (by decide +kernel) rfl, sw_mem 67 (by decide +kernel) rfl, by decide +kernel, by decide⟩, sw_mem 700 (by decide +kernel) rfl, sw_mem 20 (by decide +kernel) rfl⟩
theorem sgX6_mendBy : sw_SV yX6_mendBy cX6_mendBy 3 (some .boolean) 2 := ⟨⟨sw_mem 688 (by decide +kernel) rfl, sw_mem 67 (by decide +kernel) rfl, by decide +kernel, by decide⟩, sw_mem 686 (by decide +kernel) rfl, sw_mem 687 (by decide +kernel) rfl⟩
theorem sgX7_isLane : sw_SS yX7_isLane cX7_isLane 1 (some .boolean) 1 := ⟨⟨sw_mem 330 (by decide +kernel) rfl, sw_mem 66 (by decide +kernel) rfl, by decide +kernel, by decide⟩, sw_mem 329 (by decide +kernel) rfl⟩
theorem sgX7_areOfOneLane : sw_SV yX7_areOfOneLane cX7_areOfOneLane 3 (some .boolean) 2 := ⟨⟨sw_mem 826 (by decide +kernel) rfl, sw_mem 66 (by decide +kernel) rfl, by decide +kernel, by decide⟩, sw_mem 824 (by decide +kernel) rfl, sw_mem 825 (by decide +kernel) rfl⟩
theorem sgX7_hasCells : sw_SV yX7_hasCells cX7_hasCells 4 (some .boolean) 3 := ⟨⟨sw_mem 347 (by decide +kernel) rfl, sw_mem 66 (by decide +kernel) rfl, by decide +kernel, by decide⟩, sw_mem 345 (by decide +kernel) rfl, sw_mem 346 (by decide +kernel) rfl⟩
theorem sgX7_faultOfRow : sw_SV yX7_faultOfRow cX7_faultOfRow 3 (some .int) 2 := ⟨⟨sw_mem 334 (by decide +kernel) rfl, sw_mem 66 (by decide +kernel) rfl, by decide +kernel, by decide⟩, sw_mem 332 (by decide +kernel) rfl, sw_mem 333 (by decide +kernel) rfl⟩
theorem sgX7_renew : sw_SV yX7_renew cX7_renew 5 none 3 := ⟨⟨sw_mem 794 (by decide +kernel) rfl, sw_mem 66 (by decide +kernel) rfl, by decide +kernel, by decide⟩, sw_mem 792 (by decide +kernel) rfl, sw_mem 793 (by decide +kernel) rfl⟩
theorem sgX7_drop : sw_SV yX7_drop cX7_drop 2 (some .boolean) 1 := ⟨⟨sw_mem 803 (by decide +kernel) rfl, sw_mem 66 (by decide +kernel) rfl, by decide +kernel, by decide⟩, sw_mem 801 (by decide +kernel) rfl, sw_mem 802 (by decide +kernel) rfl⟩
theorem sgX7_write : sw_SV yX7_write cX7_write 5 none 3 := ⟨⟨sw_mem 813 (by decide +kernel) rfl, sw_mem 66 (by decide +kernel) rfl, by decide +kernel, by decide⟩, sw_mem 811 (by decide +kernel) rfl, sw_mem 812 (by decide +kernel) rfl⟩
theorem sgX7_carry : sw_SV yX7_carry cX7_carry 6 none 5 := ⟨⟨sw_mem 830 (by decide +kernel) rfl, sw_mem 66 (by decide +kernel) rfl, by decide +kernel, by decide⟩, sw_mem 828 (by decide +kernel) rfl, sw_mem 829 (by decide +kernel) rfl⟩
theorem sgX8_read : sw_SV yX8_read cX8_read 6 (some .boolean) 4 := ⟨⟨sw_mem 752 (by decide +kernel) rfl, sw_mem 74 (by decide +kernel) rfl, by decide +kernel, by decide⟩, sw_mem 750 (by decide +kernel) rfl, sw_mem 751 (by decide +kernel) rfl⟩
theorem sgX8_isOpen : sw_SS yX8_isOpen cX8_isOpen 2 (some .boolean) 2 := ⟨⟨sw_mem 760 (by decide +kernel) rfl, sw_mem 74 (by decide +kernel) rfl, by decide +kernel, by decide⟩, sw_mem 759 (by decide +kernel) rfl⟩
theorem sgX8_strainLeftOf : sw_SV yX8_strainLeftOf cX8_strainLeftOf 5 (some .int) 2 := ⟨⟨sw_mem 768 (by decide +kernel) rfl, sw_mem 74 (by decide +kernel) rfl, by decide +kernel, by decide⟩, sw_mem 767 (by decide +kernel) rfl, sw_mem 25 (by decide +kernel) rfl⟩
theorem sgX8_strainRightOf : sw_SV yX8_strainRightOf cX8_strainRightOf 5 (some .int) 2 := ⟨⟨sw_mem 772 (by decide +kernel) rfl, sw_mem 74 (by decide +kernel) rfl, by decide +kernel, by decide⟩, sw_mem 771 (by decide +kernel) rfl, sw_mem 26 (by decide +kernel) rfl⟩
theorem sgX8_costThrough : sw_SV yX8_costThrough cX8_costThrough 3 (some .int) 2 := ⟨⟨sw_mem 764 (by decide +kernel) rfl, sw_mem 74 (by decide +kernel) rfl, by decide +kernel, by decide⟩, sw_mem 763 (by decide +kernel) rfl, sw_mem 24 (by decide +kernel) rfl⟩
theorem sgX8_weighOrders : sw_SV yX8_weighOrders cX8_weighOrders 4 none 0 := ⟨⟨sw_mem 757 (by decide +kernel) rfl, sw_mem 74 (by decide +kernel) rfl, by decide +kernel, by decide⟩, sw_mem 755 (by decide +kernel) rfl, sw_mem 756 (by decide +kernel) rfl⟩
theorem sgX8_leastCost : sw_SV yX8_leastCost cX8_leastCost 1 (some .int) 0 := ⟨⟨sw_mem 778 (by decide +kernel) rfl, sw_mem 74 (by decide +kernel) rfl, by decide +kernel, by decide⟩, sw_mem 776 (by decide +kernel) rfl, sw_mem 777 (by decide +kernel) rfl⟩
theorem sgX8_lowestBest : sw_SV yX8_lowestBest cX8_lowestBest 3 (some .int) 1 := ⟨⟨sw_mem 786 (by decide +kernel) rfl, sw_mem 74 (by decide +kernel) rfl, by decide +kernel, by decide⟩, sw_mem 785 (by decide +kernel) rfl, sw_mem 27 (by decide +kernel) rfl⟩
theorem sgX8_cutOfOrder : sw_SV yX8_cutOfOrder cX8_cutOfOrder 5 (some .int) 1 := ⟨⟨sw_mem 782 (by decide +kernel) rfl, sw_mem 74 (by decide +kernel) rfl, by decide +kernel, by decide⟩, sw_mem 780 (by decide +kernel) rfl, sw_mem 781 (by decide +kernel) rfl⟩
theorem sgX9_answerOfFault : sw_SV yX9_answerOfFault cX9_answerOfFault 2 (some .int) 1 := ⟨⟨sw_mem 343 (by decide +kernel) rfl, sw_mem 65 (by decide +kernel) rfl, by decide +kernel, by decide⟩, sw_mem 342 (by decide +kernel) rfl, sw_mem 1 (by decide +kernel) rfl⟩
theorem sgX9_refusalOfCells : sw_SV yX9_refusalOfCells cX9_refusalOfCells 6 (some .int) 4 := ⟨⟨sw_mem 324 (by decide +kernel) rfl, sw_mem 65 (by decide +kernel) rfl, by decide +kernel, by decide⟩, sw_mem 323 (by decide +kernel) rfl, sw_mem 0 (by decide +kernel) rfl⟩
theorem sgX9_saw : sw_SV yX9_saw cX9_saw 7 (some .int) 4 := ⟨⟨sw_mem 320 (by decide +kernel) rfl, sw_mem 65 (by decide +kernel) rfl, by decide +kernel, by decide⟩, sw_mem 318 (by decide +kernel) rfl, sw_mem 319 (by decide +kernel) rfl⟩
theorem sgX9_ofTooth : sw_SV yX9_ofTooth cX9_ofTooth 3 (some .int) 2 := ⟨⟨sw_mem 393 (by decide +kernel) rfl, sw_mem 65 (by decide +kernel) rfl, by decide +kernel, by decide⟩, sw_mem 391 (by decide +kernel) rfl, sw_mem 392 (by decide +kernel) rfl⟩
theorem sgX9_isWithin : sw_SS yX9_isWithin cX9_isWithin 3 (some .boolean) 3 := ⟨⟨sw_mem 424 (by decide +kernel) rfl, sw_mem 65 (by decide +kernel) rfl, by decide +kernel, by decide⟩, sw_mem 423 (by decide +kernel) rfl⟩
theorem sgX9_set : sw_SV yX9_set cX9_set 5 (some .int) 3 := ⟨⟨sw_mem 420 (by decide +kernel) rfl, sw_mem 65 (by decide +kernel) rfl, by decide +kernel, by decide⟩, sw_mem 418 (by decide +kernel) rfl, sw_mem 419 (by decide +kernel) rfl⟩
theorem sgX9_ofSaw : sw_SV yX9_ofSaw cX9_ofSaw 2 (some .int) 1 := ⟨⟨sw_mem 429 (by decide +kernel) rfl, sw_mem 65 (by decide +kernel) rfl, by decide +kernel, by decide⟩, sw_mem 427 (by decide +kernel) rfl, sw_mem 428 (by decide +kernel) rfl⟩
theorem sgX9_board : sw_SV yX9_board cX9_board 7 (some .int) 4 := ⟨⟨sw_mem 448 (by decide +kernel) rfl, sw_mem 65 (by decide +kernel) rfl, by decide +kernel, by decide⟩, sw_mem 446 (by decide +kernel) rfl, sw_mem 447 (by decide +kernel) rfl⟩
theorem sgX9_ofLine : sw_SV yX9_ofLine cX9_ofLine 3 (some .int) 2 := ⟨⟨sw_mem 466 (by decide +kernel) rfl, sw_mem 65 (by decide +kernel) rfl, by decide +kernel, by decide⟩, sw_mem 464 (by decide +kernel) rfl, sw_mem 465 (by decide +kernel) rfl⟩
theorem sgX9_hand : sw_SV yX9_hand cX9_hand 4 (some .int) 3 := ⟨⟨sw_mem 487 (by decide +kernel) rfl, sw_mem 65 (by decide +kernel) rfl, by decide +kernel, by decide⟩, sw_mem 485 (by decide +kernel) rfl, sw_mem 486 (by decide +kernel) rfl⟩
theorem sgX9_ofHand : sw_SV yX9_ofHand cX9_ofHand 2 (some .int) 1 := ⟨⟨sw_mem 491 (by decide +kernel) rfl, sw_mem 65 (by decide +kernel) rfl, by decide +kernel, by decide⟩, sw_mem 489 (by decide +kernel) rfl, sw_mem 490 (by decide +kernel) rfl⟩
theorem sgX9_fence : sw_SV yX9_fence cX9_fence 3 (some .int) 1 := ⟨⟨sw_mem 495 (by decide +kernel) rfl, sw_mem 65 (by decide +kernel) rfl, by decide +kernel, by decide⟩, sw_mem 493 (by decide +kernel) rfl, sw_mem 494 (by decide +kernel) rfl⟩
theorem sgX9_lacksSawOrBoard : sw_SV yX9_lacksSawOrBoard cX9_lacksSawOrBoard 1 (some .boolean) 0 := ⟨⟨sw_mem 511 (by decide +kernel) rfl, sw_mem 65 (by decide +kernel) rfl, by decide +kernel, by decide⟩, sw_mem 510 (by decide +kernel) rfl, sw_mem 7 (by decide +kernel) rfl⟩
theorem sgX9_cutAsItIs : sw_SV yX9_cutAsItIs cX9_cutAsItIs 1 none 0 := ⟨⟨sw_mem 515 (by decide +kernel) rfl, sw_mem 65 (by decide +kernel) rfl, by decide +kernel, by decide⟩, sw_mem 514 (by decide +kernel) rfl, sw_mem 8 (by decide +kernel) rfl⟩
theorem sgX9_countStrokes : sw_SV yX9_countStrokes cX9_countStrokes 1 (some .int) 0 := ⟨⟨sw_mem 507 (by decide +kernel) rfl, sw_mem 65 (by decide +kernel) rfl, by decide +kernel, by decide⟩, sw_mem 506 (by decide +kernel) rfl, sw_mem 6 (by decide +kernel) rfl⟩
theorem sgX9_refusalOfStroke : sw_SV yX9_refusalOfStroke cX9_refusalOfStroke 2 (some .int) 1 := ⟨⟨sw_mem 503 (by decide +kernel) rfl, sw_mem 65 (by decide +kernel) rfl, by decide +kernel, by decide⟩, sw_mem 502 (by decide +kernel) rfl, sw_mem 5 (by decide +kernel) rfl⟩
theorem sgX9_where : sw_SV yX9_where cX9_where 2 (some .long) 1 := ⟨⟨sw_mem 499 (by decide +kernel) rfl, sw_mem 65 (by decide +kernel) rfl, by decide +kernel, by decide⟩, sw_mem 497 (by decide +kernel) rfl, sw_mem 498 (by decide +kernel) rfl⟩
theorem sgX9_heading : sw_SV yX9_heading cX9_heading 2 (some .long) 1 := ⟨⟨sw_mem 547 (by decide +kernel) rfl, sw_mem 65 (by decide +kernel) rfl, by decide +kernel, by decide⟩, sw_mem 545 (by decide +kernel) rfl, sw_mem 546 (by decide +kernel) rfl⟩
theorem sgX9_off : sw_SV yX9_off cX9_off 1 (some .int) 0 := ⟨⟨sw_mem 552 (by decide +kernel) rfl, sw_mem 65 (by decide +kernel) rfl, by decide +kernel, by decide⟩, sw_mem 550 (by decide +kernel) rfl, sw_mem 551 (by decide +kernel) rfl⟩
theorem sgX9_pinched : sw_SV yX9_pinched cX9_pinched 1 (some .int) 0 := ⟨⟨sw_mem 556 (by decide +kernel) rfl, sw_mem 65 (by decide +kernel) rfl, by decide +kernel, by decide⟩, sw_mem 554 (by decide +kernel) rfl, sw_mem 555 (by decide +kernel) rfl⟩
theorem sgX9_marks : sw_SV yX9_marks cX9_marks 3 (some .int) 1 := ⟨⟨sw_mem 560 (by decide +kernel) rfl, sw_mem 65 (by decide +kernel) rfl, by decide +kernel, by decide⟩, sw_mem 558 (by decide +kernel) rfl, sw_mem 559 (by decide +kernel) rfl⟩
theorem sgX9_which : sw_SV yX9_which cX9_which 4 (some .int) 2 := ⟨⟨sw_mem 572 (by decide +kernel) rfl, sw_mem 65 (by decide +kernel) rfl, by decide +kernel, by decide⟩, sw_mem 570 (by decide +kernel) rfl, sw_mem 571 (by decide +kernel) rfl⟩
theorem sgX9_offByLean : sw_SV yX9_offByLean cX9_offByLean 2 (some .int) 1 := ⟨⟨sw_mem 588 (by decide +kernel) rfl, sw_mem 65 (by decide +kernel) rfl, by decide +kernel, by decide⟩, sw_mem 587 (by decide +kernel) rfl, sw_mem 12 (by decide +kernel) rfl⟩
theorem sgX9_straightestLean : sw_SV yX9_straightestLean cX9_straightestLean 6 (some .int) 0 := ⟨⟨sw_mem 584 (by decide +kernel) rfl, sw_mem 65 (by decide +kernel) rfl, by decide +kernel, by decide⟩, sw_mem 583 (by decide +kernel) rfl, sw_mem 11 (by decide +kernel) rfl⟩
theorem sgX9_offBySteers : sw_SV yX9_offBySteers cX9_offBySteers 2 (some .int) 1 := ⟨⟨sw_mem 600 (by decide +kernel) rfl, sw_mem 65 (by decide +kernel) rfl, by decide +kernel, by decide⟩, sw_mem 599 (by decide +kernel) rfl, sw_mem 14 (by decide +kernel) rfl⟩
theorem sgX9_straightestSteers : sw_SV yX9_straightestSteers cX9_straightestSteers 5 (some .int) 0 := ⟨⟨sw_mem 596 (by decide +kernel) rfl, sw_mem 65 (by decide +kernel) rfl, by decide +kernel, by decide⟩, sw_mem 595 (by decide +kernel) rfl, sw_mem 13 (by decide +kernel) rfl⟩
theorem sgX9_straightest : sw_SV yX9_straightest cX9_straightest 2 (some .int) 1 := ⟨⟨sw_mem 580 (by decide +kernel) rfl, sw_mem 65 (by decide +kernel) rfl, by decide +kernel, by decide⟩, sw_mem 578 (by decide +kernel) rfl, sw_mem 579 (by decide +kernel) rfl⟩
theorem sgX9_flaw : sw_SV yX9_flaw cX9_flaw 4 (some .int) 3 := ⟨⟨sw_mem 604 (by decide +kernel) rfl, sw_mem 65 (by decide +kernel) rfl, by decide +kernel, by decide⟩, sw_mem 602 (by decide +kernel) rfl, sw_mem 603 (by decide +kernel) rfl⟩
theorem sgX9_ofFlaw : sw_SV yX9_ofFlaw cX9_ofFlaw 3 (some .int) 2 := ⟨⟨sw_mem 612 (by decide +kernel) rfl, sw_mem 65 (by decide +kernel) rfl, by decide +kernel, by decide⟩, sw_mem 610 (by decide +kernel) rfl, sw_mem 611 (by decide +kernel) rfl⟩
theorem sgX9_reading : sw_SV yX9_reading cX9_reading 3 (some .int) 2 := ⟨⟨sw_mem 633 (by decide +kernel) rfl, sw_mem 65 (by decide +kernel) rfl, by decide +kernel, by decide⟩, sw_mem 631 (by decide +kernel) rfl, sw_mem 632 (by decide +kernel) rfl⟩
theorem sgX9_back : sw_SV yX9_back cX9_back 2 (some .int) 1 := ⟨⟨sw_mem 641 (by decide +kernel) rfl, sw_mem 65 (by decide +kernel) rfl, by decide +kernel, by decide⟩, sw_mem 639 (by decide +kernel) rfl, sw_mem 640 (by decide +kernel) rfl⟩
theorem sgJ6_bitCount_0f7a4 : sw_SS yJ6_bitCount_0f7a4 cJ6_bitCount_0f7a4 1 (some .int) 1 := ⟨⟨sw_mem 652 (by decide +kernel) rfl, sw_mem 78 (by decide +kernel) rfl, by decide +kernel, by decide⟩, sw_mem 651 (by decide +kernel) rfl⟩
theorem sgX9_fits : sw_SV yX9_fits cX9_fits 2 (some .boolean) 1 := ⟨⟨sw_mem 659 (by decide +kernel) rfl, sw_mem 65 (by decide +kernel) rfl, by decide +kernel, by decide⟩, sw_mem 658 (by decide +kernel) rfl, sw_mem 16 (by decide +kernel) rfl⟩
theorem sgX9_countFitting : sw_SV yX9_countFitting cX9_countFitting 6 (some .int) 1 := ⟨⟨sw_mem 649 (by decide +kernel) rfl, sw_mem 65 (by decide +kernel) rfl, by decide +kernel, by decide⟩, sw_mem 648 (by decide +kernel) rfl, sw_mem 15 (by decide +kernel) rfl⟩
theorem sgX9_firstOfFewest : sw_SV yX9_firstOfFewest cX9_firstOfFewest 4 (some .int) 0 := ⟨⟨sw_mem 676 (by decide +kernel) rfl, sw_mem 65 (by decide +kernel) rfl, by decide +kernel, by decide⟩, sw_mem 675 (by decide +kernel) rfl, sw_mem 17 (by decide +kernel) rfl⟩
theorem sgX9_likely : sw_SV yX9_likely cX9_likely 2 (some .int) 1 := ⟨⟨sw_mem 645 (by decide +kernel) rfl, sw_mem 65 (by decide +kernel) rfl, by decide +kernel, by decide⟩, sw_mem 643 (by decide +kernel) rfl, sw_mem 644 (by decide +kernel) rfl⟩
theorem sgX9_each : sw_SV yX9_each cX9_each 2 (some .int) 1 := ⟨⟨sw_mem 680 (by decide +kernel) rfl, sw_mem 65 (by decide +kernel) rfl, by decide +kernel, by decide⟩, sw_mem 678 (by decide +kernel) rfl, sw_mem 679 (by decide +kernel) rfl⟩
theorem sgX9_act : sw_SV yX9_act cX9_act 3 (some .int) 2 := ⟨⟨sw_mem 684 (by decide +kernel) rfl, sw_mem 65 (by decide +kernel) rfl, by decide +kernel, by decide⟩, sw_mem 682 (by decide +kernel) rfl, sw_mem 683 (by decide +kernel) rfl⟩
theorem sgX9_goesStraightEnough : sw_SV yX9_goesStraightEnough cX9_goesStraightEnough 3 (some .boolean) 2 := ⟨⟨sw_mem 717 (by decide +kernel) rfl, sw_mem 65 (by decide +kernel) rfl, by decide +kernel, by decide⟩, sw_mem 716 (by decide +kernel) rfl, sw_mem 22 (by decide +kernel) rfl⟩
theorem sgX9_seekSecondAct : sw_SV yX9_seekSecondAct cX9_seekSecondAct 5 none 2 := ⟨⟨sw_mem 740 (by decide +kernel) rfl, sw_mem 65 (by decide +kernel) rfl, by decide +kernel, by decide⟩, sw_mem 739 (by decide +kernel) rfl, sw_mem 23 (by decide +kernel) rfl⟩
theorem sgX9_seekMending : sw_SV yX9_seekMending cX9_seekMending 4 none 1 := ⟨⟨sw_mem 709 (by decide +kernel) rfl, sw_mem 65 (by decide +kernel) rfl, by decide +kernel, by decide⟩, sw_mem 708 (by decide +kernel) rfl, sw_mem 21 (by decide +kernel) rfl⟩
theorem sgX9_mend : sw_SV yX9_mend cX9_mend 3 (some .int) 2 := ⟨⟨sw_mem 705 (by decide +kernel) rfl, sw_mem 65 (by decide +kernel) rfl, by decide +kernel, by decide⟩, sw_mem 703 (by decide +kernel) rfl, sw_mem 704 (by decide +kernel) rfl⟩
theorem sgX9_log : sw_SV yX9_log cX9_log 7 (some .int) 5 := ⟨⟨sw_mem 748 (by decide +kernel) rfl, sw_mem 65 (by decide +kernel) rfl, by decide +kernel, by decide⟩, sw_mem 746 (by decide +kernel) rfl, sw_mem 747 (by decide +kernel) rfl⟩
theorem sgX9_sheet : sw_SV yX9_sheet cX9_sheet 4 (some .int) 3 := ⟨⟨sw_mem 790 (by decide +kernel) rfl, sw_mem 65 (by decide +kernel) rfl, by decide +kernel, by decide⟩, sw_mem 788 (by decide +kernel) rfl, sw_mem 789 (by decide +kernel) rfl⟩
theorem sgX9_lose : sw_SV yX9_lose cX9_lose 2 (some .int) 1 := ⟨⟨sw_mem 799 (by decide +kernel) rfl, sw_mem 65 (by decide +kernel) rfl, by decide +kernel, by decide⟩, sw_mem 797 (by decide +kernel) rfl, sw_mem 798 (by decide +kernel) rfl⟩
theorem sgX9_put : sw_SV yX9_put cX9_put 4 (some .int) 3 := ⟨⟨sw_mem 807 (by decide +kernel) rfl, sw_mem 65 (by decide +kernel) rfl, by decide +kernel, by decide⟩, sw_mem 805 (by decide +kernel) rfl, sw_mem 806 (by decide +kernel) rfl⟩
theorem sgX9_cell : sw_SV yX9_cell cX9_cell 4 (some .long) 3 := ⟨⟨sw_mem 817 (by decide +kernel) rfl, sw_mem 65 (by decide +kernel) rfl, by decide +kernel, by decide⟩, sw_mem 815 (by decide +kernel) rfl, sw_mem 816 (by decide +kernel) rfl⟩
theorem sgX9_copy : sw_SV yX9_copy cX9_copy 6 (some .int) 5 := ⟨⟨sw_mem 822 (by decide +kernel) rfl, sw_mem 65 (by decide +kernel) rfl, by decide +kernel, by decide⟩, sw_mem 820 (by decide +kernel) rfl, sw_mem 821 (by decide +kernel) rfl⟩
theorem sgX9_leaveInTrail : sw_SV yX9_leaveInTrail cX9_leaveInTrail 2 none 1 := ⟨⟨sw_mem 844 (by decide +kernel) rfl, sw_mem 65 (by decide +kernel) rfl, by decide +kernel, by decide⟩, sw_mem 843 (by decide +kernel) rfl, sw_mem 29 (by decide +kernel) rfl⟩
theorem sgX9_tellAsTooth : sw_SV yX9_tellAsTooth cX9_tellAsTooth 2 (some .int) 1 := ⟨⟨sw_mem 852 (by decide +kernel) rfl, sw_mem 65 (by decide +kernel) rfl, by decide +kernel, by decide⟩, sw_mem 851 (by decide +kernel) rfl, sw_mem 31 (by decide +kernel) rfl⟩
theorem sgX9_tellAsBent : sw_SV yX9_tellAsBent cX9_tellAsBent 2 (some .int) 1 := ⟨⟨sw_mem 848 (by decide +kernel) rfl, sw_mem 65 (by decide +kernel) rfl, by decide +kernel, by decide⟩, sw_mem 847 (by decide +kernel) rfl, sw_mem 30 (by decide +kernel) rfl⟩
theorem sgX9_tellAsHooked : sw_SV yX9_tellAsHooked cX9_tellAsHooked 3 (some .int) 1 := ⟨⟨sw_mem 840 (by decide +kernel) rfl, sw_mem 65 (by decide +kernel) rfl, by decide +kernel, by decide⟩, sw_mem 839 (by decide +kernel) rfl, sw_mem 28 (by decide +kernel) rfl⟩
theorem sgX9_tell : sw_SV yX9_tell cX9_tell 2 (some .int) 1 := ⟨⟨sw_mem 836 (by decide +kernel) rfl, sw_mem 65 (by decide +kernel) rfl, by decide +kernel, by decide⟩, sw_mem 834 (by decide +kernel) rfl, sw_mem 835 (by decide +kernel) rfl⟩
theorem sgX9_joint : sw_SV yX9_joint cX9_joint 2 (some .int) 1 := ⟨⟨sw_mem 856 (by decide +kernel) rfl, sw_mem 65 (by decide +kernel) rfl, by decide +kernel, by decide⟩, sw_mem 854 (by decide +kernel) rfl, sw_mem 855 (by decide +kernel) rfl⟩
theorem sgX9_as : sw_SV yX9_as cX9_as 3 (some .int) 2 := ⟨⟨sw_mem 860 (by decide +kernel) rfl, sw_mem 65 (by decide +kernel) rfl, by decide +kernel, by decide⟩, sw_mem 858 (by decide +kernel) rfl, sw_mem 859 (by decide +kernel) rfl⟩
theorem sgX9_trace : sw_SV yX9_trace cX9_trace 1 (some .int) 0 := ⟨⟨sw_mem 864 (by decide +kernel) rfl, sw_mem 65 (by decide +kernel) rfl, by decide +kernel, by decide⟩, sw_mem 862 (by decide +kernel) rfl, sw_mem 863 (by decide +kernel) rfl⟩
theorem sgX9_fault : sw_SV yX9_fault cX9_fault 1 (some .int) 0 := ⟨⟨sw_mem 868 (by decide +kernel) rfl, sw_mem 65 (by decide +kernel) rfl, by decide +kernel, by decide⟩, sw_mem 866 (by decide +kernel) rfl, sw_mem 867 (by decide +kernel) rfl⟩
theorem sgX9_many : sw_SV yX9_many cX9_many 2 (some .int) 1 := ⟨⟨sw_mem 872 (by decide +kernel) rfl, sw_mem 65 (by decide +kernel) rfl, by decide +kernel, by decide⟩, sw_mem 870 (by decide +kernel) rfl, sw_mem 871 (by decide +kernel) rfl⟩
theorem sgX10_in : sw_SS yX10_in cX10_in 6 (some .boolean) 3 := ⟨⟨sw_mem 1032 (by decide +kernel) rfl, sw_mem 75 (by decide +kernel) rfl, by decide +kernel, by decide⟩, sw_mem 1031 (by decide +kernel) rfl⟩
theorem sgX10_lost : sw_SS yX10_lost cX10_lost 0 (some .long) 0 := ⟨⟨sw_mem 1145 (by decide +kernel) rfl, sw_mem 75 (by decide +kernel) rfl, by decide +kernel, by decide⟩, sw_mem 1144 (by decide +kernel) rfl⟩
theorem sgX10_greater : sw_SS yX10_greater cX10_greater 2 (some .int) 2 := ⟨⟨sw_mem 1095 (by decide +kernel) rfl, sw_mem 75 (by decide +kernel) rfl, by decide +kernel, by decide⟩, sw_mem 1094 (by decide +kernel) rfl⟩
theorem sgX10_size : sw_SS yX10_size cX10_size 1 (some .int) 1 := ⟨⟨sw_mem 1142 (by decide +kernel) rfl, sw_mem 75 (by decide +kernel) rfl, by decide +kernel, by decide⟩, sw_mem 1141 (by decide +kernel) rfl⟩
theorem sgX10_refused : sw_SV yX10_refused cX10_refused 2 (some .int) 1 := ⟨⟨sw_mem 1036 (by decide +kernel) rfl, sw_mem 75 (by decide +kernel) rfl, by decide +kernel, by decide⟩, sw_mem 1035 (by decide +kernel) rfl, sw_mem 33 (by decide +kernel) rfl⟩
theorem sgX10_failed : sw_SV yX10_failed cX10_failed 2 (some .int) 1 := ⟨⟨sw_mem 1041 (by decide +kernel) rfl, sw_mem 75 (by decide +kernel) rfl, by decide +kernel, by decide⟩, sw_mem 1040 (by decide +kernel) rfl, sw_mem 34 (by decide +kernel) rfl⟩
theorem sgX10_failedLong : sw_SV yX10_failedLong cX10_failedLong 2 (some .long) 1 := ⟨⟨sw_mem 1296 (by decide +kernel) rfl, sw_mem 75 (by decide +kernel) rfl, by decide +kernel, by decide⟩, sw_mem 1295 (by decide +kernel) rfl, sw_mem 62 (by decide +kernel) rfl⟩
theorem sgX10_noSheet : sw_SS yX10_noSheet cX10_noSheet 1 (some .boolean) 1 := ⟨⟨sw_mem 1028 (by decide +kernel) rfl, sw_mem 75 (by decide +kernel) rfl, by decide +kernel, by decide⟩, sw_mem 1027 (by decide +kernel) rfl⟩
theorem sgX10_isBeyond : sw_SS yX10_isBeyond cX10_isBeyond 4 (some .boolean) 3 := ⟨⟨sw_mem 1044 (by decide +kernel) rfl, sw_mem 75 (by decide +kernel) rfl, by decide +kernel, by decide⟩, sw_mem 1043 (by decide +kernel) rfl⟩
theorem sgX10_barred : sw_SV yX10_barred cX10_barred 6 (some .int) 4 := ⟨⟨sw_mem 1025 (by decide +kernel) rfl, sw_mem 75 (by decide +kernel) rfl, by decide +kernel, by decide⟩, sw_mem 1024 (by decide +kernel) rfl, sw_mem 32 (by decide +kernel) rfl⟩
theorem sgX10_noTooth : sw_SV yX10_noTooth cX10_noTooth 2 (some .boolean) 1 := ⟨⟨sw_mem 1064 (by decide +kernel) rfl, sw_mem 75 (by decide +kernel) rfl, by decide +kernel, by decide⟩, sw_mem 1063 (by decide +kernel) rfl, sw_mem 37 (by decide +kernel) rfl⟩
theorem sgX10_sideBy : sw_SS yX10_sideBy cX10_sideBy 1 (some .int) 1 := ⟨⟨sw_mem 1051 (by decide +kernel) rfl, sw_mem 75 (by decide +kernel) rfl, by decide +kernel, by decide⟩, sw_mem 1050 (by decide +kernel) rfl⟩
theorem sgX10_readsFigures : sw_SV yX10_readsFigures cX10_readsFigures 6 (some .boolean) 3 := ⟨⟨sw_mem 1055 (by decide +kernel) rfl, sw_mem 75 (by decide +kernel) rfl, by decide +kernel, by decide⟩, sw_mem 1054 (by decide +kernel) rfl, sw_mem 36 (by decide +kernel) rfl⟩
theorem sgX10_readsSaw : sw_SV yX10_readsSaw cX10_readsSaw 5 (some .boolean) 2 := ⟨⟨sw_mem 1048 (by decide +kernel) rfl, sw_mem 75 (by decide +kernel) rfl, by decide +kernel, by decide⟩, sw_mem 1047 (by decide +kernel) rfl, sw_mem 35 (by decide +kernel) rfl⟩
theorem sgX10_saw : sw_SV yX10_saw cX10_saw 7 (some .int) 4 := ⟨⟨sw_mem 1021 (by decide +kernel) rfl, sw_mem 75 (by decide +kernel) rfl, by decide +kernel, by decide⟩, sw_mem 1019 (by decide +kernel) rfl, sw_mem 1020 (by decide +kernel) rfl⟩
theorem sgX10_takesOf : sw_SV yX10_takesOf cX10_takesOf 3 (some .int) 1 := ⟨⟨sw_mem 1068 (by decide +kernel) rfl, sw_mem 75 (by decide +kernel) rfl, by decide +kernel, by decide⟩, sw_mem 1067 (by decide +kernel) rfl, sw_mem 38 (by decide +kernel) rfl⟩
theorem sgX10_pushOf : sw_SV yX10_pushOf cX10_pushOf 2 (some .int) 1 := ⟨⟨sw_mem 1072 (by decide +kernel) rfl, sw_mem 75 (by decide +kernel) rfl, by decide +kernel, by decide⟩, sw_mem 1071 (by decide +kernel) rfl, sw_mem 39 (by decide +kernel) rfl⟩
theorem sgX10_ofTooth : sw_SV yX10_ofTooth cX10_ofTooth 3 (some .int) 2 := ⟨⟨sw_mem 1060 (by decide +kernel) rfl, sw_mem 75 (by decide +kernel) rfl, by decide +kernel, by decide⟩, sw_mem 1058 (by decide +kernel) rfl, sw_mem 1059 (by decide +kernel) rfl⟩
theorem sgX10_change : sw_SV yX10_change cX10_change 5 (some .int) 3 := ⟨⟨sw_mem 1080 (by decide +kernel) rfl, sw_mem 75 (by decide +kernel) rfl, by decide +kernel, by decide⟩, sw_mem 1079 (by decide +kernel) rfl, sw_mem 40 (by decide +kernel) rfl⟩
theorem sgX10_set : sw_SV yX10_set cX10_set 4 (some .int) 3 := ⟨⟨sw_mem 1076 (by decide +kernel) rfl, sw_mem 75 (by decide +kernel) rfl, by decide +kernel, by decide⟩, sw_mem 1074 (by decide +kernel) rfl, sw_mem 1075 (by decide +kernel) rfl⟩
theorem sgX10_pushNow : sw_SV yX10_pushNow cX10_pushNow 3 (some .int) 0 := ⟨⟨sw_mem 1088 (by decide +kernel) rfl, sw_mem 75 (by decide +kernel) rfl, by decide +kernel, by decide⟩, sw_mem 1087 (by decide +kernel) rfl, sw_mem 41 (by decide +kernel) rfl⟩
theorem sgX10_kerfNow : sw_SV yX10_kerfNow cX10_kerfNow 5 (some .int) 0 := ⟨⟨sw_mem 1092 (by decide +kernel) rfl, sw_mem 75 (by decide +kernel) rfl, by decide +kernel, by decide⟩, sw_mem 1091 (by decide +kernel) rfl, sw_mem 42 (by decide +kernel) rfl⟩
theorem sgX10_ofSaw : sw_SV yX10_ofSaw cX10_ofSaw 4 (some .int) 1 := ⟨⟨sw_mem 1084 (by decide +kernel) rfl, sw_mem 75 (by decide +kernel) rfl, by decide +kernel, by decide⟩, sw_mem 1082 (by decide +kernel) rfl, sw_mem 1083 (by decide +kernel) rfl⟩
theorem sgX10_noLine : sw_SV yX10_noLine cX10_noLine 2 (some .boolean) 1 := ⟨⟨sw_mem 1112 (by decide +kernel) rfl, sw_mem 75 (by decide +kernel) rfl, by decide +kernel, by decide⟩, sw_mem 1111 (by decide +kernel) rfl, sw_mem 44 (by decide +kernel) rfl⟩
theorem sgX10_readsBoard : sw_SV yX10_readsBoard cX10_readsBoard 6 (some .boolean) 2 := ⟨⟨sw_mem 1103 (by decide +kernel) rfl, sw_mem 75 (by decide +kernel) rfl, by decide +kernel, by decide⟩, sw_mem 1102 (by decide +kernel) rfl, sw_mem 43 (by decide +kernel) rfl⟩
theorem sgX10_board : sw_SV yX10_board cX10_board 7 (some .int) 4 := ⟨⟨sw_mem 1099 (by decide +kernel) rfl, sw_mem 75 (by decide +kernel) rfl, by decide +kernel, by decide⟩, sw_mem 1097 (by decide +kernel) rfl, sw_mem 1098 (by decide +kernel) rfl⟩
theorem sgX10_ofLine : sw_SV yX10_ofLine cX10_ofLine 3 (some .int) 2 := ⟨⟨sw_mem 1108 (by decide +kernel) rfl, sw_mem 75 (by decide +kernel) rfl, by decide +kernel, by decide⟩, sw_mem 1106 (by decide +kernel) rfl, sw_mem 1107 (by decide +kernel) rfl⟩
theorem sgX10_hand : sw_SV yX10_hand cX10_hand 4 (some .int) 3 := ⟨⟨sw_mem 1116 (by decide +kernel) rfl, sw_mem 75 (by decide +kernel) rfl, by decide +kernel, by decide⟩, sw_mem 1114 (by decide +kernel) rfl, sw_mem 1115 (by decide +kernel) rfl⟩
theorem sgX10_ofHand : sw_SV yX10_ofHand cX10_ofHand 2 (some .int) 1 := ⟨⟨sw_mem 1122 (by decide +kernel) rfl, sw_mem 75 (by decide +kernel) rfl, by decide +kernel, by decide⟩, sw_mem 1120 (by decide +kernel) rfl, sw_mem 1121 (by decide +kernel) rfl⟩
theorem sgX10_fence : sw_SV yX10_fence cX10_fence 3 (some .int) 1 := ⟨⟨sw_mem 1126 (by decide +kernel) rfl, sw_mem 75 (by decide +kernel) rfl, by decide +kernel, by decide⟩, sw_mem 1124 (by decide +kernel) rfl, sw_mem 1125 (by decide +kernel) rfl⟩
theorem sgX10_cut : sw_SV yX10_cut cX10_cut 8 none 0 := ⟨⟨sw_mem 1139 (by decide +kernel) rfl, sw_mem 75 (by decide +kernel) rfl, by decide +kernel, by decide⟩, sw_mem 1138 (by decide +kernel) rfl, sw_mem 46 (by decide +kernel) rfl⟩
theorem sgX10_isBare : sw_SV yX10_isBare cX10_isBare 1 (some .boolean) 0 := ⟨⟨sw_mem 1158 (by decide +kernel) rfl, sw_mem 75 (by decide +kernel) rfl, by decide +kernel, by decide⟩, sw_mem 1157 (by decide +kernel) rfl, sw_mem 47 (by decide +kernel) rfl⟩
theorem sgX10_isUncut : sw_SV yX10_isUncut cX10_isUncut 2 (some .boolean) 1 := ⟨⟨sw_mem 1135 (by decide +kernel) rfl, sw_mem 75 (by decide +kernel) rfl, by decide +kernel, by decide⟩, sw_mem 1134 (by decide +kernel) rfl, sw_mem 45 (by decide +kernel) rfl⟩
theorem sgX10_where : sw_SV yX10_where cX10_where 2 (some .long) 1 := ⟨⟨sw_mem 1131 (by decide +kernel) rfl, sw_mem 75 (by decide +kernel) rfl, by decide +kernel, by decide⟩, sw_mem 1129 (by decide +kernel) rfl, sw_mem 1130 (by decide +kernel) rfl⟩
theorem sgX10_heading : sw_SV yX10_heading cX10_heading 2 (some .long) 1 := ⟨⟨sw_mem 1150 (by decide +kernel) rfl, sw_mem 75 (by decide +kernel) rfl, by decide +kernel, by decide⟩, sw_mem 1148 (by decide +kernel) rfl, sw_mem 1149 (by decide +kernel) rfl⟩
theorem sgX10_off : sw_SV yX10_off cX10_off 1 (some .int) 0 := ⟨⟨sw_mem 1154 (by decide +kernel) rfl, sw_mem 75 (by decide +kernel) rfl, by decide +kernel, by decide⟩, sw_mem 1152 (by decide +kernel) rfl, sw_mem 1153 (by decide +kernel) rfl⟩
theorem sgX10_pinched : sw_SV yX10_pinched cX10_pinched 1 (some .int) 0 := ⟨⟨sw_mem 1162 (by decide +kernel) rfl, sw_mem 75 (by decide +kernel) rfl, by decide +kernel, by decide⟩, sw_mem 1160 (by decide +kernel) rfl, sw_mem 1161 (by decide +kernel) rfl⟩
theorem sgX10_markOf : sw_SV yX10_markOf cX10_markOf 3 (some .int) 2 := ⟨⟨sw_mem 1170 (by decide +kernel) rfl, sw_mem 75 (by decide +kernel) rfl, by decide +kernel, by decide⟩, sw_mem 1169 (by decide +kernel) rfl, sw_mem 48 (by decide +kernel) rfl⟩
theorem sgX10_marks : sw_SV yX10_marks cX10_marks 6 (some .int) 1 := ⟨⟨sw_mem 1166 (by decide +kernel) rfl, sw_mem 75 (by decide +kernel) rfl, by decide +kernel, by decide⟩, sw_mem 1164 (by decide +kernel) rfl, sw_mem 1165 (by decide +kernel) rfl⟩
theorem sgX10_which : sw_SV yX10_which cX10_which 5 (some .int) 2 := ⟨⟨sw_mem 1174 (by decide +kernel) rfl, sw_mem 75 (by decide +kernel) rfl, by decide +kernel, by decide⟩, sw_mem 1172 (by decide +kernel) rfl, sw_mem 1173 (by decide +kernel) rfl⟩
theorem sgX10_straightest : sw_SV yX10_straightest cX10_straightest 8 (some .int) 1 := ⟨⟨sw_mem 1178 (by decide +kernel) rfl, sw_mem 75 (by decide +kernel) rfl, by decide +kernel, by decide⟩, sw_mem 1176 (by decide +kernel) rfl, sw_mem 1177 (by decide +kernel) rfl⟩
theorem sgX10_noFlaw : sw_SV yX10_noFlaw cX10_noFlaw 2 (some .boolean) 1 := ⟨⟨sw_mem 1190 (by decide +kernel) rfl, sw_mem 75 (by decide +kernel) rfl, by decide +kernel, by decide⟩, sw_mem 1189 (by decide +kernel) rfl, sw_mem 49 (by decide +kernel) rfl⟩
theorem sgX10_flaw : sw_SV yX10_flaw cX10_flaw 4 (some .int) 3 := ⟨⟨sw_mem 1182 (by decide +kernel) rfl, sw_mem 75 (by decide +kernel) rfl, by decide +kernel, by decide⟩, sw_mem 1180 (by decide +kernel) rfl, sw_mem 1181 (by decide +kernel) rfl⟩
theorem sgX10_ofFlaw : sw_SV yX10_ofFlaw cX10_ofFlaw 3 (some .int) 2 := ⟨⟨sw_mem 1186 (by decide +kernel) rfl, sw_mem 75 (by decide +kernel) rfl, by decide +kernel, by decide⟩, sw_mem 1184 (by decide +kernel) rfl, sw_mem 1185 (by decide +kernel) rfl⟩
theorem sgX10_reading : sw_SV yX10_reading cX10_reading 3 (some .int) 2 := ⟨⟨sw_mem 1194 (by decide +kernel) rfl, sw_mem 75 (by decide +kernel) rfl, by decide +kernel, by decide⟩, sw_mem 1192 (by decide +kernel) rfl, sw_mem 1193 (by decide +kernel) rfl⟩
theorem sgX10_back : sw_SV yX10_back cX10_back 2 (some .int) 1 := ⟨⟨sw_mem 1198 (by decide +kernel) rfl, sw_mem 75 (by decide +kernel) rfl, by decide +kernel, by decide⟩, sw_mem 1196 (by decide +kernel) rfl, sw_mem 1197 (by decide +kernel) rfl⟩
theorem sgX10_doesFit : sw_SV yX10_doesFit cX10_doesFit 3 (some .boolean) 0 := ⟨⟨sw_mem 1214 (by decide +kernel) rfl, sw_mem 75 (by decide +kernel) rfl, by decide +kernel, by decide⟩, sw_mem 1213 (by decide +kernel) rfl, sw_mem 52 (by decide +kernel) rfl⟩
theorem sgX10_doFit : sw_SV yX10_doFit cX10_doFit 6 (some .boolean) 2 := ⟨⟨sw_mem 1210 (by decide +kernel) rfl, sw_mem 75 (by decide +kernel) rfl, by decide +kernel, by decide⟩, sw_mem 1209 (by decide +kernel) rfl, sw_mem 51 (by decide +kernel) rfl⟩
theorem sgX10_layLikely : sw_SV yX10_layLikely cX10_layLikely 4 none 0 := ⟨⟨sw_mem 1206 (by decide +kernel) rfl, sw_mem 75 (by decide +kernel) rfl, by decide +kernel, by decide⟩, sw_mem 1205 (by decide +kernel) rfl, sw_mem 50 (by decide +kernel) rfl⟩
theorem sgX10_likely : sw_SV yX10_likely cX10_likely 2 (some .int) 1 := ⟨⟨sw_mem 1202 (by decide +kernel) rfl, sw_mem 75 (by decide +kernel) rfl, by decide +kernel, by decide⟩, sw_mem 1200 (by decide +kernel) rfl, sw_mem 1201 (by decide +kernel) rfl⟩
theorem sgX10_each : sw_SV yX10_each cX10_each 2 (some .int) 1 := ⟨⟨sw_mem 1218 (by decide +kernel) rfl, sw_mem 75 (by decide +kernel) rfl, by decide +kernel, by decide⟩, sw_mem 1216 (by decide +kernel) rfl, sw_mem 1217 (by decide +kernel) rfl⟩
theorem sgX10_mayBe : sw_SV yX10_mayBe cX10_mayBe 3 (some .boolean) 2 := ⟨⟨sw_mem 1226 (by decide +kernel) rfl, sw_mem 75 (by decide +kernel) rfl, by decide +kernel, by decide⟩, sw_mem 1225 (by decide +kernel) rfl, sw_mem 53 (by decide +kernel) rfl⟩
theorem sgX10_doAct : sw_SV yX10_doAct cX10_doAct 3 none 2 := ⟨⟨sw_mem 1230 (by decide +kernel) rfl, sw_mem 75 (by decide +kernel) rfl, by decide +kernel, by decide⟩, sw_mem 1229 (by decide +kernel) rfl, sw_mem 54 (by decide +kernel) rfl⟩
theorem sgX10_costOf : sw_SS yX10_costOf cX10_costOf 1 (some .int) 1 := ⟨⟨sw_mem 1251 (by decide +kernel) rfl, sw_mem 75 (by decide +kernel) rfl, by decide +kernel, by decide⟩, sw_mem 1250 (by decide +kernel) rfl⟩
theorem sgX10_act : sw_SV yX10_act cX10_act 3 (some .int) 2 := ⟨⟨sw_mem 1222 (by decide +kernel) rfl, sw_mem 75 (by decide +kernel) rfl, by decide +kernel, by decide⟩, sw_mem 1220 (by decide +kernel) rfl, sw_mem 1221 (by decide +kernel) rfl⟩
theorem sgX10_look : sw_SV yX10_look cX10_look 7 none 5 := ⟨⟨sw_mem 1244 (by decide +kernel) rfl, sw_mem 75 (by decide +kernel) rfl, by decide +kernel, by decide⟩, sw_mem 1243 (by decide +kernel) rfl, sw_mem 56 (by decide +kernel) rfl⟩
theorem sgX10_keep : sw_SV yX10_keep cX10_keep 3 none 2 := ⟨⟨sw_mem 1248 (by decide +kernel) rfl, sw_mem 75 (by decide +kernel) rfl, by decide +kernel, by decide⟩, sw_mem 1247 (by decide +kernel) rfl, sw_mem 57 (by decide +kernel) rfl⟩
theorem sgX10_putBack : sw_SV yX10_putBack cX10_putBack 3 none 2 := ⟨⟨sw_mem 1259 (by decide +kernel) rfl, sw_mem 75 (by decide +kernel) rfl, by decide +kernel, by decide⟩, sw_mem 1258 (by decide +kernel) rfl, sw_mem 59 (by decide +kernel) rfl⟩
theorem sgX10_lookFurther : sw_SV yX10_lookFurther cX10_lookFurther 7 none 3 := ⟨⟨sw_mem 1255 (by decide +kernel) rfl, sw_mem 75 (by decide +kernel) rfl, by decide +kernel, by decide⟩, sw_mem 1254 (by decide +kernel) rfl, sw_mem 58 (by decide +kernel) rfl⟩
theorem sgX10_layMend : sw_SV yX10_layMend cX10_layMend 5 none 1 := ⟨⟨sw_mem 1240 (by decide +kernel) rfl, sw_mem 75 (by decide +kernel) rfl, by decide +kernel, by decide⟩, sw_mem 1239 (by decide +kernel) rfl, sw_mem 55 (by decide +kernel) rfl⟩
theorem sgX10_mend : sw_SV yX10_mend cX10_mend 3 (some .int) 2 := ⟨⟨sw_mem 1234 (by decide +kernel) rfl, sw_mem 75 (by decide +kernel) rfl, by decide +kernel, by decide⟩, sw_mem 1232 (by decide +kernel) rfl, sw_mem 1233 (by decide +kernel) rfl⟩
theorem sgX10_cutIn : sw_SS yX10_cutIn cX10_cutIn 5 (some .int) 3 := ⟨⟨sw_mem 1272 (by decide +kernel) rfl, sw_mem 75 (by decide +kernel) rfl, by decide +kernel, by decide⟩, sw_mem 1271 (by decide +kernel) rfl⟩
theorem sgX10_costOfOrder : sw_SV yX10_costOfOrder cX10_costOfOrder 9 (some .int) 2 := ⟨⟨sw_mem 1269 (by decide +kernel) rfl, sw_mem 75 (by decide +kernel) rfl, by decide +kernel, by decide⟩, sw_mem 1268 (by decide +kernel) rfl, sw_mem 60 (by decide +kernel) rfl⟩
theorem sgX10_log : sw_SV yX10_log cX10_log 11 (some .int) 5 := ⟨⟨sw_mem 1263 (by decide +kernel) rfl, sw_mem 75 (by decide +kernel) rfl, by decide +kernel, by decide⟩, sw_mem 1261 (by decide +kernel) rfl, sw_mem 1262 (by decide +kernel) rfl⟩
theorem sgX10_sheet : sw_SV yX10_sheet cX10_sheet 5 (some .int) 3 := ⟨⟨sw_mem 1276 (by decide +kernel) rfl, sw_mem 75 (by decide +kernel) rfl, by decide +kernel, by decide⟩, sw_mem 1274 (by decide +kernel) rfl, sw_mem 1275 (by decide +kernel) rfl⟩
theorem sgX10_lose : sw_SV yX10_lose cX10_lose 3 (some .int) 1 := ⟨⟨sw_mem 1280 (by decide +kernel) rfl, sw_mem 75 (by decide +kernel) rfl, by decide +kernel, by decide⟩, sw_mem 1278 (by decide +kernel) rfl, sw_mem 1279 (by decide +kernel) rfl⟩
theorem sgX10_noCell : sw_SV yX10_noCell cX10_noCell 3 (some .int) 2 := ⟨⟨sw_mem 1288 (by decide +kernel) rfl, sw_mem 75 (by decide +kernel) rfl, by decide +kernel, by decide⟩, sw_mem 1287 (by decide +kernel) rfl, sw_mem 61 (by decide +kernel) rfl⟩
theorem sgX10_put : sw_SV yX10_put cX10_put 4 (some .int) 3 := ⟨⟨sw_mem 1284 (by decide +kernel) rfl, sw_mem 75 (by decide +kernel) rfl, by decide +kernel, by decide⟩, sw_mem 1282 (by decide +kernel) rfl, sw_mem 1283 (by decide +kernel) rfl⟩
theorem sgX10_cell : sw_SV yX10_cell cX10_cell 4 (some .long) 3 := ⟨⟨sw_mem 1292 (by decide +kernel) rfl, sw_mem 75 (by decide +kernel) rfl, by decide +kernel, by decide⟩, sw_mem 1290 (by decide +kernel) rfl, sw_mem 1291 (by decide +kernel) rfl⟩
theorem sgX10_copy : sw_SV yX10_copy cX10_copy 7 (some .int) 5 := ⟨⟨sw_mem 1300 (by decide +kernel) rfl, sw_mem 75 (by decide +kernel) rfl, by decide +kernel, by decide⟩, sw_mem 1298 (by decide +kernel) rfl, sw_mem 1299 (by decide +kernel) rfl⟩
theorem sgX10_traced : sw_SV yX10_traced cX10_traced 2 none 1 := ⟨⟨sw_mem 1308 (by decide +kernel) rfl, sw_mem 75 (by decide +kernel) rfl, by decide +kernel, by decide⟩, sw_mem 1307 (by decide +kernel) rfl, sw_mem 63 (by decide +kernel) rfl⟩
theorem sgX10_tell : sw_SV yX10_tell cX10_tell 4 (some .int) 1 := ⟨⟨sw_mem 1304 (by decide +kernel) rfl, sw_mem 75 (by decide +kernel) rfl, by decide +kernel, by decide⟩, sw_mem 1302 (by decide +kernel) rfl, sw_mem 1303 (by decide +kernel) rfl⟩
theorem sgX10_joint : sw_SV yX10_joint cX10_joint 2 (some .int) 1 := ⟨⟨sw_mem 1312 (by decide +kernel) rfl, sw_mem 75 (by decide +kernel) rfl, by decide +kernel, by decide⟩, sw_mem 1310 (by decide +kernel) rfl, sw_mem 1311 (by decide +kernel) rfl⟩
theorem sgX10_as : sw_SV yX10_as cX10_as 3 (some .int) 2 := ⟨⟨sw_mem 1316 (by decide +kernel) rfl, sw_mem 75 (by decide +kernel) rfl, by decide +kernel, by decide⟩, sw_mem 1314 (by decide +kernel) rfl, sw_mem 1315 (by decide +kernel) rfl⟩
theorem sgX10_trace : sw_SV yX10_trace cX10_trace 1 (some .int) 0 := ⟨⟨sw_mem 1320 (by decide +kernel) rfl, sw_mem 75 (by decide +kernel) rfl, by decide +kernel, by decide⟩, sw_mem 1318 (by decide +kernel) rfl, sw_mem 1319 (by decide +kernel) rfl⟩
theorem sgX10_fault : sw_SV yX10_fault cX10_fault 1 (some .int) 0 := ⟨⟨sw_mem 1324 (by decide +kernel) rfl, sw_mem 75 (by decide +kernel) rfl, by decide +kernel, by decide⟩, sw_mem 1322 (by decide +kernel) rfl, sw_mem 1323 (by decide +kernel) rfl⟩
theorem sgX10_many : sw_SV yX10_many cX10_many 2 (some .int) 1 := ⟨⟨sw_mem 1328 (by decide +kernel) rfl, sw_mem 75 (by decide +kernel) rfl, by decide +kernel, by decide⟩, sw_mem 1326 (by decide +kernel) rfl, sw_mem 1327 (by decide +kernel) rfl⟩
