theorem dX10_saw_46 : decode cX10_saw 46 = .ok (.ireturn, 1) := by decide +kernel
theorem dX10_saw_47 : decode cX10_saw 47 = .ok (.aload_n 0, 1) := by decide +kernel
theorem dX10_saw_48 : decode cX10_saw 48 = .ok (.aload_n 0, 1) := by decide +kernel
theorem dX10_saw_49 : decode cX10_saw 49 = .ok (.getfield 124, 3) := by decide +kernel
theorem dX10_saw_52 : decode cX10_saw 52 = .ok (.putfield 116, 3) := by decide +kernel
theorem dX10_saw_55 : decode cX10_saw 55 = .ok (.iconst 0, 1) := by decide +kernel
theorem dX10_saw_56 : decode cX10_saw 56 = .ok (.istore 6, 2) := by decide +kernel
theorem dX10_saw_58 : decode cX10_saw 58 = .ok (.iload 6, 2) := by decide +kernel
theorem dX10_saw_60 : decode cX10_saw 60 = .ok (.aload_n 0, 1) := by decide +kernel
theorem dX10_saw_61 : decode cX10_saw 61 = .ok (.getfield 116, 3) := by decide +kernel
theorem dX10_saw_64 : decode cX10_saw 64 = .ok (.if_icmp .ge 89, 3) := by decide +kernel
theorem dX10_saw_67 : decode cX10_saw 67 = .ok (.aload_n 0, 1) := by decide +kernel
theorem dX10_saw_68 : decode cX10_saw 68 = .ok (.getfield 7, 3) := by decide +kernel
theorem dX10_saw_71 : decode cX10_saw 71 = .ok (.iload 6, 2) := by decide +kernel
theorem dX10_saw_73 : decode cX10_saw 73 = .ok (.aload_n 0, 1) := by decide +kernel
theorem dX10_saw_74 : decode cX10_saw 74 = .ok (.getfield 25, 3) := by decide +kernel
theorem dX10_saw_77 : decode cX10_saw 77 = .ok (.iload 6, 2) := by decide +kernel
theorem dX10_saw_79 : decode cX10_saw 79 = .ok (.iaload, 1) := by decide +kernel
theorem dX10_saw_80 : decode cX10_saw 80 = .ok (.iastore, 1) := by decide +kernel
theorem dX10_saw_81 : decode cX10_saw 81 = .ok (.aload_n 0, 1) := by decide +kernel
theorem dX10_saw_82 : decode cX10_saw 82 = .ok (.getfield 13, 3) := by decide +kernel
theorem dX10_saw_85 : decode cX10_saw 85 = .ok (.iload 6, 2) := by decide +kernel
theorem dX10_saw_87 : decode cX10_saw 87 = .ok (.aload_n 0, 1) := by decide +kernel
theorem dX10_saw_88 : decode cX10_saw 88 = .ok (.getfield 28, 3) := by decide +kernel
theorem dX10_saw_91 : decode cX10_saw 91 = .ok (.iload 6, 2) := by decide +kernel
theorem dX10_saw_93 : decode cX10_saw 93 = .ok (.iaload, 1) := by decide +kernel
theorem dX10_saw_94 : decode cX10_saw 94 = .ok (.iastore, 1) := by decide +kernel
theorem dX10_saw_95 : decode cX10_saw 95 = .ok (.aload_n 0, 1) := by decide +kernel
theorem dX10_saw_96 : decode cX10_saw 96 = .ok (.getfield 16, 3) := by decide +kernel
theorem dX10_saw_99 : decode cX10_saw 99 = .ok (.iload 6, 2) := by decide +kernel
theorem dX10_saw_101 : decode cX10_saw 101 = .ok (.aload_n 0, 1) := by decide +kernel
theorem dX10_saw_102 : decode cX10_saw 102 = .ok (.getfield 31, 3) := by decide +kernel
theorem dX10_saw_105 : decode cX10_saw 105 = .ok (.iconst 3, 1) := by decide +kernel
theorem dX10_saw_106 : decode cX10_saw 106 = .ok (.iload 6, 2) := by decide +kernel
theorem dX10_saw_108 : decode cX10_saw 108 = .ok (.imul, 1) := by decide +kernel
theorem dX10_saw_109 : decode cX10_saw 109 = .ok (.iaload, 1) := by decide +kernel
theorem dX10_saw_110 : decode cX10_saw 110 = .ok (.iastore, 1) := by decide +kernel
theorem dX10_saw_111 : decode cX10_saw 111 = .ok (.aload_n 0, 1) := by decide +kernel
theorem dX10_saw_112 : decode cX10_saw 112 = .ok (.getfield 19, 3) := by decide +kernel
theorem dX10_saw_115 : decode cX10_saw 115 = .ok (.iload 6, 2) := by decide +kernel
theorem dX10_saw_117 : decode cX10_saw 117 = .ok (.aload_n 0, 1) := by decide +kernel
theorem dX10_saw_118 : decode cX10_saw 118 = .ok (.getfield 31, 3) := by decide +kernel
theorem dX10_saw_121 : decode cX10_saw 121 = .ok (.iconst 3, 1) := by decide +kernel
theorem dX10_saw_122 : decode cX10_saw 122 = .ok (.iload 6, 2) := by decide +kernel
theorem dX10_saw_124 : decode cX10_saw 124 = .ok (.imul, 1) := by decide +kernel
theorem dX10_saw_125 : decode cX10_saw 125 = .ok (.iconst 1, 1) := by decide +kernel
theorem dX10_saw_126 : decode cX10_saw 126 = .ok (.iadd, 1) := by decide +kernel
theorem dX10_saw_127 : decode cX10_saw 127 = .ok (.iaload, 1) := by decide +kernel
theorem dX10_saw_128 : decode cX10_saw 128 = .ok (.iastore, 1) := by decide +kernel
theorem dX10_saw_129 : decode cX10_saw 129 = .ok (.aload_n 0, 1) := by decide +kernel
theorem dX10_saw_130 : decode cX10_saw 130 = .ok (.getfield 22, 3) := by decide +kernel
theorem dX10_saw_133 : decode cX10_saw 133 = .ok (.iload 6, 2) := by decide +kernel
theorem dX10_saw_135 : decode cX10_saw 135 = .ok (.aload_n 0, 1) := by decide +kernel
theorem dX10_saw_136 : decode cX10_saw 136 = .ok (.getfield 31, 3) := by decide +kernel
theorem dX10_saw_139 : decode cX10_saw 139 = .ok (.iconst 3, 1) := by decide +kernel
theorem dX10_saw_140 : decode cX10_saw 140 = .ok (.iload 6, 2) := by decide +kernel
theorem dX10_saw_142 : decode cX10_saw 142 = .ok (.imul, 1) := by decide +kernel
theorem dX10_saw_143 : decode cX10_saw 143 = .ok (.iconst 2, 1) := by decide +kernel
theorem dX10_saw_144 : decode cX10_saw 144 = .ok (.iadd, 1) := by decide +kernel
theorem dX10_saw_145 : decode cX10_saw 145 = .ok (.iaload, 1) := by decide +kernel
theorem dX10_saw_146 : decode cX10_saw 146 = .ok (.iastore, 1) := by decide +kernel
theorem dX10_saw_147 : decode cX10_saw 147 = .ok (.iinc 6 1, 3) := by decide +kernel
theorem dX10_saw_150 : decode cX10_saw 150 = .ok (.goto (-92), 3) := by decide +kernel
theorem dX10_saw_153 : decode cX10_saw 153 = .ok (.aload_n 0, 1) := by decide +kernel
theorem dX10_saw_154 : decode cX10_saw 154 = .ok (.iconst 0, 1) := by decide +kernel
theorem dX10_saw_155 : decode cX10_saw 155 = .ok (.putfield 142, 3) := by decide +kernel
theorem dX10_saw_158 : decode cX10_saw 158 = .ok (.aload_n 0, 1) := by decide +kernel
theorem dX10_saw_159 : decode cX10_saw 159 = .ok (.iconst 0, 1) := by decide +kernel
theorem dX10_saw_160 : decode cX10_saw 160 = .ok (.putfield 145, 3) := by decide +kernel
theorem dX10_saw_163 : decode cX10_saw 163 = .ok (.aload_n 0, 1) := by decide +kernel
theorem dX10_saw_164 : decode cX10_saw 164 = .ok (.aload_n 0, 1) := by decide +kernel
theorem dX10_saw_165 : decode cX10_saw 165 = .ok (.getfield 116, 3) := by decide +kernel
theorem dX10_saw_168 : decode cX10_saw 168 = .ok (.invokevirtual 99, 3) := by decide +kernel
theorem dX10_saw_171 : decode cX10_saw 171 = .ok (.ireturn, 1) := by decide +kernel
theorem dX10_takesOf_0 : decode cX10_takesOf 0 = .ok (.aload_n 0, 1) := by decide +kernel
theorem dX10_takesOf_1 : decode cX10_takesOf 1 = .ok (.getfield 19, 3) := by decide +kernel
theorem dX10_takesOf_4 : decode cX10_takesOf 4 = .ok (.iload_n 1, 1) := by decide +kernel
theorem dX10_takesOf_5 : decode cX10_takesOf 5 = .ok (.iaload, 1) := by decide +kernel
theorem dX10_takesOf_6 : decode cX10_takesOf 6 = .ok (.aload_n 0, 1) := by decide +kernel
theorem dX10_takesOf_7 : decode cX10_takesOf 7 = .ok (.getfield 22, 3) := by decide +kernel
theorem dX10_takesOf_10 : decode cX10_takesOf 10 = .ok (.iload_n 1, 1) := by decide +kernel
theorem dX10_takesOf_11 : decode cX10_takesOf 11 = .ok (.iaload, 1) := by decide +kernel
theorem dX10_takesOf_12 : decode cX10_takesOf 12 = .ok (.imul, 1) := by decide +kernel
theorem dX10_takesOf_13 : decode cX10_takesOf 13 = .ok (.istore_n 2, 1) := by decide +kernel
theorem dX10_takesOf_14 : decode cX10_takesOf 14 = .ok (.iload_n 2, 1) := by decide +kernel
theorem dX10_takesOf_15 : decode cX10_takesOf 15 = .ok (.ifCond .le 19, 3) := by decide +kernel
theorem dX10_takesOf_18 : decode cX10_takesOf 18 = .ok (.aload_n 0, 1) := by decide +kernel
theorem dX10_takesOf_19 : decode cX10_takesOf 19 = .ok (.getfield 7, 3) := by decide +kernel
theorem dX10_takesOf_22 : decode cX10_takesOf 22 = .ok (.iload_n 1, 1) := by decide +kernel
theorem dX10_takesOf_23 : decode cX10_takesOf 23 = .ok (.iaload, 1) := by decide +kernel
theorem dX10_takesOf_24 : decode cX10_takesOf 24 = .ok (.iconst 2, 1) := by decide +kernel
theorem dX10_takesOf_25 : decode cX10_takesOf 25 = .ok (.if_icmp .ne 9, 3) := by decide +kernel
theorem dX10_takesOf_28 : decode cX10_takesOf 28 = .ok (.iload_n 2, 1) := by decide +kernel
theorem dX10_takesOf_29 : decode cX10_takesOf 29 = .ok (.iconst 2, 1) := by decide +kernel
theorem dX10_takesOf_30 : decode cX10_takesOf 30 = .ok (.iadd, 1) := by decide +kernel
theorem dX10_takesOf_31 : decode cX10_takesOf 31 = .ok (.goto 4, 3) := by decide +kernel
theorem dX10_takesOf_34 : decode cX10_takesOf 34 = .ok (.iload_n 2, 1) := by decide +kernel
theorem dX10_takesOf_35 : decode cX10_takesOf 35 = .ok (.ireturn, 1) := by decide +kernel
theorem dX10_pushOf_0 : decode cX10_pushOf 0 = .ok (.aload_n 0, 1) := by decide +kernel
theorem dX10_pushOf_1 : decode cX10_pushOf 1 = .ok (.iload_n 1, 1) := by decide +kernel
theorem dX10_pushOf_2 : decode cX10_pushOf 2 = .ok (.invokevirtual 148, 3) := by decide +kernel
theorem dX10_pushOf_5 : decode cX10_pushOf 5 = .ok (.aload_n 0, 1) := by decide +kernel
theorem dX10_pushOf_6 : decode cX10_pushOf 6 = .ok (.getfield 16, 3) := by decide +kernel
theorem dX10_pushOf_9 : decode cX10_pushOf 9 = .ok (.iload_n 1, 1) := by decide +kernel
theorem dX10_pushOf_10 : decode cX10_pushOf 10 = .ok (.iaload, 1) := by decide +kernel
theorem dX10_pushOf_11 : decode cX10_pushOf 11 = .ok (.imul, 1) := by decide +kernel
theorem dX10_pushOf_12 : decode cX10_pushOf 12 = .ok (.aload_n 0, 1) := by decide +kernel
theorem dX10_pushOf_13 : decode cX10_pushOf 13 = .ok (.getfield 13, 3) := by decide +kernel
theorem dX10_pushOf_16 : decode cX10_pushOf 16 = .ok (.iload_n 1, 1) := by decide +kernel
theorem dX10_pushOf_17 : decode cX10_pushOf 17 = .ok (.iaload, 1) := by decide +kernel
theorem dX10_pushOf_18 : decode cX10_pushOf 18 = .ok (.imul, 1) := by decide +kernel
theorem dX10_pushOf_19 : decode cX10_pushOf 19 = .ok (.ireturn, 1) := by decide +kernel
theorem dX10_ofTooth_0 : decode cX10_ofTooth 0 = .ok (.aload_n 0, 1) := by decide +kernel
theorem dX10_ofTooth_1 : decode cX10_ofTooth 1 = .ok (.iload_n 1, 1) := by decide +kernel
theorem dX10_ofTooth_2 : decode cX10_ofTooth 2 = .ok (.invokevirtual 151, 3) := by decide +kernel
theorem dX10_ofTooth_5 : decode cX10_ofTooth 5 = .ok (.ifCond .eq 5, 3) := by decide +kernel
theorem dX10_ofTooth_8 : decode cX10_ofTooth 8 = .ok (.iconst (-1), 1) := by decide +kernel
theorem dX10_ofTooth_9 : decode cX10_ofTooth 9 = .ok (.ireturn, 1) := by decide +kernel
theorem dX10_ofTooth_10 : decode cX10_ofTooth 10 = .ok (.iload_n 2, 1) := by decide +kernel
theorem dX10_ofTooth_11 : decode cX10_ofTooth 11 = .ok (.tableswitch 88 0 6 #[41, 48, 55, 62, 69, 76, 82], 41) := by decide +kernel
theorem dX10_ofTooth_52 : decode cX10_ofTooth 52 = .ok (.aload_n 0, 1) := by decide +kernel
theorem dX10_ofTooth_53 : decode cX10_ofTooth 53 = .ok (.getfield 7, 3) := by decide +kernel
theorem dX10_ofTooth_56 : decode cX10_ofTooth 56 = .ok (.iload_n 1, 1) := by decide +kernel
theorem dX10_ofTooth_57 : decode cX10_ofTooth 57 = .ok (.iaload, 1) := by decide +kernel
theorem dX10_ofTooth_58 : decode cX10_ofTooth 58 = .ok (.ireturn, 1) := by decide +kernel
theorem dX10_ofTooth_59 : decode cX10_ofTooth 59 = .ok (.aload_n 0, 1) := by decide +kernel
theorem dX10_ofTooth_60 : decode cX10_ofTooth 60 = .ok (.getfield 13, 3) := by decide +kernel
theorem dX10_ofTooth_63 : decode cX10_ofTooth 63 = .ok (.iload_n 1, 1) := by decide +kernel
theorem dX10_ofTooth_64 : decode cX10_ofTooth 64 = .ok (.iaload, 1) := by decide +kernel
theorem dX10_ofTooth_65 : decode cX10_ofTooth 65 = .ok (.ireturn, 1) := by decide +kernel
theorem dX10_ofTooth_66 : decode cX10_ofTooth 66 = .ok (.aload_n 0, 1) := by decide +kernel
theorem dX10_ofTooth_67 : decode cX10_ofTooth 67 = .ok (.getfield 16, 3) := by decide +kernel
theorem dX10_ofTooth_70 : decode cX10_ofTooth 70 = .ok (.iload_n 1, 1) := by decide +kernel
theorem dX10_ofTooth_71 : decode cX10_ofTooth 71 = .ok (.iaload, 1) := by decide +kernel
theorem dX10_ofTooth_72 : decode cX10_ofTooth 72 = .ok (.ireturn, 1) := by decide +kernel
theorem dX10_ofTooth_73 : decode cX10_ofTooth 73 = .ok (.aload_n 0, 1) := by decide +kernel
theorem dX10_ofTooth_74 : decode cX10_ofTooth 74 = .ok (.getfield 19, 3) := by decide +kernel
theorem dX10_ofTooth_77 : decode cX10_ofTooth 77 = .ok (.iload_n 1, 1) := by decide +kernel
theorem dX10_ofTooth_78 : decode cX10_ofTooth 78 = .ok (.iaload, 1) := by decide +kernel
theorem dX10_ofTooth_79 : decode cX10_ofTooth 79 = .ok (.ireturn, 1) := by decide +kernel
theorem dX10_ofTooth_80 : decode cX10_ofTooth 80 = .ok (.aload_n 0, 1) := by decide +kernel
theorem dX10_ofTooth_81 : decode cX10_ofTooth 81 = .ok (.getfield 22, 3) := by decide +kernel
theorem dX10_ofTooth_84 : decode cX10_ofTooth 84 = .ok (.iload_n 1, 1) := by decide +kernel
theorem dX10_ofTooth_85 : decode cX10_ofTooth 85 = .ok (.iaload, 1) := by decide +kernel
theorem dX10_ofTooth_86 : decode cX10_ofTooth 86 = .ok (.ireturn, 1) := by decide +kernel
theorem dX10_ofTooth_87 : decode cX10_ofTooth 87 = .ok (.aload_n 0, 1) := by decide +kernel
theorem dX10_ofTooth_88 : decode cX10_ofTooth 88 = .ok (.iload_n 1, 1) := by decide +kernel
theorem dX10_ofTooth_89 : decode cX10_ofTooth 89 = .ok (.invokevirtual 148, 3) := by decide +kernel
theorem dX10_ofTooth_92 : decode cX10_ofTooth 92 = .ok (.ireturn, 1) := by decide +kernel
theorem dX10_ofTooth_93 : decode cX10_ofTooth 93 = .ok (.aload_n 0, 1) := by decide +kernel
theorem dX10_ofTooth_94 : decode cX10_ofTooth 94 = .ok (.iload_n 1, 1) := by decide +kernel
theorem dX10_ofTooth_95 : decode cX10_ofTooth 95 = .ok (.invokevirtual 154, 3) := by decide +kernel
theorem dX10_ofTooth_98 : decode cX10_ofTooth 98 = .ok (.ireturn, 1) := by decide +kernel
theorem dX10_ofTooth_99 : decode cX10_ofTooth 99 = .ok (.bipush (-2), 2) := by decide +kernel
theorem dX10_ofTooth_101 : decode cX10_ofTooth 101 = .ok (.ireturn, 1) := by decide +kernel
theorem dX10_change_0 : decode cX10_change 0 = .ok (.iload_n 2, 1) := by decide +kernel
theorem dX10_change_1 : decode cX10_change 1 = .ok (.ifCond .ne 12, 3) := by decide +kernel
theorem dX10_change_4 : decode cX10_change 4 = .ok (.aload_n 0, 1) := by decide +kernel
theorem dX10_change_5 : decode cX10_change 5 = .ok (.getfield 16, 3) := by decide +kernel
theorem dX10_change_8 : decode cX10_change 8 = .ok (.iload_n 1, 1) := by decide +kernel
theorem dX10_change_9 : decode cX10_change 9 = .ok (.iaload, 1) := by decide +kernel
theorem dX10_change_10 : decode cX10_change 10 = .ok (.goto 23, 3) := by decide +kernel
theorem dX10_change_13 : decode cX10_change 13 = .ok (.iload_n 2, 1) := by decide +kernel
theorem dX10_change_14 : decode cX10_change 14 = .ok (.iconst 1, 1) := by decide +kernel
theorem dX10_change_15 : decode cX10_change 15 = .ok (.if_icmp .ne 12, 3) := by decide +kernel
theorem dX10_change_18 : decode cX10_change 18 = .ok (.aload_n 0, 1) := by decide +kernel
theorem dX10_change_19 : decode cX10_change 19 = .ok (.getfield 19, 3) := by decide +kernel
theorem dX10_change_22 : decode cX10_change 22 = .ok (.iload_n 1, 1) := by decide +kernel
theorem dX10_change_23 : decode cX10_change 23 = .ok (.iaload, 1) := by decide +kernel
theorem dX10_change_24 : decode cX10_change 24 = .ok (.goto 9, 3) := by decide +kernel
theorem dX10_change_27 : decode cX10_change 27 = .ok (.aload_n 0, 1) := by decide +kernel
theorem dX10_change_28 : decode cX10_change 28 = .ok (.getfield 22, 3) := by decide +kernel
theorem dX10_change_31 : decode cX10_change 31 = .ok (.iload_n 1, 1) := by decide +kernel
theorem dX10_change_32 : decode cX10_change 32 = .ok (.iaload, 1) := by decide +kernel
theorem dX10_change_33 : decode cX10_change 33 = .ok (.istore 4, 2) := by decide +kernel
theorem dX10_change_35 : decode cX10_change 35 = .ok (.iload_n 2, 1) := by decide +kernel
theorem dX10_change_36 : decode cX10_change 36 = .ok (.ifCond .ne 13, 3) := by decide +kernel
theorem dX10_change_39 : decode cX10_change 39 = .ok (.aload_n 0, 1) := by decide +kernel
theorem dX10_change_40 : decode cX10_change 40 = .ok (.getfield 16, 3) := by decide +kernel
theorem dX10_change_43 : decode cX10_change 43 = .ok (.iload_n 1, 1) := by decide +kernel
theorem dX10_change_44 : decode cX10_change 44 = .ok (.iload_n 3, 1) := by decide +kernel
theorem dX10_change_45 : decode cX10_change 45 = .ok (.iastore, 1) := by decide +kernel
theorem dX10_change_46 : decode cX10_change 46 = .ok (.goto 25, 3) := by decide +kernel
theorem dX10_change_49 : decode cX10_change 49 = .ok (.iload_n 2, 1) := by decide +kernel
theorem dX10_change_50 : decode cX10_change 50 = .ok (.iconst 1, 1) := by decide +kernel
theorem dX10_change_51 : decode cX10_change 51 = .ok (.if_icmp .ne 13, 3) := by decide +kernel
theorem dX10_change_54 : decode cX10_change 54 = .ok (.aload_n 0, 1) := by decide +kernel
theorem dX10_change_55 : decode cX10_change 55 = .ok (.getfield 19, 3) := by decide +kernel
theorem dX10_change_58 : decode cX10_change 58 = .ok (.iload_n 1, 1) := by decide +kernel
theorem dX10_change_59 : decode cX10_change 59 = .ok (.iload_n 3, 1) := by decide +kernel
theorem dX10_change_60 : decode cX10_change 60 = .ok (.iastore, 1) := by decide +kernel
theorem dX10_change_61 : decode cX10_change 61 = .ok (.goto 10, 3) := by decide +kernel
theorem dX10_change_64 : decode cX10_change 64 = .ok (.aload_n 0, 1) := by decide +kernel
theorem dX10_change_65 : decode cX10_change 65 = .ok (.getfield 22, 3) := by decide +kernel
theorem dX10_change_68 : decode cX10_change 68 = .ok (.iload_n 1, 1) := by decide +kernel
theorem dX10_change_69 : decode cX10_change 69 = .ok (.iload_n 3, 1) := by decide +kernel
theorem dX10_change_70 : decode cX10_change 70 = .ok (.iastore, 1) := by decide +kernel
theorem dX10_change_71 : decode cX10_change 71 = .ok (.iload 4, 2) := by decide +kernel
theorem dX10_change_73 : decode cX10_change 73 = .ok (.ireturn, 1) := by decide +kernel
theorem dX10_set_0 : decode cX10_set 0 = .ok (.aload_n 0, 1) := by decide +kernel
theorem dX10_set_1 : decode cX10_set 1 = .ok (.iload_n 1, 1) := by decide +kernel
theorem dX10_set_2 : decode cX10_set 2 = .ok (.invokevirtual 151, 3) := by decide +kernel
theorem dX10_set_5 : decode cX10_set 5 = .ok (.ifCond .eq 5, 3) := by decide +kernel
theorem dX10_set_8 : decode cX10_set 8 = .ok (.iconst (-1), 1) := by decide +kernel
theorem dX10_set_9 : decode cX10_set 9 = .ok (.ireturn, 1) := by decide +kernel
theorem dX10_set_10 : decode cX10_set 10 = .ok (.iload_n 2, 1) := by decide +kernel
theorem dX10_set_11 : decode cX10_set 11 = .ok (.i2l, 1) := by decide +kernel
theorem dX10_set_12 : decode cX10_set 12 = .ok (.lconst 0, 1) := by decide +kernel
theorem dX10_set_13 : decode cX10_set 13 = .ok (.ldc2_w 103, 3) := by decide +kernel
theorem dX10_set_16 : decode cX10_set 16 = .ok (.invokestatic 105, 3) := by decide +kernel
theorem dX10_set_19 : decode cX10_set 19 = .ok (.ifCond .eq 25, 3) := by decide +kernel
theorem dX10_set_22 : decode cX10_set 22 = .ok (.iload_n 3, 1) := by decide +kernel
theorem dX10_set_23 : decode cX10_set 23 = .ok (.i2l, 1) := by decide +kernel
theorem dX10_set_24 : decode cX10_set 24 = .ok (.lconst 0, 1) := by decide +kernel
theorem dX10_set_25 : decode cX10_set 25 = .ok (.ldc2_w 122, 3) := by decide +kernel
theorem dX10_set_28 : decode cX10_set 28 = .ok (.invokestatic 105, 3) := by decide +kernel
theorem dX10_set_31 : decode cX10_set 31 = .ok (.ifCond .eq 13, 3) := by decide +kernel
theorem dX10_set_34 : decode cX10_set 34 = .ok (.aload_n 0, 1) := by decide +kernel
theorem dX10_set_35 : decode cX10_set 35 = .ok (.iload_n 1, 1) := by decide +kernel
theorem dX10_set_36 : decode cX10_set 36 = .ok (.iload_n 2, 1) := by decide +kernel
theorem dX10_set_37 : decode cX10_set 37 = .ok (.iload_n 3, 1) := by decide +kernel
theorem dX10_set_38 : decode cX10_set 38 = .ok (.invokevirtual 157, 3) := by decide +kernel
theorem dX10_set_41 : decode cX10_set 41 = .ok (.goto 5, 3) := by decide +kernel
theorem dX10_set_44 : decode cX10_set 44 = .ok (.bipush (-2), 2) := by decide +kernel
theorem dX10_set_46 : decode cX10_set 46 = .ok (.ireturn, 1) := by decide +kernel
theorem dX10_pushNow_0 : decode cX10_pushNow 0 = .ok (.iconst 0, 1) := by decide +kernel
theorem dX10_pushNow_1 : decode cX10_pushNow 1 = .ok (.istore_n 1, 1) := by decide +kernel
theorem dX10_pushNow_2 : decode cX10_pushNow 2 = .ok (.iconst 0, 1) := by decide +kernel
theorem dX10_pushNow_3 : decode cX10_pushNow 3 = .ok (.istore_n 2, 1) := by decide +kernel
theorem dX10_pushNow_4 : decode cX10_pushNow 4 = .ok (.iload_n 2, 1) := by decide +kernel
theorem dX10_pushNow_5 : decode cX10_pushNow 5 = .ok (.aload_n 0, 1) := by decide +kernel
theorem dX10_pushNow_6 : decode cX10_pushNow 6 = .ok (.getfield 116, 3) := by decide +kernel
theorem dX10_pushNow_9 : decode cX10_pushNow 9 = .ok (.if_icmp .ge 17, 3) := by decide +kernel
theorem dX10_pushNow_12 : decode cX10_pushNow 12 = .ok (.iload_n 1, 1) := by decide +kernel
theorem dX10_pushNow_13 : decode cX10_pushNow 13 = .ok (.aload_n 0, 1) := by decide +kernel
theorem dX10_pushNow_14 : decode cX10_pushNow 14 = .ok (.iload_n 2, 1) := by decide +kernel
theorem dX10_pushNow_15 : decode cX10_pushNow 15 = .ok (.invokevirtual 154, 3) := by decide +kernel
theorem dX10_pushNow_18 : decode cX10_pushNow 18 = .ok (.iadd, 1) := by decide +kernel
theorem dX10_pushNow_19 : decode cX10_pushNow 19 = .ok (.istore_n 1, 1) := by decide +kernel
theorem dX10_pushNow_20 : decode cX10_pushNow 20 = .ok (.iinc 2 1, 3) := by decide +kernel
theorem dX10_pushNow_23 : decode cX10_pushNow 23 = .ok (.goto (-19), 3) := by decide +kernel
theorem dX10_pushNow_26 : decode cX10_pushNow 26 = .ok (.iload_n 1, 1) := by decide +kernel
theorem dX10_pushNow_27 : decode cX10_pushNow 27 = .ok (.ireturn, 1) := by decide +kernel
theorem dX10_kerfNow_0 : decode cX10_kerfNow 0 = .ok (.iconst 0, 1) := by decide +kernel
theorem dX10_kerfNow_1 : decode cX10_kerfNow 1 = .ok (.istore_n 1, 1) := by decide +kernel
theorem dX10_kerfNow_2 : decode cX10_kerfNow 2 = .ok (.iconst 0, 1) := by decide +kernel
theorem dX10_kerfNow_3 : decode cX10_kerfNow 3 = .ok (.istore_n 2, 1) := by decide +kernel
theorem dX10_kerfNow_4 : decode cX10_kerfNow 4 = .ok (.iconst 0, 1) := by decide +kernel
theorem dX10_kerfNow_5 : decode cX10_kerfNow 5 = .ok (.istore_n 3, 1) := by decide +kernel
theorem dX10_kerfNow_6 : decode cX10_kerfNow 6 = .ok (.iload_n 3, 1) := by decide +kernel
theorem dX10_kerfNow_7 : decode cX10_kerfNow 7 = .ok (.aload_n 0, 1) := by decide +kernel
theorem dX10_kerfNow_8 : decode cX10_kerfNow 8 = .ok (.getfield 116, 3) := by decide +kernel
theorem dX10_kerfNow_11 : decode cX10_kerfNow 11 = .ok (.if_icmp .ge 82, 3) := by decide +kernel
theorem dX10_kerfNow_14 : decode cX10_kerfNow 14 = .ok (.aload_n 0, 1) := by decide +kernel
theorem dX10_kerfNow_15 : decode cX10_kerfNow 15 = .ok (.iload_n 3, 1) := by decide +kernel
theorem dX10_kerfNow_16 : decode cX10_kerfNow 16 = .ok (.invokevirtual 148, 3) := by decide +kernel
theorem dX10_kerfNow_19 : decode cX10_kerfNow 19 = .ok (.ifCond .le 7, 3) := by decide +kernel
theorem dX10_kerfNow_22 : decode cX10_kerfNow 22 = .ok (.iconst 1, 1) := by decide +kernel
theorem dX10_kerfNow_23 : decode cX10_kerfNow 23 = .ok (.goto 4, 3) := by decide +kernel
theorem dX10_kerfNow_26 : decode cX10_kerfNow 26 = .ok (.iconst 0, 1) := by decide +kernel
theorem dX10_kerfNow_27 : decode cX10_kerfNow 27 = .ok (.istore 4, 2) := by decide +kernel
theorem dX10_kerfNow_29 : decode cX10_kerfNow 29 = .ok (.iload 4, 2) := by decide +kernel
theorem dX10_kerfNow_31 : decode cX10_kerfNow 31 = .ok (.ifCond .eq 25, 3) := by decide +kernel
theorem dX10_kerfNow_34 : decode cX10_kerfNow 34 = .ok (.aload_n 0, 1) := by decide +kernel
theorem dX10_kerfNow_35 : decode cX10_kerfNow 35 = .ok (.getfield 13, 3) := by decide +kernel
theorem dX10_kerfNow_38 : decode cX10_kerfNow 38 = .ok (.iload_n 3, 1) := by decide +kernel
theorem dX10_kerfNow_39 : decode cX10_kerfNow 39 = .ok (.iaload, 1) := by decide +kernel
theorem dX10_kerfNow_40 : decode cX10_kerfNow 40 = .ok (.ifCond .ge 16, 3) := by decide +kernel
theorem dX10_kerfNow_43 : decode cX10_kerfNow 43 = .ok (.iload_n 1, 1) := by decide +kernel
theorem dX10_kerfNow_44 : decode cX10_kerfNow 44 = .ok (.aload_n 0, 1) := by decide +kernel
theorem dX10_kerfNow_45 : decode cX10_kerfNow 45 = .ok (.getfield 16, 3) := by decide +kernel
theorem dX10_kerfNow_48 : decode cX10_kerfNow 48 = .ok (.iload_n 3, 1) := by decide +kernel
theorem dX10_kerfNow_49 : decode cX10_kerfNow 49 = .ok (.iaload, 1) := by decide +kernel
theorem dX10_kerfNow_50 : decode cX10_kerfNow 50 = .ok (.invokestatic 161, 3) := by decide +kernel
theorem dX10_kerfNow_53 : decode cX10_kerfNow 53 = .ok (.goto 4, 3) := by decide +kernel
theorem dX10_kerfNow_56 : decode cX10_kerfNow 56 = .ok (.iload_n 1, 1) := by decide +kernel
theorem dX10_kerfNow_57 : decode cX10_kerfNow 57 = .ok (.istore_n 1, 1) := by decide +kernel
theorem dX10_kerfNow_58 : decode cX10_kerfNow 58 = .ok (.iload 4, 2) := by decide +kernel
theorem dX10_kerfNow_60 : decode cX10_kerfNow 60 = .ok (.ifCond .eq 25, 3) := by decide +kernel
theorem dX10_kerfNow_63 : decode cX10_kerfNow 63 = .ok (.aload_n 0, 1) := by decide +kernel
theorem dX10_kerfNow_64 : decode cX10_kerfNow 64 = .ok (.getfield 13, 3) := by decide +kernel
theorem dX10_kerfNow_67 : decode cX10_kerfNow 67 = .ok (.iload_n 3, 1) := by decide +kernel
theorem dX10_kerfNow_68 : decode cX10_kerfNow 68 = .ok (.iaload, 1) := by decide +kernel
theorem dX10_kerfNow_69 : decode cX10_kerfNow 69 = .ok (.ifCond .le 16, 3) := by decide +kernel
theorem dX10_kerfNow_72 : decode cX10_kerfNow 72 = .ok (.iload_n 2, 1) := by decide +kernel
theorem dX10_kerfNow_73 : decode cX10_kerfNow 73 = .ok (.aload_n 0, 1) := by decide +kernel
theorem dX10_kerfNow_74 : decode cX10_kerfNow 74 = .ok (.getfield 16, 3) := by decide +kernel
theorem dX10_kerfNow_77 : decode cX10_kerfNow 77 = .ok (.iload_n 3, 1) := by decide +kernel
theorem dX10_kerfNow_78 : decode cX10_kerfNow 78 = .ok (.iaload, 1) := by decide +kernel
theorem dX10_kerfNow_79 : decode cX10_kerfNow 79 = .ok (.invokestatic 161, 3) := by decide +kernel
theorem dX10_kerfNow_82 : decode cX10_kerfNow 82 = .ok (.goto 4, 3) := by decide +kernel
theorem dX10_kerfNow_85 : decode cX10_kerfNow 85 = .ok (.iload_n 2, 1) := by decide +kernel
theorem dX10_kerfNow_86 : decode cX10_kerfNow 86 = .ok (.istore_n 2, 1) := by decide +kernel
theorem dX10_kerfNow_87 : decode cX10_kerfNow 87 = .ok (.iinc 3 1, 3) := by decide +kernel
theorem dX10_kerfNow_90 : decode cX10_kerfNow 90 = .ok (.goto (-84), 3) := by decide +kernel
theorem dX10_kerfNow_93 : decode cX10_kerfNow 93 = .ok (.iconst 1, 1) := by decide +kernel
theorem dX10_kerfNow_94 : decode cX10_kerfNow 94 = .ok (.iload_n 1, 1) := by decide +kernel
theorem dX10_kerfNow_95 : decode cX10_kerfNow 95 = .ok (.iadd, 1) := by decide +kernel
theorem dX10_kerfNow_96 : decode cX10_kerfNow 96 = .ok (.iload_n 2, 1) := by decide +kernel
theorem dX10_kerfNow_97 : decode cX10_kerfNow 97 = .ok (.iadd, 1) := by decide +kernel
theorem dX10_kerfNow_98 : decode cX10_kerfNow 98 = .ok (.ireturn, 1) := by decide +kernel
theorem dX10_ofSaw_0 : decode cX10_ofSaw 0 = .ok (.iload_n 1, 1) := by decide +kernel
theorem dX10_ofSaw_1 : decode cX10_ofSaw 1 = .ok (.i2l, 1) := by decide +kernel
theorem dX10_ofSaw_2 : decode cX10_ofSaw 2 = .ok (.lconst 0, 1) := by decide +kernel
theorem dX10_ofSaw_3 : decode cX10_ofSaw 3 = .ok (.ldc2_w 103, 3) := by decide +kernel
theorem dX10_ofSaw_6 : decode cX10_ofSaw 6 = .ok (.invokestatic 105, 3) := by decide +kernel
theorem dX10_ofSaw_9 : decode cX10_ofSaw 9 = .ok (.ifCond .ne 6, 3) := by decide +kernel
theorem dX10_ofSaw_12 : decode cX10_ofSaw 12 = .ok (.bipush (-2), 2) := by decide +kernel
theorem dX10_ofSaw_14 : decode cX10_ofSaw 14 = .ok (.ireturn, 1) := by decide +kernel
theorem dX10_ofSaw_15 : decode cX10_ofSaw 15 = .ok (.aload_n 0, 1) := by decide +kernel
theorem dX10_ofSaw_16 : decode cX10_ofSaw 16 = .ok (.getfield 116, 3) := by decide +kernel
theorem dX10_ofSaw_19 : decode cX10_ofSaw 19 = .ok (.ifCond .ne 6, 3) := by decide +kernel
theorem dX10_ofSaw_22 : decode cX10_ofSaw 22 = .ok (.bipush (-3), 2) := by decide +kernel
theorem dX10_ofSaw_24 : decode cX10_ofSaw 24 = .ok (.ireturn, 1) := by decide +kernel
theorem dX10_ofSaw_25 : decode cX10_ofSaw 25 = .ok (.iconst 0, 1) := by decide +kernel
theorem dX10_ofSaw_26 : decode cX10_ofSaw 26 = .ok (.istore_n 2, 1) := by decide +kernel
theorem dX10_ofSaw_27 : decode cX10_ofSaw 27 = .ok (.iconst 0, 1) := by decide +kernel
theorem dX10_ofSaw_28 : decode cX10_ofSaw 28 = .ok (.istore_n 3, 1) := by decide +kernel
theorem dX10_ofSaw_29 : decode cX10_ofSaw 29 = .ok (.iload_n 3, 1) := by decide +kernel
theorem dX10_ofSaw_30 : decode cX10_ofSaw 30 = .ok (.aload_n 0, 1) := by decide +kernel
theorem dX10_ofSaw_31 : decode cX10_ofSaw 31 = .ok (.getfield 116, 3) := by decide +kernel
theorem dX10_ofSaw_34 : decode cX10_ofSaw 34 = .ok (.if_icmp .ge 17, 3) := by decide +kernel
theorem dX10_ofSaw_37 : decode cX10_ofSaw 37 = .ok (.iload_n 2, 1) := by decide +kernel
theorem dX10_ofSaw_38 : decode cX10_ofSaw 38 = .ok (.aload_n 0, 1) := by decide +kernel
theorem dX10_ofSaw_39 : decode cX10_ofSaw 39 = .ok (.iload_n 3, 1) := by decide +kernel
theorem dX10_ofSaw_40 : decode cX10_ofSaw 40 = .ok (.invokevirtual 148, 3) := by decide +kernel
theorem dX10_ofSaw_43 : decode cX10_ofSaw 43 = .ok (.iadd, 1) := by decide +kernel
theorem dX10_ofSaw_44 : decode cX10_ofSaw 44 = .ok (.istore_n 2, 1) := by decide +kernel
theorem dX10_ofSaw_45 : decode cX10_ofSaw 45 = .ok (.iinc 3 1, 3) := by decide +kernel
theorem dX10_ofSaw_48 : decode cX10_ofSaw 48 = .ok (.goto (-19), 3) := by decide +kernel
theorem dX10_ofSaw_51 : decode cX10_ofSaw 51 = .ok (.iload_n 1, 1) := by decide +kernel
theorem dX10_ofSaw_52 : decode cX10_ofSaw 52 = .ok (.ifCond .ne 10, 3) := by decide +kernel
theorem dX10_ofSaw_55 : decode cX10_ofSaw 55 = .ok (.aload_n 0, 1) := by decide +kernel
theorem dX10_ofSaw_56 : decode cX10_ofSaw 56 = .ok (.invokevirtual 165, 3) := by decide +kernel
theorem dX10_ofSaw_59 : decode cX10_ofSaw 59 = .ok (.goto 16, 3) := by decide +kernel
theorem dX10_ofSaw_62 : decode cX10_ofSaw 62 = .ok (.iload_n 1, 1) := by decide +kernel
theorem dX10_ofSaw_63 : decode cX10_ofSaw 63 = .ok (.iconst 1, 1) := by decide +kernel
theorem dX10_ofSaw_64 : decode cX10_ofSaw 64 = .ok (.if_icmp .ne 10, 3) := by decide +kernel
theorem dX10_ofSaw_67 : decode cX10_ofSaw 67 = .ok (.aload_n 0, 1) := by decide +kernel
theorem dX10_ofSaw_68 : decode cX10_ofSaw 68 = .ok (.invokevirtual 169, 3) := by decide +kernel
theorem dX10_ofSaw_71 : decode cX10_ofSaw 71 = .ok (.goto 4, 3) := by decide +kernel
theorem dX10_ofSaw_74 : decode cX10_ofSaw 74 = .ok (.iload_n 2, 1) := by decide +kernel
theorem dX10_ofSaw_75 : decode cX10_ofSaw 75 = .ok (.ireturn, 1) := by decide +kernel
theorem dX10_noLine_0 : decode cX10_noLine 0 = .ok (.iload_n 1, 1) := by decide +kernel
theorem dX10_noLine_1 : decode cX10_noLine 1 = .ok (.i2l, 1) := by decide +kernel
theorem dX10_noLine_2 : decode cX10_noLine 2 = .ok (.lconst 0, 1) := by decide +kernel
theorem dX10_noLine_3 : decode cX10_noLine 3 = .ok (.aload_n 0, 1) := by decide +kernel
theorem dX10_noLine_4 : decode cX10_noLine 4 = .ok (.getfield 172, 3) := by decide +kernel
theorem dX10_noLine_7 : decode cX10_noLine 7 = .ok (.i2l, 1) := by decide +kernel
theorem dX10_noLine_8 : decode cX10_noLine 8 = .ok (.lconst 1, 1) := by decide +kernel
theorem dX10_noLine_9 : decode cX10_noLine 9 = .ok (.lsub, 1) := by decide +kernel
theorem dX10_noLine_10 : decode cX10_noLine 10 = .ok (.invokestatic 105, 3) := by decide +kernel
theorem dX10_noLine_13 : decode cX10_noLine 13 = .ok (.ifCond .ne 7, 3) := by decide +kernel
theorem dX10_noLine_16 : decode cX10_noLine 16 = .ok (.iconst 1, 1) := by decide +kernel
theorem dX10_noLine_17 : decode cX10_noLine 17 = .ok (.goto 4, 3) := by decide +kernel
theorem dX10_noLine_20 : decode cX10_noLine 20 = .ok (.iconst 0, 1) := by decide +kernel
theorem dX10_noLine_21 : decode cX10_noLine 21 = .ok (.ireturn, 1) := by decide +kernel
theorem dX10_readsBoard_0 : decode cX10_readsBoard 0 = .ok (.aload_n 0, 1) := by decide +kernel
theorem dX10_readsBoard_1 : decode cX10_readsBoard 1 = .ok (.iconst 0, 1) := by decide +kernel
theorem dX10_readsBoard_2 : decode cX10_readsBoard 2 = .ok (.putfield 119, 3) := by decide +kernel
theorem dX10_readsBoard_5 : decode cX10_readsBoard 5 = .ok (.aload_n 0, 1) := by decide +kernel
theorem dX10_readsBoard_6 : decode cX10_readsBoard 6 = .ok (.iconst 0, 1) := by decide +kernel
theorem dX10_readsBoard_7 : decode cX10_readsBoard 7 = .ok (.putfield 124, 3) := by decide +kernel
theorem dX10_readsBoard_10 : decode cX10_readsBoard 10 = .ok (.aload_n 0, 1) := by decide +kernel
theorem dX10_readsBoard_11 : decode cX10_readsBoard 11 = .ok (.getfield 124, 3) := by decide +kernel
theorem dX10_readsBoard_14 : decode cX10_readsBoard 14 = .ok (.ifCond .eq 11, 3) := by decide +kernel
theorem dX10_readsBoard_17 : decode cX10_readsBoard 17 = .ok (.aload_n 0, 1) := by decide +kernel
theorem dX10_readsBoard_18 : decode cX10_readsBoard 18 = .ok (.getfield 119, 3) := by decide +kernel
theorem dX10_readsBoard_21 : decode cX10_readsBoard 21 = .ok (.iload_n 2, 1) := by decide +kernel
theorem dX10_readsBoard_22 : decode cX10_readsBoard 22 = .ok (.if_icmp .ge 237, 3) := by decide +kernel
theorem dX10_readsBoard_25 : decode cX10_readsBoard 25 = .ok (.aload_n 0, 1) := by decide +kernel
theorem dX10_readsBoard_26 : decode cX10_readsBoard 26 = .ok (.getfield 119, 3) := by decide +kernel
theorem dX10_readsBoard_29 : decode cX10_readsBoard 29 = .ok (.iload_n 2, 1) := by decide +kernel
theorem dX10_readsBoard_30 : decode cX10_readsBoard 30 = .ok (.if_icmp .ge 20, 3) := by decide +kernel
theorem dX10_readsBoard_33 : decode cX10_readsBoard 33 = .ok (.aload_n 0, 1) := by decide +kernel
theorem dX10_readsBoard_34 : decode cX10_readsBoard 34 = .ok (.getfield 79, 3) := by decide +kernel
theorem dX10_readsBoard_37 : decode cX10_readsBoard 37 = .ok (.iload_n 1, 1) := by decide +kernel
theorem dX10_readsBoard_38 : decode cX10_readsBoard 38 = .ok (.aload_n 0, 1) := by decide +kernel
theorem dX10_readsBoard_39 : decode cX10_readsBoard 39 = .ok (.getfield 119, 3) := by decide +kernel
theorem dX10_readsBoard_42 : decode cX10_readsBoard 42 = .ok (.iadd, 1) := by decide +kernel
theorem dX10_readsBoard_43 : decode cX10_readsBoard 43 = .ok (.iaload, 1) := by decide +kernel
theorem dX10_readsBoard_44 : decode cX10_readsBoard 44 = .ok (.bipush 48, 2) := by decide +kernel
theorem dX10_readsBoard_46 : decode cX10_readsBoard 46 = .ok (.isub, 1) := by decide +kernel
theorem dX10_readsBoard_47 : decode cX10_readsBoard 47 = .ok (.goto 5, 3) := by decide +kernel
theorem dX10_readsBoard_50 : decode cX10_readsBoard 50 = .ok (.bipush (-9), 2) := by decide +kernel
theorem dX10_readsBoard_52 : decode cX10_readsBoard 52 = .ok (.istore_n 3, 1) := by decide +kernel
theorem dX10_readsBoard_53 : decode cX10_readsBoard 53 = .ok (.aload_n 0, 1) := by decide +kernel
theorem dX10_readsBoard_54 : decode cX10_readsBoard 54 = .ok (.getfield 124, 3) := by decide +kernel
theorem dX10_readsBoard_57 : decode cX10_readsBoard 57 = .ok (.bipush 24, 2) := by decide +kernel
theorem dX10_readsBoard_59 : decode cX10_readsBoard 59 = .ok (.if_icmp .eq 15, 3) := by decide +kernel
theorem dX10_readsBoard_62 : decode cX10_readsBoard 62 = .ok (.iload_n 3, 1) := by decide +kernel
theorem dX10_readsBoard_63 : decode cX10_readsBoard 63 = .ok (.i2l, 1) := by decide +kernel
theorem dX10_readsBoard_64 : decode cX10_readsBoard 64 = .ok (.lconst 1, 1) := by decide +kernel
theorem dX10_readsBoard_65 : decode cX10_readsBoard 65 = .ok (.ldc2_w 122, 3) := by decide +kernel
theorem dX10_readsBoard_68 : decode cX10_readsBoard 68 = .ok (.invokestatic 105, 3) := by decide +kernel
theorem dX10_readsBoard_71 : decode cX10_readsBoard 71 = .ok (.ifCond .ne 5, 3) := by decide +kernel
theorem dX10_readsBoard_74 : decode cX10_readsBoard 74 = .ok (.iconst 0, 1) := by decide +kernel
theorem dX10_readsBoard_75 : decode cX10_readsBoard 75 = .ok (.ireturn, 1) := by decide +kernel
theorem dX10_readsBoard_76 : decode cX10_readsBoard 76 = .ok (.aload_n 0, 1) := by decide +kernel
theorem dX10_readsBoard_77 : decode cX10_readsBoard 77 = .ok (.getfield 119, 3) := by decide +kernel
theorem dX10_readsBoard_80 : decode cX10_readsBoard 80 = .ok (.iconst 1, 1) := by decide +kernel
theorem dX10_readsBoard_81 : decode cX10_readsBoard 81 = .ok (.iadd, 1) := by decide +kernel
theorem dX10_readsBoard_82 : decode cX10_readsBoard 82 = .ok (.iload_n 2, 1) := by decide +kernel
theorem dX10_readsBoard_83 : decode cX10_readsBoard 83 = .ok (.if_icmp .ge 22, 3) := by decide +kernel
theorem dX10_readsBoard_86 : decode cX10_readsBoard 86 = .ok (.aload_n 0, 1) := by decide +kernel
theorem dX10_readsBoard_87 : decode cX10_readsBoard 87 = .ok (.getfield 79, 3) := by decide +kernel
theorem dX10_readsBoard_90 : decode cX10_readsBoard 90 = .ok (.iload_n 1, 1) := by decide +kernel
theorem dX10_readsBoard_91 : decode cX10_readsBoard 91 = .ok (.aload_n 0, 1) := by decide +kernel
theorem dX10_readsBoard_92 : decode cX10_readsBoard 92 = .ok (.getfield 119, 3) := by decide +kernel
theorem dX10_readsBoard_95 : decode cX10_readsBoard 95 = .ok (.iadd, 1) := by decide +kernel
theorem dX10_readsBoard_96 : decode cX10_readsBoard 96 = .ok (.iconst 1, 1) := by decide +kernel
theorem dX10_readsBoard_97 : decode cX10_readsBoard 97 = .ok (.iadd, 1) := by decide +kernel
theorem dX10_readsBoard_98 : decode cX10_readsBoard 98 = .ok (.iaload, 1) := by decide +kernel
theorem dX10_readsBoard_99 : decode cX10_readsBoard 99 = .ok (.bipush 48, 2) := by decide +kernel
theorem dX10_readsBoard_101 : decode cX10_readsBoard 101 = .ok (.isub, 1) := by decide +kernel
theorem dX10_readsBoard_102 : decode cX10_readsBoard 102 = .ok (.goto 5, 3) := by decide +kernel
theorem dX10_readsBoard_105 : decode cX10_readsBoard 105 = .ok (.bipush (-9), 2) := by decide +kernel
theorem dX10_readsBoard_107 : decode cX10_readsBoard 107 = .ok (.istore 4, 2) := by decide +kernel
theorem dX10_readsBoard_109 : decode cX10_readsBoard 109 = .ok (.iload 4, 2) := by decide +kernel
theorem dX10_readsBoard_111 : decode cX10_readsBoard 111 = .ok (.i2l, 1) := by decide +kernel
theorem dX10_readsBoard_112 : decode cX10_readsBoard 112 = .ok (.lconst 0, 1) := by decide +kernel
theorem dX10_readsBoard_113 : decode cX10_readsBoard 113 = .ok (.ldc2_w 175, 3) := by decide +kernel
theorem dX10_readsBoard_116 : decode cX10_readsBoard 116 = .ok (.invokestatic 105, 3) := by decide +kernel
theorem dX10_readsBoard_119 : decode cX10_readsBoard 119 = .ok (.ifCond .ne 15, 3) := by decide +kernel
theorem dX10_readsBoard_122 : decode cX10_readsBoard 122 = .ok (.aload_n 0, 1) := by decide +kernel
theorem dX10_readsBoard_123 : decode cX10_readsBoard 123 = .ok (.dup, 1) := by decide +kernel
theorem dX10_readsBoard_124 : decode cX10_readsBoard 124 = .ok (.getfield 119, 3) := by decide +kernel
theorem dX10_readsBoard_127 : decode cX10_readsBoard 127 = .ok (.iconst 1, 1) := by decide +kernel
theorem dX10_readsBoard_128 : decode cX10_readsBoard 128 = .ok (.iadd, 1) := by decide +kernel
theorem dX10_readsBoard_129 : decode cX10_readsBoard 129 = .ok (.putfield 119, 3) := by decide +kernel
theorem dX10_readsBoard_132 : decode cX10_readsBoard 132 = .ok (.iconst 0, 1) := by decide +kernel
theorem dX10_readsBoard_133 : decode cX10_readsBoard 133 = .ok (.ireturn, 1) := by decide +kernel
theorem dX10_readsBoard_134 : decode cX10_readsBoard 134 = .ok (.aload_n 0, 1) := by decide +kernel
theorem dX10_readsBoard_135 : decode cX10_readsBoard 135 = .ok (.getfield 119, 3) := by decide +kernel
theorem dX10_readsBoard_138 : decode cX10_readsBoard 138 = .ok (.iconst 2, 1) := by decide +kernel
theorem dX10_readsBoard_139 : decode cX10_readsBoard 139 = .ok (.iadd, 1) := by decide +kernel
theorem dX10_readsBoard_140 : decode cX10_readsBoard 140 = .ok (.iload_n 2, 1) := by decide +kernel
theorem dX10_readsBoard_141 : decode cX10_readsBoard 141 = .ok (.if_icmp .ge 22, 3) := by decide +kernel
theorem dX10_readsBoard_144 : decode cX10_readsBoard 144 = .ok (.aload_n 0, 1) := by decide +kernel
theorem dX10_readsBoard_145 : decode cX10_readsBoard 145 = .ok (.getfield 79, 3) := by decide +kernel
theorem dX10_readsBoard_148 : decode cX10_readsBoard 148 = .ok (.iload_n 1, 1) := by decide +kernel
theorem dX10_readsBoard_149 : decode cX10_readsBoard 149 = .ok (.aload_n 0, 1) := by decide +kernel
theorem dX10_readsBoard_150 : decode cX10_readsBoard 150 = .ok (.getfield 119, 3) := by decide +kernel
theorem dX10_readsBoard_153 : decode cX10_readsBoard 153 = .ok (.iadd, 1) := by decide +kernel
theorem dX10_readsBoard_154 : decode cX10_readsBoard 154 = .ok (.iconst 2, 1) := by decide +kernel
theorem dX10_readsBoard_155 : decode cX10_readsBoard 155 = .ok (.iadd, 1) := by decide +kernel
theorem dX10_readsBoard_156 : decode cX10_readsBoard 156 = .ok (.iaload, 1) := by decide +kernel
theorem dX10_readsBoard_157 : decode cX10_readsBoard 157 = .ok (.bipush 48, 2) := by decide +kernel
theorem dX10_readsBoard_159 : decode cX10_readsBoard 159 = .ok (.isub, 1) := by decide +kernel
theorem dX10_readsBoard_160 : decode cX10_readsBoard 160 = .ok (.goto 5, 3) := by decide +kernel
theorem dX10_readsBoard_163 : decode cX10_readsBoard 163 = .ok (.bipush (-9), 2) := by decide +kernel
theorem dX10_readsBoard_165 : decode cX10_readsBoard 165 = .ok (.istore 5, 2) := by decide +kernel
theorem dX10_readsBoard_167 : decode cX10_readsBoard 167 = .ok (.iload 5, 2) := by decide +kernel
theorem dX10_readsBoard_169 : decode cX10_readsBoard 169 = .ok (.i2l, 1) := by decide +kernel
theorem dX10_readsBoard_170 : decode cX10_readsBoard 170 = .ok (.lconst 0, 1) := by decide +kernel
theorem dX10_readsBoard_171 : decode cX10_readsBoard 171 = .ok (.ldc2_w 122, 3) := by decide +kernel
theorem dX10_readsBoard_174 : decode cX10_readsBoard 174 = .ok (.invokestatic 105, 3) := by decide +kernel
theorem dX10_readsBoard_177 : decode cX10_readsBoard 177 = .ok (.ifCond .ne 15, 3) := by decide +kernel
theorem dX10_readsBoard_180 : decode cX10_readsBoard 180 = .ok (.aload_n 0, 1) := by decide +kernel
theorem dX10_readsBoard_181 : decode cX10_readsBoard 181 = .ok (.dup, 1) := by decide +kernel
theorem dX10_readsBoard_182 : decode cX10_readsBoard 182 = .ok (.getfield 119, 3) := by decide +kernel
theorem dX10_readsBoard_185 : decode cX10_readsBoard 185 = .ok (.iconst 2, 1) := by decide +kernel
theorem dX10_readsBoard_186 : decode cX10_readsBoard 186 = .ok (.iadd, 1) := by decide +kernel
theorem dX10_readsBoard_187 : decode cX10_readsBoard 187 = .ok (.putfield 119, 3) := by decide +kernel
theorem dX10_readsBoard_190 : decode cX10_readsBoard 190 = .ok (.iconst 0, 1) := by decide +kernel
theorem dX10_readsBoard_191 : decode cX10_readsBoard 191 = .ok (.ireturn, 1) := by decide +kernel
theorem dX10_readsBoard_192 : decode cX10_readsBoard 192 = .ok (.aload_n 0, 1) := by decide +kernel
theorem dX10_readsBoard_193 : decode cX10_readsBoard 193 = .ok (.getfield 31, 3) := by decide +kernel
theorem dX10_readsBoard_196 : decode cX10_readsBoard 196 = .ok (.iconst 3, 1) := by decide +kernel
theorem dX10_readsBoard_197 : decode cX10_readsBoard 197 = .ok (.aload_n 0, 1) := by decide +kernel
theorem dX10_readsBoard_198 : decode cX10_readsBoard 198 = .ok (.getfield 124, 3) := by decide +kernel
theorem dX10_readsBoard_201 : decode cX10_readsBoard 201 = .ok (.imul, 1) := by decide +kernel
theorem dX10_readsBoard_202 : decode cX10_readsBoard 202 = .ok (.iload_n 3, 1) := by decide +kernel
theorem dX10_readsBoard_203 : decode cX10_readsBoard 203 = .ok (.iastore, 1) := by decide +kernel
theorem dX10_readsBoard_204 : decode cX10_readsBoard 204 = .ok (.aload_n 0, 1) := by decide +kernel
theorem dX10_readsBoard_205 : decode cX10_readsBoard 205 = .ok (.getfield 31, 3) := by decide +kernel
theorem dX10_readsBoard_208 : decode cX10_readsBoard 208 = .ok (.iconst 3, 1) := by decide +kernel
theorem dX10_readsBoard_209 : decode cX10_readsBoard 209 = .ok (.aload_n 0, 1) := by decide +kernel
theorem dX10_readsBoard_210 : decode cX10_readsBoard 210 = .ok (.getfield 124, 3) := by decide +kernel
theorem dX10_readsBoard_213 : decode cX10_readsBoard 213 = .ok (.imul, 1) := by decide +kernel
theorem dX10_readsBoard_214 : decode cX10_readsBoard 214 = .ok (.iconst 1, 1) := by decide +kernel
theorem dX10_readsBoard_215 : decode cX10_readsBoard 215 = .ok (.iadd, 1) := by decide +kernel
theorem dX10_readsBoard_216 : decode cX10_readsBoard 216 = .ok (.iload 4, 2) := by decide +kernel
theorem dX10_readsBoard_218 : decode cX10_readsBoard 218 = .ok (.iconst 4, 1) := by decide +kernel
theorem dX10_readsBoard_219 : decode cX10_readsBoard 219 = .ok (.isub, 1) := by decide +kernel
theorem dX10_readsBoard_220 : decode cX10_readsBoard 220 = .ok (.iastore, 1) := by decide +kernel
theorem dX10_readsBoard_221 : decode cX10_readsBoard 221 = .ok (.aload_n 0, 1) := by decide +kernel
theorem dX10_readsBoard_222 : decode cX10_readsBoard 222 = .ok (.getfield 31, 3) := by decide +kernel
theorem dX10_readsBoard_225 : decode cX10_readsBoard 225 = .ok (.iconst 3, 1) := by decide +kernel
theorem dX10_readsBoard_226 : decode cX10_readsBoard 226 = .ok (.aload_n 0, 1) := by decide +kernel
theorem dX10_readsBoard_227 : decode cX10_readsBoard 227 = .ok (.getfield 124, 3) := by decide +kernel
theorem dX10_readsBoard_230 : decode cX10_readsBoard 230 = .ok (.imul, 1) := by decide +kernel
theorem dX10_readsBoard_231 : decode cX10_readsBoard 231 = .ok (.iconst 2, 1) := by decide +kernel
theorem dX10_readsBoard_232 : decode cX10_readsBoard 232 = .ok (.iadd, 1) := by decide +kernel
theorem dX10_readsBoard_233 : decode cX10_readsBoard 233 = .ok (.iload 5, 2) := by decide +kernel
theorem dX10_readsBoard_235 : decode cX10_readsBoard 235 = .ok (.iastore, 1) := by decide +kernel
theorem dX10_readsBoard_236 : decode cX10_readsBoard 236 = .ok (.aload_n 0, 1) := by decide +kernel
theorem dX10_readsBoard_237 : decode cX10_readsBoard 237 = .ok (.dup, 1) := by decide +kernel
theorem dX10_readsBoard_238 : decode cX10_readsBoard 238 = .ok (.getfield 119, 3) := by decide +kernel
theorem dX10_readsBoard_241 : decode cX10_readsBoard 241 = .ok (.iconst 3, 1) := by decide +kernel
theorem dX10_readsBoard_242 : decode cX10_readsBoard 242 = .ok (.iadd, 1) := by decide +kernel
theorem dX10_readsBoard_243 : decode cX10_readsBoard 243 = .ok (.putfield 119, 3) := by decide +kernel
theorem dX10_readsBoard_246 : decode cX10_readsBoard 246 = .ok (.aload_n 0, 1) := by decide +kernel
theorem dX10_readsBoard_247 : decode cX10_readsBoard 247 = .ok (.dup, 1) := by decide +kernel
theorem dX10_readsBoard_248 : decode cX10_readsBoard 248 = .ok (.getfield 124, 3) := by decide +kernel
theorem dX10_readsBoard_251 : decode cX10_readsBoard 251 = .ok (.iconst 1, 1) := by decide +kernel
theorem dX10_readsBoard_252 : decode cX10_readsBoard 252 = .ok (.iadd, 1) := by decide +kernel
theorem dX10_readsBoard_253 : decode cX10_readsBoard 253 = .ok (.putfield 124, 3) := by decide +kernel
theorem dX10_readsBoard_256 : decode cX10_readsBoard 256 = .ok (.goto (-246), 3) := by decide +kernel
theorem dX10_readsBoard_259 : decode cX10_readsBoard 259 = .ok (.iconst 1, 1) := by decide +kernel
theorem dX10_readsBoard_260 : decode cX10_readsBoard 260 = .ok (.ireturn, 1) := by decide +kernel
theorem dX10_board_0 : decode cX10_board 0 = .ok (.aload_n 0, 1) := by decide +kernel
theorem dX10_board_1 : decode cX10_board 1 = .ok (.iload_n 1, 1) := by decide +kernel
theorem dX10_board_2 : decode cX10_board 2 = .ok (.iload_n 2, 1) := by decide +kernel
theorem dX10_board_3 : decode cX10_board 3 = .ok (.iload_n 3, 1) := by decide +kernel
theorem dX10_board_4 : decode cX10_board 4 = .ok (.iload 4, 2) := by decide +kernel
theorem dX10_board_6 : decode cX10_board 6 = .ok (.i2l, 1) := by decide +kernel
theorem dX10_board_7 : decode cX10_board 7 = .ok (.invokevirtual 134, 3) := by decide +kernel
theorem dX10_board_10 : decode cX10_board 10 = .ok (.istore 5, 2) := by decide +kernel
theorem dX10_board_12 : decode cX10_board 12 = .ok (.iload 5, 2) := by decide +kernel
theorem dX10_board_14 : decode cX10_board 14 = .ok (.ifCond .ge 6, 3) := by decide +kernel
theorem dX10_board_17 : decode cX10_board 17 = .ok (.iload 5, 2) := by decide +kernel
theorem dX10_board_19 : decode cX10_board 19 = .ok (.ireturn, 1) := by decide +kernel
theorem dX10_board_20 : decode cX10_board 20 = .ok (.aload_n 0, 1) := by decide +kernel
theorem dX10_board_21 : decode cX10_board 21 = .ok (.bipush 80, 2) := by decide +kernel
theorem dX10_board_23 : decode cX10_board 23 = .ok (.iload_n 1, 1) := by decide +kernel
theorem dX10_board_24 : decode cX10_board 24 = .ok (.imul, 1) := by decide +kernel
theorem dX10_board_25 : decode cX10_board 25 = .ok (.iload_n 3, 1) := by decide +kernel
theorem dX10_board_26 : decode cX10_board 26 = .ok (.iadd, 1) := by decide +kernel
theorem dX10_board_27 : decode cX10_board 27 = .ok (.iload 4, 2) := by decide +kernel
theorem dX10_board_29 : decode cX10_board 29 = .ok (.invokevirtual 177, 3) := by decide +kernel
theorem dX10_board_32 : decode cX10_board 32 = .ok (.ifCond .ne 15, 3) := by decide +kernel
theorem dX10_board_35 : decode cX10_board 35 = .ok (.aload_n 0, 1) := by decide +kernel
theorem dX10_board_36 : decode cX10_board 36 = .ok (.bipush (-100), 2) := by decide +kernel
theorem dX10_board_38 : decode cX10_board 38 = .ok (.aload_n 0, 1) := by decide +kernel
theorem dX10_board_39 : decode cX10_board 39 = .ok (.getfield 119, 3) := by decide +kernel
theorem dX10_board_42 : decode cX10_board 42 = .ok (.isub, 1) := by decide +kernel
theorem dX10_board_43 : decode cX10_board 43 = .ok (.invokevirtual 99, 3) := by decide +kernel
theorem dX10_board_46 : decode cX10_board 46 = .ok (.ireturn, 1) := by decide +kernel
theorem dX10_board_47 : decode cX10_board 47 = .ok (.aload_n 0, 1) := by decide +kernel
theorem dX10_board_48 : decode cX10_board 48 = .ok (.aload_n 0, 1) := by decide +kernel
theorem dX10_board_49 : decode cX10_board 49 = .ok (.getfield 124, 3) := by decide +kernel
theorem dX10_board_52 : decode cX10_board 52 = .ok (.putfield 172, 3) := by decide +kernel
theorem dX10_board_55 : decode cX10_board 55 = .ok (.iconst 0, 1) := by decide +kernel
theorem dX10_board_56 : decode cX10_board 56 = .ok (.istore 6, 2) := by decide +kernel
theorem dX10_board_58 : decode cX10_board 58 = .ok (.iload 6, 2) := by decide +kernel
theorem dX10_board_60 : decode cX10_board 60 = .ok (.aload_n 0, 1) := by decide +kernel
theorem dX10_board_61 : decode cX10_board 61 = .ok (.getfield 172, 3) := by decide +kernel
theorem dX10_board_64 : decode cX10_board 64 = .ok (.if_icmp .ge 61, 3) := by decide +kernel
theorem dX10_board_67 : decode cX10_board 67 = .ok (.aload_n 0, 1) := by decide +kernel
theorem dX10_board_68 : decode cX10_board 68 = .ok (.getfield 34, 3) := by decide +kernel
theorem dX10_board_71 : decode cX10_board 71 = .ok (.iload 6, 2) := by decide +kernel
theorem dX10_board_73 : decode cX10_board 73 = .ok (.aload_n 0, 1) := by decide +kernel
theorem dX10_board_74 : decode cX10_board 74 = .ok (.getfield 31, 3) := by decide +kernel
theorem dX10_board_77 : decode cX10_board 77 = .ok (.iconst 3, 1) := by decide +kernel
theorem dX10_board_78 : decode cX10_board 78 = .ok (.iload 6, 2) := by decide +kernel
theorem dX10_board_80 : decode cX10_board 80 = .ok (.imul, 1) := by decide +kernel
theorem dX10_board_81 : decode cX10_board 81 = .ok (.iaload, 1) := by decide +kernel
theorem dX10_board_82 : decode cX10_board 82 = .ok (.iastore, 1) := by decide +kernel
theorem dX10_board_83 : decode cX10_board 83 = .ok (.aload_n 0, 1) := by decide +kernel
theorem dX10_board_84 : decode cX10_board 84 = .ok (.getfield 37, 3) := by decide +kernel
theorem dX10_board_87 : decode cX10_board 87 = .ok (.iload 6, 2) := by decide +kernel
theorem dX10_board_89 : decode cX10_board 89 = .ok (.aload_n 0, 1) := by decide +kernel
theorem dX10_board_90 : decode cX10_board 90 = .ok (.getfield 31, 3) := by decide +kernel
theorem dX10_board_93 : decode cX10_board 93 = .ok (.iconst 3, 1) := by decide +kernel
theorem dX10_board_94 : decode cX10_board 94 = .ok (.iload 6, 2) := by decide +kernel
theorem dX10_board_96 : decode cX10_board 96 = .ok (.imul, 1) := by decide +kernel
theorem dX10_board_97 : decode cX10_board 97 = .ok (.iconst 1, 1) := by decide +kernel
theorem dX10_board_98 : decode cX10_board 98 = .ok (.iadd, 1) := by decide +kernel
theorem dX10_board_99 : decode cX10_board 99 = .ok (.iaload, 1) := by decide +kernel
theorem dX10_board_100 : decode cX10_board 100 = .ok (.iastore, 1) := by decide +kernel
theorem dX10_board_101 : decode cX10_board 101 = .ok (.aload_n 0, 1) := by decide +kernel
theorem dX10_board_102 : decode cX10_board 102 = .ok (.getfield 40, 3) := by decide +kernel
theorem dX10_board_105 : decode cX10_board 105 = .ok (.iload 6, 2) := by decide +kernel
theorem dX10_board_107 : decode cX10_board 107 = .ok (.aload_n 0, 1) := by decide +kernel
theorem dX10_board_108 : decode cX10_board 108 = .ok (.getfield 31, 3) := by decide +kernel
theorem dX10_board_111 : decode cX10_board 111 = .ok (.iconst 3, 1) := by decide +kernel
theorem dX10_board_112 : decode cX10_board 112 = .ok (.iload 6, 2) := by decide +kernel
theorem dX10_board_114 : decode cX10_board 114 = .ok (.imul, 1) := by decide +kernel
theorem dX10_board_115 : decode cX10_board 115 = .ok (.iconst 2, 1) := by decide +kernel
theorem dX10_board_116 : decode cX10_board 116 = .ok (.iadd, 1) := by decide +kernel
theorem dX10_board_117 : decode cX10_board 117 = .ok (.iaload, 1) := by decide +kernel
theorem dX10_board_118 : decode cX10_board 118 = .ok (.iastore, 1) := by decide +kernel
theorem dX10_board_119 : decode cX10_board 119 = .ok (.iinc 6 1, 3) := by decide +kernel
theorem dX10_board_122 : decode cX10_board 122 = .ok (.goto (-64), 3) := by decide +kernel
theorem dX10_board_125 : decode cX10_board 125 = .ok (.aload_n 0, 1) := by decide +kernel
theorem dX10_board_126 : decode cX10_board 126 = .ok (.iconst 0, 1) := by decide +kernel
theorem dX10_board_127 : decode cX10_board 127 = .ok (.putfield 145, 3) := by decide +kernel
theorem dX10_board_130 : decode cX10_board 130 = .ok (.aload_n 0, 1) := by decide +kernel
theorem dX10_board_131 : decode cX10_board 131 = .ok (.aload_n 0, 1) := by decide +kernel
theorem dX10_board_132 : decode cX10_board 132 = .ok (.getfield 172, 3) := by decide +kernel
theorem dX10_board_135 : decode cX10_board 135 = .ok (.invokevirtual 99, 3) := by decide +kernel
theorem dX10_board_138 : decode cX10_board 138 = .ok (.ireturn, 1) := by decide +kernel
theorem dX10_ofLine_0 : decode cX10_ofLine 0 = .ok (.aload_n 0, 1) := by decide +kernel
theorem dX10_ofLine_1 : decode cX10_ofLine 1 = .ok (.iload_n 1, 1) := by decide +kernel
theorem dX10_ofLine_2 : decode cX10_ofLine 2 = .ok (.invokevirtual 180, 3) := by decide +kernel
theorem dX10_ofLine_5 : decode cX10_ofLine 5 = .ok (.ifCond .eq 5, 3) := by decide +kernel
theorem dX10_ofLine_8 : decode cX10_ofLine 8 = .ok (.iconst (-1), 1) := by decide +kernel
theorem dX10_ofLine_9 : decode cX10_ofLine 9 = .ok (.ireturn, 1) := by decide +kernel
theorem dX10_ofLine_10 : decode cX10_ofLine 10 = .ok (.iload_n 2, 1) := by decide +kernel
theorem dX10_ofLine_11 : decode cX10_ofLine 11 = .ok (.ifCond .ne 12, 3) := by decide +kernel
theorem dX10_ofLine_14 : decode cX10_ofLine 14 = .ok (.aload_n 0, 1) := by decide +kernel
theorem dX10_ofLine_15 : decode cX10_ofLine 15 = .ok (.getfield 34, 3) := by decide +kernel
theorem dX10_ofLine_18 : decode cX10_ofLine 18 = .ok (.iload_n 1, 1) := by decide +kernel
theorem dX10_ofLine_19 : decode cX10_ofLine 19 = .ok (.iaload, 1) := by decide +kernel
theorem dX10_ofLine_20 : decode cX10_ofLine 20 = .ok (.goto 33, 3) := by decide +kernel
theorem dX10_ofLine_23 : decode cX10_ofLine 23 = .ok (.iload_n 2, 1) := by decide +kernel
theorem dX10_ofLine_24 : decode cX10_ofLine 24 = .ok (.iconst 1, 1) := by decide +kernel
theorem dX10_ofLine_25 : decode cX10_ofLine 25 = .ok (.if_icmp .ne 12, 3) := by decide +kernel
theorem dX10_ofLine_28 : decode cX10_ofLine 28 = .ok (.aload_n 0, 1) := by decide +kernel
theorem dX10_ofLine_29 : decode cX10_ofLine 29 = .ok (.getfield 37, 3) := by decide +kernel
theorem dX10_ofLine_32 : decode cX10_ofLine 32 = .ok (.iload_n 1, 1) := by decide +kernel
theorem dX10_ofLine_33 : decode cX10_ofLine 33 = .ok (.iaload, 1) := by decide +kernel
theorem dX10_ofLine_34 : decode cX10_ofLine 34 = .ok (.goto 19, 3) := by decide +kernel
theorem dX10_ofLine_37 : decode cX10_ofLine 37 = .ok (.iload_n 2, 1) := by decide +kernel
theorem dX10_ofLine_38 : decode cX10_ofLine 38 = .ok (.iconst 2, 1) := by decide +kernel
theorem dX10_ofLine_39 : decode cX10_ofLine 39 = .ok (.if_icmp .ne 12, 3) := by decide +kernel
theorem dX10_ofLine_42 : decode cX10_ofLine 42 = .ok (.aload_n 0, 1) := by decide +kernel
theorem dX10_ofLine_43 : decode cX10_ofLine 43 = .ok (.getfield 40, 3) := by decide +kernel
theorem dX10_ofLine_46 : decode cX10_ofLine 46 = .ok (.iload_n 1, 1) := by decide +kernel
theorem dX10_ofLine_47 : decode cX10_ofLine 47 = .ok (.iaload, 1) := by decide +kernel
theorem dX10_ofLine_48 : decode cX10_ofLine 48 = .ok (.goto 5, 3) := by decide +kernel
theorem dX10_ofLine_51 : decode cX10_ofLine 51 = .ok (.bipush (-2), 2) := by decide +kernel
theorem dX10_ofLine_53 : decode cX10_ofLine 53 = .ok (.ireturn, 1) := by decide +kernel
theorem dX10_hand_0 : decode cX10_hand 0 = .ok (.iload_n 1, 1) := by decide +kernel
theorem dX10_hand_1 : decode cX10_hand 1 = .ok (.i2l, 1) := by decide +kernel
theorem dX10_hand_2 : decode cX10_hand 2 = .ok (.ldc2_w 183, 3) := by decide +kernel
theorem dX10_hand_5 : decode cX10_hand 5 = .ok (.ldc2_w 122, 3) := by decide +kernel
theorem dX10_hand_8 : decode cX10_hand 8 = .ok (.invokestatic 105, 3) := by decide +kernel
theorem dX10_hand_11 : decode cX10_hand 11 = .ok (.ifCond .eq 27, 3) := by decide +kernel
theorem dX10_hand_14 : decode cX10_hand 14 = .ok (.iload_n 2, 1) := by decide +kernel
theorem dX10_hand_15 : decode cX10_hand 15 = .ok (.i2l, 1) := by decide +kernel
theorem dX10_hand_16 : decode cX10_hand 16 = .ok (.lconst 0, 1) := by decide +kernel
theorem dX10_hand_17 : decode cX10_hand 17 = .ok (.ldc2_w 122, 3) := by decide +kernel
theorem dX10_hand_20 : decode cX10_hand 20 = .ok (.invokestatic 105, 3) := by decide +kernel
theorem dX10_hand_23 : decode cX10_hand 23 = .ok (.ifCond .eq 15, 3) := by decide +kernel
theorem dX10_hand_26 : decode cX10_hand 26 = .ok (.iload_n 3, 1) := by decide +kernel
theorem dX10_hand_27 : decode cX10_hand 27 = .ok (.i2l, 1) := by decide +kernel
theorem dX10_hand_28 : decode cX10_hand 28 = .ok (.lconst 0, 1) := by decide +kernel
theorem dX10_hand_29 : decode cX10_hand 29 = .ok (.ldc2_w 185, 3) := by decide +kernel
theorem dX10_hand_32 : decode cX10_hand 32 = .ok (.invokestatic 105, 3) := by decide +kernel
theorem dX10_hand_35 : decode cX10_hand 35 = .ok (.ifCond .ne 6, 3) := by decide +kernel
theorem dX10_hand_38 : decode cX10_hand 38 = .ok (.bipush (-2), 2) := by decide +kernel
theorem dX10_hand_40 : decode cX10_hand 40 = .ok (.ireturn, 1) := by decide +kernel
theorem dX10_hand_41 : decode cX10_hand 41 = .ok (.aload_n 0, 1) := by decide +kernel
theorem dX10_hand_42 : decode cX10_hand 42 = .ok (.iload_n 1, 1) := by decide +kernel
theorem dX10_hand_43 : decode cX10_hand 43 = .ok (.putfield 187, 3) := by decide +kernel
theorem dX10_hand_46 : decode cX10_hand 46 = .ok (.aload_n 0, 1) := by decide +kernel
theorem dX10_hand_47 : decode cX10_hand 47 = .ok (.iload_n 2, 1) := by decide +kernel
theorem dX10_hand_48 : decode cX10_hand 48 = .ok (.putfield 190, 3) := by decide +kernel
theorem dX10_hand_51 : decode cX10_hand 51 = .ok (.aload_n 0, 1) := by decide +kernel
theorem dX10_hand_52 : decode cX10_hand 52 = .ok (.iload_n 3, 1) := by decide +kernel
theorem dX10_hand_53 : decode cX10_hand 53 = .ok (.putfield 193, 3) := by decide +kernel
theorem dX10_hand_56 : decode cX10_hand 56 = .ok (.iconst 1, 1) := by decide +kernel
theorem dX10_hand_57 : decode cX10_hand 57 = .ok (.ireturn, 1) := by decide +kernel
theorem dX10_ofHand_0 : decode cX10_ofHand 0 = .ok (.iload_n 1, 1) := by decide +kernel
theorem dX10_ofHand_1 : decode cX10_ofHand 1 = .ok (.ifCond .ne 10, 3) := by decide +kernel
theorem dX10_ofHand_4 : decode cX10_ofHand 4 = .ok (.aload_n 0, 1) := by decide +kernel
theorem dX10_ofHand_5 : decode cX10_ofHand 5 = .ok (.getfield 187, 3) := by decide +kernel
theorem dX10_ofHand_8 : decode cX10_ofHand 8 = .ok (.goto 29, 3) := by decide +kernel
theorem dX10_ofHand_11 : decode cX10_ofHand 11 = .ok (.iload_n 1, 1) := by decide +kernel
theorem dX10_ofHand_12 : decode cX10_ofHand 12 = .ok (.iconst 1, 1) := by decide +kernel
theorem dX10_ofHand_13 : decode cX10_ofHand 13 = .ok (.if_icmp .ne 10, 3) := by decide +kernel
theorem dX10_ofHand_16 : decode cX10_ofHand 16 = .ok (.aload_n 0, 1) := by decide +kernel
theorem dX10_ofHand_17 : decode cX10_ofHand 17 = .ok (.getfield 190, 3) := by decide +kernel
theorem dX10_ofHand_20 : decode cX10_ofHand 20 = .ok (.goto 17, 3) := by decide +kernel
theorem dX10_ofHand_23 : decode cX10_ofHand 23 = .ok (.iload_n 1, 1) := by decide +kernel
theorem dX10_ofHand_24 : decode cX10_ofHand 24 = .ok (.iconst 2, 1) := by decide +kernel
theorem dX10_ofHand_25 : decode cX10_ofHand 25 = .ok (.if_icmp .ne 10, 3) := by decide +kernel
theorem dX10_ofHand_28 : decode cX10_ofHand 28 = .ok (.aload_n 0, 1) := by decide +kernel
theorem dX10_ofHand_29 : decode cX10_ofHand 29 = .ok (.getfield 193, 3) := by decide +kernel
theorem dX10_ofHand_32 : decode cX10_ofHand 32 = .ok (.goto 5, 3) := by decide +kernel
theorem dX10_ofHand_35 : decode cX10_ofHand 35 = .ok (.bipush (-2), 2) := by decide +kernel
theorem dX10_ofHand_37 : decode cX10_ofHand 37 = .ok (.ireturn, 1) := by decide +kernel
theorem dX10_fence_0 : decode cX10_fence 0 = .ok (.iload_n 1, 1) := by decide +kernel
theorem dX10_fence_1 : decode cX10_fence 1 = .ok (.i2l, 1) := by decide +kernel
theorem dX10_fence_2 : decode cX10_fence 2 = .ok (.lconst 0, 1) := by decide +kernel
theorem dX10_fence_3 : decode cX10_fence 3 = .ok (.ldc2_w 196, 3) := by decide +kernel
theorem dX10_fence_6 : decode cX10_fence 6 = .ok (.invokestatic 105, 3) := by decide +kernel
theorem dX10_fence_9 : decode cX10_fence 9 = .ok (.ifCond .ne 6, 3) := by decide +kernel
theorem dX10_fence_12 : decode cX10_fence 12 = .ok (.bipush (-2), 2) := by decide +kernel
theorem dX10_fence_14 : decode cX10_fence 14 = .ok (.ireturn, 1) := by decide +kernel
theorem dX10_fence_15 : decode cX10_fence 15 = .ok (.aload_n 0, 1) := by decide +kernel
theorem dX10_fence_16 : decode cX10_fence 16 = .ok (.getfield 198, 3) := by decide +kernel
theorem dX10_fence_19 : decode cX10_fence 19 = .ok (.istore_n 2, 1) := by decide +kernel
theorem dX10_fence_20 : decode cX10_fence 20 = .ok (.aload_n 0, 1) := by decide +kernel
theorem dX10_fence_21 : decode cX10_fence 21 = .ok (.iload_n 1, 1) := by decide +kernel
theorem dX10_fence_22 : decode cX10_fence 22 = .ok (.putfield 198, 3) := by decide +kernel
theorem dX10_fence_25 : decode cX10_fence 25 = .ok (.iload_n 2, 1) := by decide +kernel
theorem dX10_fence_26 : decode cX10_fence 26 = .ok (.ireturn, 1) := by decide +kernel
theorem dX10_cut_0 : decode cX10_cut 0 = .ok (.aload_n 0, 1) := by decide +kernel
theorem dX10_cut_1 : decode cX10_cut 1 = .ok (.invokevirtual 165, 3) := by decide +kernel
theorem dX10_cut_4 : decode cX10_cut 4 = .ok (.istore_n 1, 1) := by decide +kernel
theorem dX10_cut_5 : decode cX10_cut 5 = .ok (.aload_n 0, 1) := by decide +kernel
theorem dX10_cut_6 : decode cX10_cut 6 = .ok (.invokevirtual 169, 3) := by decide +kernel
theorem dX10_cut_9 : decode cX10_cut 9 = .ok (.istore_n 2, 1) := by decide +kernel
theorem dX10_cut_10 : decode cX10_cut 10 = .ok (.iconst 0, 1) := by decide +kernel
theorem dX10_cut_11 : decode cX10_cut 11 = .ok (.istore_n 3, 1) := by decide +kernel
theorem dX10_cut_12 : decode cX10_cut 12 = .ok (.iconst 0, 1) := by decide +kernel
theorem dX10_cut_13 : decode cX10_cut 13 = .ok (.istore 4, 2) := by decide +kernel
theorem dX10_cut_15 : decode cX10_cut 15 = .ok (.aload_n 0, 1) := by decide +kernel
theorem dX10_cut_16 : decode cX10_cut 16 = .ok (.iconst 0, 1) := by decide +kernel
theorem dX10_cut_17 : decode cX10_cut 17 = .ok (.putfield 201, 3) := by decide +kernel
theorem dX10_cut_20 : decode cX10_cut 20 = .ok (.aload_n 0, 1) := by decide +kernel
theorem dX10_cut_21 : decode cX10_cut 21 = .ok (.iconst 0, 1) := by decide +kernel
theorem dX10_cut_22 : decode cX10_cut 22 = .ok (.putfield 204, 3) := by decide +kernel
theorem dX10_cut_25 : decode cX10_cut 25 = .ok (.iconst 0, 1) := by decide +kernel
theorem dX10_cut_26 : decode cX10_cut 26 = .ok (.istore 5, 2) := by decide +kernel
theorem dX10_cut_28 : decode cX10_cut 28 = .ok (.iload 5, 2) := by decide +kernel
theorem dX10_cut_30 : decode cX10_cut 30 = .ok (.aload_n 0, 1) := by decide +kernel
theorem dX10_cut_31 : decode cX10_cut 31 = .ok (.getfield 172, 3) := by decide +kernel
theorem dX10_cut_34 : decode cX10_cut 34 = .ok (.if_icmp .ge 210, 3) := by decide +kernel
theorem dX10_cut_37 : decode cX10_cut 37 = .ok (.aload_n 0, 1) := by decide +kernel
theorem dX10_cut_38 : decode cX10_cut 38 = .ok (.getfield 116, 3) := by decide +kernel
theorem dX10_cut_41 : decode cX10_cut 41 = .ok (.ifCond .le 203, 3) := by decide +kernel
theorem dX10_cut_44 : decode cX10_cut 44 = .ok (.aload_n 0, 1) := by decide +kernel
theorem dX10_cut_45 : decode cX10_cut 45 = .ok (.getfield 40, 3) := by decide +kernel
theorem dX10_cut_48 : decode cX10_cut 48 = .ok (.iload 5, 2) := by decide +kernel
theorem dX10_cut_50 : decode cX10_cut 50 = .ok (.iaload, 1) := by decide +kernel
theorem dX10_cut_51 : decode cX10_cut 51 = .ok (.iload_n 2, 1) := by decide +kernel
theorem dX10_cut_52 : decode cX10_cut 52 = .ok (.if_icmp .gt 192, 3) := by decide +kernel
theorem dX10_cut_55 : decode cX10_cut 55 = .ok (.iload 5, 2) := by decide +kernel
theorem dX10_cut_57 : decode cX10_cut 57 = .ok (.iconst 1, 1) := by decide +kernel
theorem dX10_cut_58 : decode cX10_cut 58 = .ok (.isub, 1) := by decide +kernel
theorem dX10_cut_59 : decode cX10_cut 59 = .ok (.aload_n 0, 1) := by decide +kernel
theorem dX10_cut_60 : decode cX10_cut 60 = .ok (.getfield 193, 3) := by decide +kernel
theorem dX10_cut_63 : decode cX10_cut 63 = .ok (.isub, 1) := by decide +kernel
theorem dX10_cut_64 : decode cX10_cut 64 = .ok (.istore 6, 2) := by decide +kernel
theorem dX10_cut_66 : decode cX10_cut 66 = .ok (.iload 6, 2) := by decide +kernel
theorem dX10_cut_68 : decode cX10_cut 68 = .ok (.ifCond .ge 7, 3) := by decide +kernel
theorem dX10_cut_71 : decode cX10_cut 71 = .ok (.iconst 0, 1) := by decide +kernel
theorem dX10_cut_72 : decode cX10_cut 72 = .ok (.goto 10, 3) := by decide +kernel
theorem dX10_cut_75 : decode cX10_cut 75 = .ok (.aload_n 0, 1) := by decide +kernel
theorem dX10_cut_76 : decode cX10_cut 76 = .ok (.getfield 43, 3) := by decide +kernel
theorem dX10_cut_79 : decode cX10_cut 79 = .ok (.iload 6, 2) := by decide +kernel
theorem dX10_cut_81 : decode cX10_cut 81 = .ok (.iaload, 1) := by decide +kernel
theorem dX10_cut_82 : decode cX10_cut 82 = .ok (.istore 7, 2) := by decide +kernel
theorem dX10_cut_84 : decode cX10_cut 84 = .ok (.iload 4, 2) := by decide +kernel
theorem dX10_cut_86 : decode cX10_cut 86 = .ok (.iload_n 1, 1) := by decide +kernel
theorem dX10_cut_87 : decode cX10_cut 87 = .ok (.bipush 10, 2) := by decide +kernel
theorem dX10_cut_89 : decode cX10_cut 89 = .ok (.aload_n 0, 1) := by decide +kernel
theorem dX10_cut_90 : decode cX10_cut 90 = .ok (.getfield 34, 3) := by decide +kernel
theorem dX10_cut_93 : decode cX10_cut 93 = .ok (.iload 5, 2) := by decide +kernel
theorem dX10_cut_95 : decode cX10_cut 95 = .ok (.iaload, 1) := by decide +kernel
theorem dX10_cut_96 : decode cX10_cut 96 = .ok (.imul, 1) := by decide +kernel
theorem dX10_cut_97 : decode cX10_cut 97 = .ok (.idiv, 1) := by decide +kernel
theorem dX10_cut_98 : decode cX10_cut 98 = .ok (.aload_n 0, 1) := by decide +kernel
theorem dX10_cut_99 : decode cX10_cut 99 = .ok (.getfield 37, 3) := by decide +kernel
theorem dX10_cut_102 : decode cX10_cut 102 = .ok (.iload 5, 2) := by decide +kernel
theorem dX10_cut_104 : decode cX10_cut 104 = .ok (.iaload, 1) := by decide +kernel
theorem dX10_cut_105 : decode cX10_cut 105 = .ok (.iadd, 1) := by decide +kernel
theorem dX10_cut_106 : decode cX10_cut 106 = .ok (.aload_n 0, 1) := by decide +kernel
theorem dX10_cut_107 : decode cX10_cut 107 = .ok (.getfield 187, 3) := by decide +kernel
theorem dX10_cut_110 : decode cX10_cut 110 = .ok (.iadd, 1) := by decide +kernel
theorem dX10_cut_111 : decode cX10_cut 111 = .ok (.aload_n 0, 1) := by decide +kernel
theorem dX10_cut_112 : decode cX10_cut 112 = .ok (.getfield 190, 3) := by decide +kernel
theorem dX10_cut_115 : decode cX10_cut 115 = .ok (.iload 7, 2) := by decide +kernel
theorem dX10_cut_117 : decode cX10_cut 117 = .ok (.imul, 1) := by decide +kernel
theorem dX10_cut_118 : decode cX10_cut 118 = .ok (.bipush 8, 2) := by decide +kernel
theorem dX10_cut_120 : decode cX10_cut 120 = .ok (.idiv, 1) := by decide +kernel
theorem dX10_cut_121 : decode cX10_cut 121 = .ok (.isub, 1) := by decide +kernel
theorem dX10_cut_122 : decode cX10_cut 122 = .ok (.iadd, 1) := by decide +kernel
theorem dX10_cut_123 : decode cX10_cut 123 = .ok (.istore 4, 2) := by decide +kernel
theorem dX10_cut_125 : decode cX10_cut 125 = .ok (.iload 4, 2) := by decide +kernel
theorem dX10_cut_127 : decode cX10_cut 127 = .ok (.bipush 99, 2) := by decide +kernel
theorem dX10_cut_129 : decode cX10_cut 129 = .ok (.if_icmp .le 8, 3) := by decide +kernel
theorem dX10_cut_132 : decode cX10_cut 132 = .ok (.bipush 99, 2) := by decide +kernel
theorem dX10_cut_134 : decode cX10_cut 134 = .ok (.goto 17, 3) := by decide +kernel
theorem dX10_cut_137 : decode cX10_cut 137 = .ok (.iload 4, 2) := by decide +kernel
theorem dX10_cut_139 : decode cX10_cut 139 = .ok (.bipush (-99), 2) := by decide +kernel
theorem dX10_cut_141 : decode cX10_cut 141 = .ok (.if_icmp .ge 8, 3) := by decide +kernel
theorem dX10_cut_144 : decode cX10_cut 144 = .ok (.bipush (-99), 2) := by decide +kernel
theorem dX10_cut_146 : decode cX10_cut 146 = .ok (.goto 5, 3) := by decide +kernel
theorem dX10_cut_149 : decode cX10_cut 149 = .ok (.iload 4, 2) := by decide +kernel
theorem dX10_cut_151 : decode cX10_cut 151 = .ok (.istore 4, 2) := by decide +kernel
theorem dX10_cut_153 : decode cX10_cut 153 = .ok (.iload_n 3, 1) := by decide +kernel
theorem dX10_cut_154 : decode cX10_cut 154 = .ok (.iload 4, 2) := by decide +kernel
theorem dX10_cut_156 : decode cX10_cut 156 = .ok (.iadd, 1) := by decide +kernel
theorem dX10_cut_157 : decode cX10_cut 157 = .ok (.istore_n 3, 1) := by decide +kernel
theorem dX10_cut_158 : decode cX10_cut 158 = .ok (.aload_n 0, 1) := by decide +kernel
theorem dX10_cut_159 : decode cX10_cut 159 = .ok (.getfield 198, 3) := by decide +kernel
theorem dX10_cut_162 : decode cX10_cut 162 = .ok (.ifCond .le 34, 3) := by decide +kernel
theorem dX10_cut_165 : decode cX10_cut 165 = .ok (.iload_n 3, 1) := by decide +kernel
theorem dX10_cut_166 : decode cX10_cut 166 = .ok (.invokestatic 207, 3) := by decide +kernel
theorem dX10_cut_169 : decode cX10_cut 169 = .ok (.aload_n 0, 1) := by decide +kernel
theorem dX10_cut_170 : decode cX10_cut 170 = .ok (.getfield 198, 3) := by decide +kernel
theorem dX10_cut_173 : decode cX10_cut 173 = .ok (.if_icmp .le 23, 3) := by decide +kernel
theorem dX10_cut_176 : decode cX10_cut 176 = .ok (.iload_n 3, 1) := by decide +kernel
theorem dX10_cut_177 : decode cX10_cut 177 = .ok (.ifCond .le 10, 3) := by decide +kernel
theorem dX10_cut_180 : decode cX10_cut 180 = .ok (.aload_n 0, 1) := by decide +kernel
theorem dX10_cut_181 : decode cX10_cut 181 = .ok (.getfield 198, 3) := by decide +kernel
theorem dX10_cut_184 : decode cX10_cut 184 = .ok (.goto 8, 3) := by decide +kernel
theorem dX10_cut_187 : decode cX10_cut 187 = .ok (.aload_n 0, 1) := by decide +kernel
theorem dX10_cut_188 : decode cX10_cut 188 = .ok (.getfield 198, 3) := by decide +kernel
theorem dX10_cut_191 : decode cX10_cut 191 = .ok (.ineg, 1) := by decide +kernel
theorem dX10_cut_192 : decode cX10_cut 192 = .ok (.istore_n 3, 1) := by decide +kernel
theorem dX10_cut_193 : decode cX10_cut 193 = .ok (.iconst 0, 1) := by decide +kernel
theorem dX10_cut_194 : decode cX10_cut 194 = .ok (.istore 4, 2) := by decide +kernel
theorem dX10_cut_196 : decode cX10_cut 196 = .ok (.aload_n 0, 1) := by decide +kernel
theorem dX10_cut_197 : decode cX10_cut 197 = .ok (.getfield 43, 3) := by decide +kernel
theorem dX10_cut_200 : decode cX10_cut 200 = .ok (.iload 5, 2) := by decide +kernel
theorem dX10_cut_202 : decode cX10_cut 202 = .ok (.iload_n 3, 1) := by decide +kernel
theorem dX10_cut_203 : decode cX10_cut 203 = .ok (.iastore, 1) := by decide +kernel
theorem dX10_cut_204 : decode cX10_cut 204 = .ok (.aload_n 0, 1) := by decide +kernel
theorem dX10_cut_205 : decode cX10_cut 205 = .ok (.getfield 46, 3) := by decide +kernel
theorem dX10_cut_208 : decode cX10_cut 208 = .ok (.iload 5, 2) := by decide +kernel
theorem dX10_cut_210 : decode cX10_cut 210 = .ok (.iload 4, 2) := by decide +kernel
theorem dX10_cut_212 : decode cX10_cut 212 = .ok (.iastore, 1) := by decide +kernel
theorem dX10_cut_213 : decode cX10_cut 213 = .ok (.aload_n 0, 1) := by decide +kernel
theorem dX10_cut_214 : decode cX10_cut 214 = .ok (.aload_n 0, 1) := by decide +kernel
theorem dX10_cut_215 : decode cX10_cut 215 = .ok (.getfield 204, 3) := by decide +kernel
theorem dX10_cut_218 : decode cX10_cut 218 = .ok (.iload_n 3, 1) := by decide +kernel
theorem dX10_cut_219 : decode cX10_cut 219 = .ok (.invokestatic 207, 3) := by decide +kernel
theorem dX10_cut_222 : decode cX10_cut 222 = .ok (.invokestatic 161, 3) := by decide +kernel
theorem dX10_cut_225 : decode cX10_cut 225 = .ok (.putfield 204, 3) := by decide +kernel
theorem dX10_cut_228 : decode cX10_cut 228 = .ok (.aload_n 0, 1) := by decide +kernel
theorem dX10_cut_229 : decode cX10_cut 229 = .ok (.dup, 1) := by decide +kernel
theorem dX10_cut_230 : decode cX10_cut 230 = .ok (.getfield 201, 3) := by decide +kernel
theorem dX10_cut_233 : decode cX10_cut 233 = .ok (.iconst 1, 1) := by decide +kernel
theorem dX10_cut_234 : decode cX10_cut 234 = .ok (.iadd, 1) := by decide +kernel
theorem dX10_cut_235 : decode cX10_cut 235 = .ok (.putfield 201, 3) := by decide +kernel
theorem dX10_cut_238 : decode cX10_cut 238 = .ok (.iinc 5 1, 3) := by decide +kernel
theorem dX10_cut_241 : decode cX10_cut 241 = .ok (.goto (-213), 3) := by decide +kernel
theorem dX10_cut_244 : decode cX10_cut 244 = .ok (.return_, 1) := by decide +kernel
theorem dX10_isBare_0 : decode cX10_isBare 0 = .ok (.aload_n 0, 1) := by decide +kernel
theorem dX10_isBare_1 : decode cX10_isBare 1 = .ok (.getfield 116, 3) := by decide +kernel
theorem dX10_isBare_4 : decode cX10_isBare 4 = .ok (.ifCond .eq 10, 3) := by decide +kernel
theorem dX10_isBare_7 : decode cX10_isBare 7 = .ok (.aload_n 0, 1) := by decide +kernel
theorem dX10_isBare_8 : decode cX10_isBare 8 = .ok (.getfield 172, 3) := by decide +kernel
theorem dX10_isBare_11 : decode cX10_isBare 11 = .ok (.ifCond .ne 7, 3) := by decide +kernel
theorem dX10_isBare_14 : decode cX10_isBare 14 = .ok (.iconst 1, 1) := by decide +kernel
theorem dX10_isBare_15 : decode cX10_isBare 15 = .ok (.goto 4, 3) := by decide +kernel
theorem dX10_isBare_18 : decode cX10_isBare 18 = .ok (.iconst 0, 1) := by decide +kernel
theorem dX10_isBare_19 : decode cX10_isBare 19 = .ok (.ireturn, 1) := by decide +kernel
theorem dX10_isUncut_0 : decode cX10_isUncut 0 = .ok (.aload_n 0, 1) := by decide +kernel
theorem dX10_isUncut_1 : decode cX10_isUncut 1 = .ok (.invokevirtual 210, 3) := by decide +kernel
theorem dX10_isUncut_4 : decode cX10_isUncut 4 = .ok (.iload_n 1, 1) := by decide +kernel
theorem dX10_isUncut_5 : decode cX10_isUncut 5 = .ok (.aload_n 0, 1) := by decide +kernel
theorem dX10_isUncut_6 : decode cX10_isUncut 6 = .ok (.getfield 201, 3) := by decide +kernel
theorem dX10_isUncut_9 : decode cX10_isUncut 9 = .ok (.if_icmp .lt 7, 3) := by decide +kernel
theorem dX10_isUncut_12 : decode cX10_isUncut 12 = .ok (.iconst 1, 1) := by decide +kernel
theorem dX10_isUncut_13 : decode cX10_isUncut 13 = .ok (.goto 4, 3) := by decide +kernel
theorem dX10_isUncut_16 : decode cX10_isUncut 16 = .ok (.iconst 0, 1) := by decide +kernel
theorem dX10_isUncut_17 : decode cX10_isUncut 17 = .ok (.ireturn, 1) := by decide +kernel
theorem dX10_where_0 : decode cX10_where 0 = .ok (.aload_n 0, 1) := by decide +kernel
theorem dX10_where_1 : decode cX10_where 1 = .ok (.iload_n 1, 1) := by decide +kernel
theorem dX10_where_2 : decode cX10_where 2 = .ok (.invokevirtual 180, 3) := by decide +kernel
theorem dX10_where_5 : decode cX10_where 5 = .ok (.ifCond .ne 11, 3) := by decide +kernel
theorem dX10_where_8 : decode cX10_where 8 = .ok (.aload_n 0, 1) := by decide +kernel
theorem dX10_where_9 : decode cX10_where 9 = .ok (.iload_n 1, 1) := by decide +kernel
theorem dX10_where_10 : decode cX10_where 10 = .ok (.invokevirtual 213, 3) := by decide +kernel
theorem dX10_where_13 : decode cX10_where 13 = .ok (.ifCond .eq 9, 3) := by decide +kernel
theorem dX10_where_16 : decode cX10_where 16 = .ok (.invokestatic 91, 3) := by decide +kernel
theorem dX10_where_19 : decode cX10_where 19 = .ok (.goto 10, 3) := by decide +kernel
theorem dX10_where_22 : decode cX10_where 22 = .ok (.aload_n 0, 1) := by decide +kernel
theorem dX10_where_23 : decode cX10_where 23 = .ok (.getfield 43, 3) := by decide +kernel
theorem dX10_where_26 : decode cX10_where 26 = .ok (.iload_n 1, 1) := by decide +kernel
theorem dX10_where_27 : decode cX10_where 27 = .ok (.iaload, 1) := by decide +kernel
theorem dX10_where_28 : decode cX10_where 28 = .ok (.i2l, 1) := by decide +kernel
theorem dX10_where_29 : decode cX10_where 29 = .ok (.lreturn, 1) := by decide +kernel
theorem dX10_heading_0 : decode cX10_heading 0 = .ok (.aload_n 0, 1) := by decide +kernel
theorem dX10_heading_1 : decode cX10_heading 1 = .ok (.iload_n 1, 1) := by decide +kernel
theorem dX10_heading_2 : decode cX10_heading 2 = .ok (.invokevirtual 180, 3) := by decide +kernel
theorem dX10_heading_5 : decode cX10_heading 5 = .ok (.ifCond .ne 11, 3) := by decide +kernel
theorem dX10_heading_8 : decode cX10_heading 8 = .ok (.aload_n 0, 1) := by decide +kernel
theorem dX10_heading_9 : decode cX10_heading 9 = .ok (.iload_n 1, 1) := by decide +kernel
theorem dX10_heading_10 : decode cX10_heading 10 = .ok (.invokevirtual 213, 3) := by decide +kernel
theorem dX10_heading_13 : decode cX10_heading 13 = .ok (.ifCond .eq 9, 3) := by decide +kernel
theorem dX10_heading_16 : decode cX10_heading 16 = .ok (.invokestatic 91, 3) := by decide +kernel
theorem dX10_heading_19 : decode cX10_heading 19 = .ok (.goto 10, 3) := by decide +kernel
theorem dX10_heading_22 : decode cX10_heading 22 = .ok (.aload_n 0, 1) := by decide +kernel
theorem dX10_heading_23 : decode cX10_heading 23 = .ok (.getfield 46, 3) := by decide +kernel
theorem dX10_heading_26 : decode cX10_heading 26 = .ok (.iload_n 1, 1) := by decide +kernel
theorem dX10_heading_27 : decode cX10_heading 27 = .ok (.iaload, 1) := by decide +kernel
theorem dX10_heading_28 : decode cX10_heading 28 = .ok (.i2l, 1) := by decide +kernel
theorem dX10_heading_29 : decode cX10_heading 29 = .ok (.lreturn, 1) := by decide +kernel
theorem dX10_off_0 : decode cX10_off 0 = .ok (.aload_n 0, 1) := by decide +kernel
theorem dX10_off_1 : decode cX10_off 1 = .ok (.invokevirtual 216, 3) := by decide +kernel
theorem dX10_off_4 : decode cX10_off 4 = .ok (.ifCond .eq 6, 3) := by decide +kernel
theorem dX10_off_7 : decode cX10_off 7 = .ok (.bipush (-3), 2) := by decide +kernel
theorem dX10_off_9 : decode cX10_off 9 = .ok (.ireturn, 1) := by decide +kernel
theorem dX10_off_10 : decode cX10_off 10 = .ok (.aload_n 0, 1) := by decide +kernel
theorem dX10_off_11 : decode cX10_off 11 = .ok (.invokevirtual 210, 3) := by decide +kernel
theorem dX10_off_14 : decode cX10_off 14 = .ok (.aload_n 0, 1) := by decide +kernel
theorem dX10_off_15 : decode cX10_off 15 = .ok (.getfield 204, 3) := by decide +kernel
theorem dX10_off_18 : decode cX10_off 18 = .ok (.ireturn, 1) := by decide +kernel
theorem dX10_pinched_0 : decode cX10_pinched 0 = .ok (.aload_n 0, 1) := by decide +kernel
theorem dX10_pinched_1 : decode cX10_pinched 1 = .ok (.invokevirtual 216, 3) := by decide +kernel
theorem dX10_pinched_4 : decode cX10_pinched 4 = .ok (.ifCond .eq 6, 3) := by decide +kernel
theorem dX10_pinched_7 : decode cX10_pinched 7 = .ok (.bipush (-3), 2) := by decide +kernel
theorem dX10_pinched_9 : decode cX10_pinched 9 = .ok (.ireturn, 1) := by decide +kernel
theorem dX10_pinched_10 : decode cX10_pinched 10 = .ok (.aload_n 0, 1) := by decide +kernel
theorem dX10_pinched_11 : decode cX10_pinched 11 = .ok (.invokevirtual 210, 3) := by decide +kernel
theorem dX10_pinched_14 : decode cX10_pinched 14 = .ok (.aload_n 0, 1) := by decide +kernel
theorem dX10_pinched_15 : decode cX10_pinched 15 = .ok (.getfield 201, 3) := by decide +kernel
theorem dX10_pinched_18 : decode cX10_pinched 18 = .ok (.aload_n 0, 1) := by decide +kernel
theorem dX10_pinched_19 : decode cX10_pinched 19 = .ok (.getfield 172, 3) := by decide +kernel
theorem dX10_pinched_22 : decode cX10_pinched 22 = .ok (.if_icmp .ge 10, 3) := by decide +kernel
theorem dX10_pinched_25 : decode cX10_pinched 25 = .ok (.aload_n 0, 1) := by decide +kernel
theorem dX10_pinched_26 : decode cX10_pinched 26 = .ok (.getfield 201, 3) := by decide +kernel
theorem dX10_pinched_29 : decode cX10_pinched 29 = .ok (.goto 5, 3) := by decide +kernel
theorem dX10_pinched_32 : decode cX10_pinched 32 = .ok (.bipush (-9), 2) := by decide +kernel
theorem dX10_pinched_34 : decode cX10_pinched 34 = .ok (.ireturn, 1) := by decide +kernel
theorem dX10_markOf_0 : decode cX10_markOf 0 = .ok (.iload_n 2, 1) := by decide +kernel
theorem dX10_markOf_1 : decode cX10_markOf 1 = .ok (.aload_n 0, 1) := by decide +kernel
theorem dX10_markOf_2 : decode cX10_markOf 2 = .ok (.getfield 13, 3) := by decide +kernel
theorem dX10_markOf_5 : decode cX10_markOf 5 = .ok (.iload_n 1, 1) := by decide +kernel
theorem dX10_markOf_6 : decode cX10_markOf 6 = .ok (.iaload, 1) := by decide +kernel
theorem dX10_markOf_7 : decode cX10_markOf 7 = .ok (.aload_n 0, 1) := by decide +kernel
theorem dX10_markOf_8 : decode cX10_markOf 8 = .ok (.getfield 16, 3) := by decide +kernel
theorem dX10_markOf_11 : decode cX10_markOf 11 = .ok (.iload_n 1, 1) := by decide +kernel
theorem dX10_markOf_12 : decode cX10_markOf 12 = .ok (.iaload, 1) := by decide +kernel
theorem dX10_markOf_13 : decode cX10_markOf 13 = .ok (.imul, 1) := by decide +kernel
theorem dX10_markOf_14 : decode cX10_markOf 14 = .ok (.iadd, 1) := by decide +kernel
theorem dX10_markOf_15 : decode cX10_markOf 15 = .ok (.ireturn, 1) := by decide +kernel
theorem dX10_marks_0 : decode cX10_marks 0 = .ok (.aload_n 0, 1) := by decide +kernel
theorem dX10_marks_1 : decode cX10_marks 1 = .ok (.iload_n 1, 1) := by decide +kernel
theorem dX10_marks_2 : decode cX10_marks 2 = .ok (.invokevirtual 180, 3) := by decide +kernel
theorem dX10_marks_5 : decode cX10_marks 5 = .ok (.ifCond .eq 5, 3) := by decide +kernel
theorem dX10_marks_8 : decode cX10_marks 8 = .ok (.iconst (-1), 1) := by decide +kernel
theorem dX10_marks_9 : decode cX10_marks 9 = .ok (.ireturn, 1) := by decide +kernel
theorem dX10_marks_10 : decode cX10_marks 10 = .ok (.aload_n 0, 1) := by decide +kernel
theorem dX10_marks_11 : decode cX10_marks 11 = .ok (.iload_n 1, 1) := by decide +kernel
theorem dX10_marks_12 : decode cX10_marks 12 = .ok (.invokevirtual 213, 3) := by decide +kernel
theorem dX10_marks_15 : decode cX10_marks 15 = .ok (.ifCond .eq 6, 3) := by decide +kernel
theorem dX10_marks_18 : decode cX10_marks 18 = .ok (.bipush (-3), 2) := by decide +kernel
theorem dX10_marks_20 : decode cX10_marks 20 = .ok (.ireturn, 1) := by decide +kernel
theorem dX10_marks_21 : decode cX10_marks 21 = .ok (.iconst 0, 1) := by decide +kernel
theorem dX10_marks_22 : decode cX10_marks 22 = .ok (.istore_n 2, 1) := by decide +kernel
theorem dX10_marks_23 : decode cX10_marks 23 = .ok (.iconst 0, 1) := by decide +kernel
theorem dX10_marks_24 : decode cX10_marks 24 = .ok (.istore_n 3, 1) := by decide +kernel
theorem dX10_marks_25 : decode cX10_marks 25 = .ok (.iload_n 3, 1) := by decide +kernel
theorem dX10_marks_26 : decode cX10_marks 26 = .ok (.aload_n 0, 1) := by decide +kernel
theorem dX10_marks_27 : decode cX10_marks 27 = .ok (.getfield 116, 3) := by decide +kernel
theorem dX10_marks_30 : decode cX10_marks 30 = .ok (.if_icmp .ge 89, 3) := by decide +kernel
theorem dX10_marks_33 : decode cX10_marks 33 = .ok (.aload_n 0, 1) := by decide +kernel
theorem dX10_marks_34 : decode cX10_marks 34 = .ok (.iload_n 3, 1) := by decide +kernel
theorem dX10_marks_35 : decode cX10_marks 35 = .ok (.invokevirtual 148, 3) := by decide +kernel
theorem dX10_marks_38 : decode cX10_marks 38 = .ok (.ifCond .le 7, 3) := by decide +kernel
theorem dX10_marks_41 : decode cX10_marks 41 = .ok (.iconst 1, 1) := by decide +kernel
theorem dX10_marks_42 : decode cX10_marks 42 = .ok (.goto 4, 3) := by decide +kernel
theorem dX10_marks_45 : decode cX10_marks 45 = .ok (.iconst 0, 1) := by decide +kernel
theorem dX10_marks_46 : decode cX10_marks 46 = .ok (.istore 4, 2) := by decide +kernel
theorem dX10_marks_48 : decode cX10_marks 48 = .ok (.iconst 0, 1) := by decide +kernel
theorem dX10_marks_49 : decode cX10_marks 49 = .ok (.istore 5, 2) := by decide +kernel
theorem dX10_marks_51 : decode cX10_marks 51 = .ok (.iload 5, 2) := by decide +kernel
theorem dX10_marks_53 : decode cX10_marks 53 = .ok (.iload_n 3, 1) := by decide +kernel
theorem dX10_marks_54 : decode cX10_marks 54 = .ok (.if_icmp .ge 46, 3) := by decide +kernel
theorem dX10_marks_57 : decode cX10_marks 57 = .ok (.iload 4, 2) := by decide +kernel
theorem dX10_marks_59 : decode cX10_marks 59 = .ok (.ifCond .eq 32, 3) := by decide +kernel
theorem dX10_marks_62 : decode cX10_marks 62 = .ok (.aload_n 0, 1) := by decide +kernel
theorem dX10_marks_63 : decode cX10_marks 63 = .ok (.iload 5, 2) := by decide +kernel
theorem dX10_marks_65 : decode cX10_marks 65 = .ok (.invokevirtual 148, 3) := by decide +kernel
theorem dX10_marks_68 : decode cX10_marks 68 = .ok (.ifCond .le 19, 3) := by decide +kernel
theorem dX10_marks_71 : decode cX10_marks 71 = .ok (.aload_n 0, 1) := by decide +kernel
theorem dX10_marks_72 : decode cX10_marks 72 = .ok (.iload 5, 2) := by decide +kernel
theorem dX10_marks_74 : decode cX10_marks 74 = .ok (.iconst 0, 1) := by decide +kernel
theorem dX10_marks_75 : decode cX10_marks 75 = .ok (.invokevirtual 220, 3) := by decide +kernel
theorem dX10_marks_78 : decode cX10_marks 78 = .ok (.aload_n 0, 1) := by decide +kernel
theorem dX10_marks_79 : decode cX10_marks 79 = .ok (.iload_n 3, 1) := by decide +kernel
theorem dX10_marks_80 : decode cX10_marks 80 = .ok (.iconst 0, 1) := by decide +kernel
theorem dX10_marks_81 : decode cX10_marks 81 = .ok (.invokevirtual 220, 3) := by decide +kernel
theorem dX10_marks_84 : decode cX10_marks 84 = .ok (.if_icmp .eq 7, 3) := by decide +kernel
theorem dX10_marks_87 : decode cX10_marks 87 = .ok (.iconst 1, 1) := by decide +kernel
theorem dX10_marks_88 : decode cX10_marks 88 = .ok (.goto 4, 3) := by decide +kernel
theorem dX10_marks_91 : decode cX10_marks 91 = .ok (.iconst 0, 1) := by decide +kernel
theorem dX10_marks_92 : decode cX10_marks 92 = .ok (.istore 4, 2) := by decide +kernel
theorem dX10_marks_94 : decode cX10_marks 94 = .ok (.iinc 5 1, 3) := by decide +kernel
theorem dX10_marks_97 : decode cX10_marks 97 = .ok (.goto (-46), 3) := by decide +kernel
theorem dX10_marks_100 : decode cX10_marks 100 = .ok (.iload_n 2, 1) := by decide +kernel
theorem dX10_marks_101 : decode cX10_marks 101 = .ok (.iload 4, 2) := by decide +kernel
theorem dX10_marks_103 : decode cX10_marks 103 = .ok (.ifCond .eq 7, 3) := by decide +kernel
theorem dX10_marks_106 : decode cX10_marks 106 = .ok (.iconst 1, 1) := by decide +kernel
theorem dX10_marks_107 : decode cX10_marks 107 = .ok (.goto 4, 3) := by decide +kernel
theorem dX10_marks_110 : decode cX10_marks 110 = .ok (.iconst 0, 1) := by decide +kernel
theorem dX10_marks_111 : decode cX10_marks 111 = .ok (.iadd, 1) := by decide +kernel
theorem dX10_marks_112 : decode cX10_marks 112 = .ok (.istore_n 2, 1) := by decide +kernel
theorem dX10_marks_113 : decode cX10_marks 113 = .ok (.iinc 3 1, 3) := by decide +kernel
theorem dX10_marks_116 : decode cX10_marks 116 = .ok (.goto (-91), 3) := by decide +kernel
theorem dX10_marks_119 : decode cX10_marks 119 = .ok (.iload_n 2, 1) := by decide +kernel
theorem dX10_marks_120 : decode cX10_marks 120 = .ok (.ireturn, 1) := by decide +kernel
theorem dX10_which_0 : decode cX10_which 0 = .ok (.aload_n 0, 1) := by decide +kernel
theorem dX10_which_1 : decode cX10_which 1 = .ok (.iload_n 1, 1) := by decide +kernel
theorem dX10_which_2 : decode cX10_which 2 = .ok (.invokevirtual 180, 3) := by decide +kernel
theorem dX10_which_5 : decode cX10_which 5 = .ok (.ifCond .eq 5, 3) := by decide +kernel
theorem dX10_which_8 : decode cX10_which 8 = .ok (.iconst (-1), 1) := by decide +kernel
theorem dX10_which_9 : decode cX10_which 9 = .ok (.ireturn, 1) := by decide +kernel
theorem dX10_which_10 : decode cX10_which 10 = .ok (.aload_n 0, 1) := by decide +kernel
theorem dX10_which_11 : decode cX10_which 11 = .ok (.iload_n 1, 1) := by decide +kernel
theorem dX10_which_12 : decode cX10_which 12 = .ok (.invokevirtual 213, 3) := by decide +kernel
theorem dX10_which_15 : decode cX10_which 15 = .ok (.ifCond .eq 6, 3) := by decide +kernel
theorem dX10_which_18 : decode cX10_which 18 = .ok (.bipush (-3), 2) := by decide +kernel
theorem dX10_which_20 : decode cX10_which 20 = .ok (.ireturn, 1) := by decide +kernel
theorem dX10_which_21 : decode cX10_which 21 = .ok (.iconst 0, 1) := by decide +kernel
theorem dX10_which_22 : decode cX10_which 22 = .ok (.istore_n 3, 1) := by decide +kernel
theorem dX10_which_23 : decode cX10_which 23 = .ok (.iconst 0, 1) := by decide +kernel
theorem dX10_which_24 : decode cX10_which 24 = .ok (.istore 4, 2) := by decide +kernel
theorem dX10_which_26 : decode cX10_which 26 = .ok (.iload 4, 2) := by decide +kernel
theorem dX10_which_28 : decode cX10_which 28 = .ok (.aload_n 0, 1) := by decide +kernel
theorem dX10_which_29 : decode cX10_which 29 = .ok (.getfield 116, 3) := by decide +kernel
theorem dX10_which_32 : decode cX10_which 32 = .ok (.if_icmp .ge 45, 3) := by decide +kernel
theorem dX10_which_35 : decode cX10_which 35 = .ok (.iload_n 3, 1) := by decide +kernel
theorem dX10_which_36 : decode cX10_which 36 = .ok (.aload_n 0, 1) := by decide +kernel
theorem dX10_which_37 : decode cX10_which 37 = .ok (.iload 4, 2) := by decide +kernel
theorem dX10_which_39 : decode cX10_which 39 = .ok (.invokevirtual 148, 3) := by decide +kernel
theorem dX10_which_42 : decode cX10_which 42 = .ok (.ifCond .le 26, 3) := by decide +kernel
theorem dX10_which_45 : decode cX10_which 45 = .ok (.aload_n 0, 1) := by decide +kernel
theorem dX10_which_46 : decode cX10_which 46 = .ok (.iload 4, 2) := by decide +kernel
theorem dX10_which_48 : decode cX10_which 48 = .ok (.aload_n 0, 1) := by decide +kernel
theorem dX10_which_49 : decode cX10_which 49 = .ok (.getfield 43, 3) := by decide +kernel
theorem dX10_which_52 : decode cX10_which 52 = .ok (.iload_n 1, 1) := by decide +kernel
theorem dX10_which_53 : decode cX10_which 53 = .ok (.iaload, 1) := by decide +kernel
theorem dX10_which_54 : decode cX10_which 54 = .ok (.invokevirtual 220, 3) := by decide +kernel
theorem dX10_which_57 : decode cX10_which 57 = .ok (.iload_n 2, 1) := by decide +kernel
theorem dX10_which_58 : decode cX10_which 58 = .ok (.if_icmp .ne 10, 3) := by decide +kernel
theorem dX10_which_61 : decode cX10_which 61 = .ok (.iconst 1, 1) := by decide +kernel
theorem dX10_which_62 : decode cX10_which 62 = .ok (.iload 4, 2) := by decide +kernel
theorem dX10_which_64 : decode cX10_which 64 = .ok (.ishl, 1) := by decide +kernel
theorem dX10_which_65 : decode cX10_which 65 = .ok (.goto 4, 3) := by decide +kernel
theorem dX10_which_68 : decode cX10_which 68 = .ok (.iconst 0, 1) := by decide +kernel
theorem dX10_which_69 : decode cX10_which 69 = .ok (.ior, 1) := by decide +kernel
theorem dX10_which_70 : decode cX10_which 70 = .ok (.istore_n 3, 1) := by decide +kernel
theorem dX10_which_71 : decode cX10_which 71 = .ok (.iinc 4 1, 3) := by decide +kernel
theorem dX10_which_74 : decode cX10_which 74 = .ok (.goto (-48), 3) := by decide +kernel
theorem dX10_which_77 : decode cX10_which 77 = .ok (.iload_n 3, 1) := by decide +kernel
theorem dX10_which_78 : decode cX10_which 78 = .ok (.ireturn, 1) := by decide +kernel
theorem dX10_straightest_0 : decode cX10_straightest 0 = .ok (.iload_n 1, 1) := by decide +kernel
theorem dX10_straightest_1 : decode cX10_straightest 1 = .ok (.i2l, 1) := by decide +kernel
theorem dX10_straightest_2 : decode cX10_straightest 2 = .ok (.lconst 0, 1) := by decide +kernel
theorem dX10_straightest_3 : decode cX10_straightest 3 = .ok (.ldc2_w 223, 3) := by decide +kernel
theorem dX10_straightest_6 : decode cX10_straightest 6 = .ok (.invokestatic 105, 3) := by decide +kernel
theorem dX10_straightest_9 : decode cX10_straightest 9 = .ok (.ifCond .ne 6, 3) := by decide +kernel
theorem dX10_straightest_12 : decode cX10_straightest 12 = .ok (.bipush (-2), 2) := by decide +kernel
theorem dX10_straightest_14 : decode cX10_straightest 14 = .ok (.ireturn, 1) := by decide +kernel
theorem dX10_straightest_15 : decode cX10_straightest 15 = .ok (.aload_n 0, 1) := by decide +kernel
theorem dX10_straightest_16 : decode cX10_straightest 16 = .ok (.invokevirtual 216, 3) := by decide +kernel
theorem dX10_straightest_19 : decode cX10_straightest 19 = .ok (.ifCond .eq 6, 3) := by decide +kernel
theorem dX10_straightest_22 : decode cX10_straightest 22 = .ok (.bipush (-3), 2) := by decide +kernel
theorem dX10_straightest_24 : decode cX10_straightest 24 = .ok (.ireturn, 1) := by decide +kernel
theorem dX10_straightest_25 : decode cX10_straightest 25 = .ok (.iload_n 1, 1) := by decide +kernel
theorem dX10_straightest_26 : decode cX10_straightest 26 = .ok (.iconst 2, 1) := by decide +kernel
theorem dX10_straightest_27 : decode cX10_straightest 27 = .ok (.irem, 1) := by decide +kernel
theorem dX10_straightest_28 : decode cX10_straightest 28 = .ok (.ifCond .ne 7, 3) := by decide +kernel
theorem dX10_straightest_31 : decode cX10_straightest 31 = .ok (.iconst 1, 1) := by decide +kernel
theorem dX10_straightest_32 : decode cX10_straightest 32 = .ok (.goto 4, 3) := by decide +kernel
theorem dX10_straightest_35 : decode cX10_straightest 35 = .ok (.iconst 0, 1) := by decide +kernel
theorem dX10_straightest_36 : decode cX10_straightest 36 = .ok (.istore_n 2, 1) := by decide +kernel
theorem dX10_straightest_37 : decode cX10_straightest 37 = .ok (.iload_n 2, 1) := by decide +kernel
theorem dX10_straightest_38 : decode cX10_straightest 38 = .ok (.ifCond .eq 10, 3) := by decide +kernel
theorem dX10_straightest_41 : decode cX10_straightest 41 = .ok (.aload_n 0, 1) := by decide +kernel
theorem dX10_straightest_42 : decode cX10_straightest 42 = .ok (.getfield 187, 3) := by decide +kernel
theorem dX10_straightest_45 : decode cX10_straightest 45 = .ok (.goto 7, 3) := by decide +kernel
theorem dX10_straightest_48 : decode cX10_straightest 48 = .ok (.aload_n 0, 1) := by decide +kernel
theorem dX10_straightest_49 : decode cX10_straightest 49 = .ok (.getfield 190, 3) := by decide +kernel
theorem dX10_straightest_52 : decode cX10_straightest 52 = .ok (.istore_n 3, 1) := by decide +kernel
theorem dX10_straightest_53 : decode cX10_straightest 53 = .ok (.iconst 0, 1) := by decide +kernel
theorem dX10_straightest_54 : decode cX10_straightest 54 = .ok (.istore 4, 2) := by decide +kernel
theorem dX10_straightest_56 : decode cX10_straightest 56 = .ok (.bipush (-9), 2) := by decide +kernel
theorem dX10_straightest_58 : decode cX10_straightest 58 = .ok (.istore 5, 2) := by decide +kernel
theorem dX10_straightest_60 : decode cX10_straightest 60 = .ok (.iconst 0, 1) := by decide +kernel
theorem dX10_straightest_61 : decode cX10_straightest 61 = .ok (.istore 6, 2) := by decide +kernel
theorem dX10_straightest_63 : decode cX10_straightest 63 = .ok (.iload 6, 2) := by decide +kernel
theorem dX10_straightest_65 : decode cX10_straightest 65 = .ok (.iload_n 2, 1) := by decide +kernel
theorem dX10_straightest_66 : decode cX10_straightest 66 = .ok (.ifCond .eq 8, 3) := by decide +kernel
theorem dX10_straightest_69 : decode cX10_straightest 69 = .ok (.bipush 19, 2) := by decide +kernel
theorem dX10_straightest_71 : decode cX10_straightest 71 = .ok (.goto 5, 3) := by decide +kernel
theorem dX10_straightest_74 : decode cX10_straightest 74 = .ok (.bipush 10, 2) := by decide +kernel
theorem dX10_straightest_76 : decode cX10_straightest 76 = .ok (.if_icmp .ge 89, 3) := by decide +kernel
theorem dX10_straightest_79 : decode cX10_straightest 79 = .ok (.iload_n 2, 1) := by decide +kernel
theorem dX10_straightest_80 : decode cX10_straightest 80 = .ok (.ifCond .ne 8, 3) := by decide +kernel
theorem dX10_straightest_83 : decode cX10_straightest 83 = .ok (.iload 6, 2) := by decide +kernel
theorem dX10_straightest_85 : decode cX10_straightest 85 = .ok (.goto 25, 3) := by decide +kernel
theorem dX10_straightest_88 : decode cX10_straightest 88 = .ok (.iload 6, 2) := by decide +kernel
theorem dX10_straightest_90 : decode cX10_straightest 90 = .ok (.iconst 2, 1) := by decide +kernel
theorem dX10_straightest_91 : decode cX10_straightest 91 = .ok (.irem, 1) := by decide +kernel
theorem dX10_straightest_92 : decode cX10_straightest 92 = .ok (.iconst 1, 1) := by decide +kernel
theorem dX10_straightest_93 : decode cX10_straightest 93 = .ok (.if_icmp .ne 13, 3) := by decide +kernel
theorem dX10_straightest_96 : decode cX10_straightest 96 = .ok (.iload 6, 2) := by decide +kernel
theorem dX10_straightest_98 : decode cX10_straightest 98 = .ok (.iconst 1, 1) := by decide +kernel
theorem dX10_straightest_99 : decode cX10_straightest 99 = .ok (.iadd, 1) := by decide +kernel
theorem dX10_straightest_100 : decode cX10_straightest 100 = .ok (.ineg, 1) := by decide +kernel
theorem dX10_straightest_101 : decode cX10_straightest 101 = .ok (.iconst 2, 1) := by decide +kernel
theorem dX10_straightest_102 : decode cX10_straightest 102 = .ok (.idiv, 1) := by decide +kernel
theorem dX10_straightest_103 : decode cX10_straightest 103 = .ok (.goto 7, 3) := by decide +kernel
theorem dX10_straightest_106 : decode cX10_straightest 106 = .ok (.iload 6, 2) := by decide +kernel
theorem dX10_straightest_108 : decode cX10_straightest 108 = .ok (.iconst 2, 1) := by decide +kernel
theorem dX10_straightest_109 : decode cX10_straightest 109 = .ok (.idiv, 1) := by decide +kernel
theorem dX10_straightest_110 : decode cX10_straightest 110 = .ok (.istore 7, 2) := by decide +kernel
theorem dX10_straightest_112 : decode cX10_straightest 112 = .ok (.iload_n 2, 1) := by decide +kernel
theorem dX10_straightest_113 : decode cX10_straightest 113 = .ok (.ifCond .eq 12, 3) := by decide +kernel
theorem dX10_straightest_116 : decode cX10_straightest 116 = .ok (.aload_n 0, 1) := by decide +kernel
theorem dX10_straightest_117 : decode cX10_straightest 117 = .ok (.iload 7, 2) := by decide +kernel
theorem dX10_straightest_119 : decode cX10_straightest 119 = .ok (.putfield 187, 3) := by decide +kernel
theorem dX10_straightest_122 : decode cX10_straightest 122 = .ok (.goto 9, 3) := by decide +kernel
theorem dX10_straightest_125 : decode cX10_straightest 125 = .ok (.aload_n 0, 1) := by decide +kernel
theorem dX10_straightest_126 : decode cX10_straightest 126 = .ok (.iload 7, 2) := by decide +kernel
theorem dX10_straightest_128 : decode cX10_straightest 128 = .ok (.putfield 190, 3) := by decide +kernel
theorem dX10_straightest_131 : decode cX10_straightest 131 = .ok (.aload_n 0, 1) := by decide +kernel
theorem dX10_straightest_132 : decode cX10_straightest 132 = .ok (.invokevirtual 210, 3) := by decide +kernel
theorem dX10_straightest_135 : decode cX10_straightest 135 = .ok (.iload 5, 2) := by decide +kernel
theorem dX10_straightest_137 : decode cX10_straightest 137 = .ok (.ifCond .lt 12, 3) := by decide +kernel
theorem dX10_straightest_140 : decode cX10_straightest 140 = .ok (.aload_n 0, 1) := by decide +kernel
theorem dX10_straightest_141 : decode cX10_straightest 141 = .ok (.getfield 204, 3) := by decide +kernel
theorem dX10_straightest_144 : decode cX10_straightest 144 = .ok (.iload 5, 2) := by decide +kernel
theorem dX10_straightest_146 : decode cX10_straightest 146 = .ok (.if_icmp .ge 13, 3) := by decide +kernel
theorem dX10_straightest_149 : decode cX10_straightest 149 = .ok (.iload 7, 2) := by decide +kernel
theorem dX10_straightest_151 : decode cX10_straightest 151 = .ok (.istore 4, 2) := by decide +kernel
theorem dX10_straightest_153 : decode cX10_straightest 153 = .ok (.aload_n 0, 1) := by decide +kernel
theorem dX10_straightest_154 : decode cX10_straightest 154 = .ok (.getfield 204, 3) := by decide +kernel
theorem dX10_straightest_157 : decode cX10_straightest 157 = .ok (.istore 5, 2) := by decide +kernel
theorem dX10_straightest_159 : decode cX10_straightest 159 = .ok (.iinc 6 1, 3) := by decide +kernel
theorem dX10_straightest_162 : decode cX10_straightest 162 = .ok (.goto (-99), 3) := by decide +kernel
theorem dX10_straightest_165 : decode cX10_straightest 165 = .ok (.iload_n 2, 1) := by decide +kernel
theorem dX10_straightest_166 : decode cX10_straightest 166 = .ok (.ifCond .eq 11, 3) := by decide +kernel
theorem dX10_straightest_169 : decode cX10_straightest 169 = .ok (.aload_n 0, 1) := by decide +kernel
theorem dX10_straightest_170 : decode cX10_straightest 170 = .ok (.iload_n 3, 1) := by decide +kernel
theorem dX10_straightest_171 : decode cX10_straightest 171 = .ok (.putfield 187, 3) := by decide +kernel
theorem dX10_straightest_174 : decode cX10_straightest 174 = .ok (.goto 8, 3) := by decide +kernel
theorem dX10_straightest_177 : decode cX10_straightest 177 = .ok (.aload_n 0, 1) := by decide +kernel
theorem dX10_straightest_178 : decode cX10_straightest 178 = .ok (.iload_n 3, 1) := by decide +kernel
theorem dX10_straightest_179 : decode cX10_straightest 179 = .ok (.putfield 190, 3) := by decide +kernel
theorem dX10_straightest_182 : decode cX10_straightest 182 = .ok (.iload_n 1, 1) := by decide +kernel
theorem dX10_straightest_183 : decode cX10_straightest 183 = .ok (.iconst 2, 1) := by decide +kernel
theorem dX10_straightest_184 : decode cX10_straightest 184 = .ok (.if_icmp .ge 8, 3) := by decide +kernel
theorem dX10_straightest_187 : decode cX10_straightest 187 = .ok (.iload 4, 2) := by decide +kernel
theorem dX10_straightest_189 : decode cX10_straightest 189 = .ok (.goto 5, 3) := by decide +kernel
theorem dX10_straightest_192 : decode cX10_straightest 192 = .ok (.iload 5, 2) := by decide +kernel
theorem dX10_straightest_194 : decode cX10_straightest 194 = .ok (.ireturn, 1) := by decide +kernel
theorem dX10_noFlaw_0 : decode cX10_noFlaw 0 = .ok (.iload_n 1, 1) := by decide +kernel
theorem dX10_noFlaw_1 : decode cX10_noFlaw 1 = .ok (.i2l, 1) := by decide +kernel
theorem dX10_noFlaw_2 : decode cX10_noFlaw 2 = .ok (.lconst 0, 1) := by decide +kernel
theorem dX10_noFlaw_3 : decode cX10_noFlaw 3 = .ok (.aload_n 0, 1) := by decide +kernel
theorem dX10_noFlaw_4 : decode cX10_noFlaw 4 = .ok (.getfield 142, 3) := by decide +kernel
theorem dX10_noFlaw_7 : decode cX10_noFlaw 7 = .ok (.i2l, 1) := by decide +kernel
theorem dX10_noFlaw_8 : decode cX10_noFlaw 8 = .ok (.lconst 1, 1) := by decide +kernel
theorem dX10_noFlaw_9 : decode cX10_noFlaw 9 = .ok (.lsub, 1) := by decide +kernel
theorem dX10_noFlaw_10 : decode cX10_noFlaw 10 = .ok (.invokestatic 105, 3) := by decide +kernel
theorem dX10_noFlaw_13 : decode cX10_noFlaw 13 = .ok (.ifCond .ne 7, 3) := by decide +kernel
theorem dX10_noFlaw_16 : decode cX10_noFlaw 16 = .ok (.iconst 1, 1) := by decide +kernel
theorem dX10_noFlaw_17 : decode cX10_noFlaw 17 = .ok (.goto 4, 3) := by decide +kernel
theorem dX10_noFlaw_20 : decode cX10_noFlaw 20 = .ok (.iconst 0, 1) := by decide +kernel
theorem dX10_noFlaw_21 : decode cX10_noFlaw 21 = .ok (.ireturn, 1) := by decide +kernel
theorem dX10_flaw_0 : decode cX10_flaw 0 = .ok (.aload_n 0, 1) := by decide +kernel
theorem dX10_flaw_1 : decode cX10_flaw 1 = .ok (.iload_n 1, 1) := by decide +kernel
theorem dX10_flaw_2 : decode cX10_flaw 2 = .ok (.invokevirtual 151, 3) := by decide +kernel
theorem dX10_flaw_5 : decode cX10_flaw 5 = .ok (.ifCond .eq 5, 3) := by decide +kernel
theorem dX10_flaw_8 : decode cX10_flaw 8 = .ok (.iconst (-1), 1) := by decide +kernel
theorem dX10_flaw_9 : decode cX10_flaw 9 = .ok (.ireturn, 1) := by decide +kernel
theorem dX10_flaw_10 : decode cX10_flaw 10 = .ok (.iload_n 2, 1) := by decide +kernel
theorem dX10_flaw_11 : decode cX10_flaw 11 = .ok (.i2l, 1) := by decide +kernel
theorem dX10_flaw_12 : decode cX10_flaw 12 = .ok (.lconst 0, 1) := by decide +kernel
theorem dX10_flaw_13 : decode cX10_flaw 13 = .ok (.ldc2_w 103, 3) := by decide +kernel
theorem dX10_flaw_16 : decode cX10_flaw 16 = .ok (.invokestatic 105, 3) := by decide +kernel
theorem dX10_flaw_19 : decode cX10_flaw 19 = .ok (.ifCond .eq 15, 3) := by decide +kernel
theorem dX10_flaw_22 : decode cX10_flaw 22 = .ok (.iload_n 3, 1) := by decide +kernel
theorem dX10_flaw_23 : decode cX10_flaw 23 = .ok (.i2l, 1) := by decide +kernel
theorem dX10_flaw_24 : decode cX10_flaw 24 = .ok (.lconst 0, 1) := by decide +kernel
theorem dX10_flaw_25 : decode cX10_flaw 25 = .ok (.ldc2_w 122, 3) := by decide +kernel
theorem dX10_flaw_28 : decode cX10_flaw 28 = .ok (.invokestatic 105, 3) := by decide +kernel
theorem dX10_flaw_31 : decode cX10_flaw 31 = .ok (.ifCond .ne 6, 3) := by decide +kernel
theorem dX10_flaw_34 : decode cX10_flaw 34 = .ok (.bipush (-2), 2) := by decide +kernel
theorem dX10_flaw_36 : decode cX10_flaw 36 = .ok (.ireturn, 1) := by decide +kernel
theorem dX10_flaw_37 : decode cX10_flaw 37 = .ok (.aload_n 0, 1) := by decide +kernel
theorem dX10_flaw_38 : decode cX10_flaw 38 = .ok (.getfield 142, 3) := by decide +kernel
theorem dX10_flaw_41 : decode cX10_flaw 41 = .ok (.bipush 6, 2) := by decide +kernel
theorem dX10_flaw_43 : decode cX10_flaw 43 = .ok (.if_icmp .ne 6, 3) := by decide +kernel
theorem dX10_flaw_46 : decode cX10_flaw 46 = .ok (.bipush (-4), 2) := by decide +kernel
theorem dX10_flaw_48 : decode cX10_flaw 48 = .ok (.ireturn, 1) := by decide +kernel
theorem dX10_flaw_49 : decode cX10_flaw 49 = .ok (.aload_n 0, 1) := by decide +kernel
theorem dX10_flaw_50 : decode cX10_flaw 50 = .ok (.getfield 49, 3) := by decide +kernel
theorem dX10_flaw_53 : decode cX10_flaw 53 = .ok (.aload_n 0, 1) := by decide +kernel
theorem dX10_flaw_54 : decode cX10_flaw 54 = .ok (.getfield 142, 3) := by decide +kernel
theorem dX10_flaw_57 : decode cX10_flaw 57 = .ok (.iload_n 1, 1) := by decide +kernel
theorem dX10_flaw_58 : decode cX10_flaw 58 = .ok (.iastore, 1) := by decide +kernel
theorem dX10_flaw_59 : decode cX10_flaw 59 = .ok (.aload_n 0, 1) := by decide +kernel
theorem dX10_flaw_60 : decode cX10_flaw 60 = .ok (.getfield 52, 3) := by decide +kernel
theorem dX10_flaw_63 : decode cX10_flaw 63 = .ok (.aload_n 0, 1) := by decide +kernel
theorem dX10_flaw_64 : decode cX10_flaw 64 = .ok (.getfield 142, 3) := by decide +kernel
theorem dX10_flaw_67 : decode cX10_flaw 67 = .ok (.iload_n 2, 1) := by decide +kernel
theorem dX10_flaw_68 : decode cX10_flaw 68 = .ok (.iastore, 1) := by decide +kernel
theorem dX10_flaw_69 : decode cX10_flaw 69 = .ok (.aload_n 0, 1) := by decide +kernel
theorem dX10_flaw_70 : decode cX10_flaw 70 = .ok (.getfield 55, 3) := by decide +kernel
theorem dX10_flaw_73 : decode cX10_flaw 73 = .ok (.aload_n 0, 1) := by decide +kernel
theorem dX10_flaw_74 : decode cX10_flaw 74 = .ok (.getfield 142, 3) := by decide +kernel
theorem dX10_flaw_77 : decode cX10_flaw 77 = .ok (.iload_n 3, 1) := by decide +kernel
theorem dX10_flaw_78 : decode cX10_flaw 78 = .ok (.iastore, 1) := by decide +kernel
theorem dX10_flaw_79 : decode cX10_flaw 79 = .ok (.aload_n 0, 1) := by decide +kernel
theorem dX10_flaw_80 : decode cX10_flaw 80 = .ok (.dup, 1) := by decide +kernel
theorem dX10_flaw_81 : decode cX10_flaw 81 = .ok (.getfield 142, 3) := by decide +kernel
theorem dX10_flaw_84 : decode cX10_flaw 84 = .ok (.iconst 1, 1) := by decide +kernel
theorem dX10_flaw_85 : decode cX10_flaw 85 = .ok (.iadd, 1) := by decide +kernel
theorem dX10_flaw_86 : decode cX10_flaw 86 = .ok (.putfield 142, 3) := by decide +kernel
theorem dX10_flaw_89 : decode cX10_flaw 89 = .ok (.aload_n 0, 1) := by decide +kernel
theorem dX10_flaw_90 : decode cX10_flaw 90 = .ok (.getfield 142, 3) := by decide +kernel
theorem dX10_flaw_93 : decode cX10_flaw 93 = .ok (.iconst 1, 1) := by decide +kernel
theorem dX10_flaw_94 : decode cX10_flaw 94 = .ok (.isub, 1) := by decide +kernel
theorem dX10_flaw_95 : decode cX10_flaw 95 = .ok (.ireturn, 1) := by decide +kernel
theorem dX10_ofFlaw_0 : decode cX10_ofFlaw 0 = .ok (.aload_n 0, 1) := by decide +kernel
theorem dX10_ofFlaw_1 : decode cX10_ofFlaw 1 = .ok (.iload_n 1, 1) := by decide +kernel
theorem dX10_ofFlaw_2 : decode cX10_ofFlaw 2 = .ok (.invokevirtual 225, 3) := by decide +kernel
theorem dX10_ofFlaw_5 : decode cX10_ofFlaw 5 = .ok (.ifCond .eq 5, 3) := by decide +kernel
theorem dX10_ofFlaw_8 : decode cX10_ofFlaw 8 = .ok (.iconst (-1), 1) := by decide +kernel
theorem dX10_ofFlaw_9 : decode cX10_ofFlaw 9 = .ok (.ireturn, 1) := by decide +kernel
theorem dX10_ofFlaw_10 : decode cX10_ofFlaw 10 = .ok (.iload_n 2, 1) := by decide +kernel
theorem dX10_ofFlaw_11 : decode cX10_ofFlaw 11 = .ok (.ifCond .ne 12, 3) := by decide +kernel
theorem dX10_ofFlaw_14 : decode cX10_ofFlaw 14 = .ok (.aload_n 0, 1) := by decide +kernel
theorem dX10_ofFlaw_15 : decode cX10_ofFlaw 15 = .ok (.getfield 49, 3) := by decide +kernel
theorem dX10_ofFlaw_18 : decode cX10_ofFlaw 18 = .ok (.iload_n 1, 1) := by decide +kernel
theorem dX10_ofFlaw_19 : decode cX10_ofFlaw 19 = .ok (.iaload, 1) := by decide +kernel
theorem dX10_ofFlaw_20 : decode cX10_ofFlaw 20 = .ok (.goto 33, 3) := by decide +kernel
theorem dX10_ofFlaw_23 : decode cX10_ofFlaw 23 = .ok (.iload_n 2, 1) := by decide +kernel
theorem dX10_ofFlaw_24 : decode cX10_ofFlaw 24 = .ok (.iconst 1, 1) := by decide +kernel
theorem dX10_ofFlaw_25 : decode cX10_ofFlaw 25 = .ok (.if_icmp .ne 12, 3) := by decide +kernel
theorem dX10_ofFlaw_28 : decode cX10_ofFlaw 28 = .ok (.aload_n 0, 1) := by decide +kernel
theorem dX10_ofFlaw_29 : decode cX10_ofFlaw 29 = .ok (.getfield 52, 3) := by decide +kernel
theorem dX10_ofFlaw_32 : decode cX10_ofFlaw 32 = .ok (.iload_n 1, 1) := by decide +kernel
theorem dX10_ofFlaw_33 : decode cX10_ofFlaw 33 = .ok (.iaload, 1) := by decide +kernel
theorem dX10_ofFlaw_34 : decode cX10_ofFlaw 34 = .ok (.goto 19, 3) := by decide +kernel
theorem dX10_ofFlaw_37 : decode cX10_ofFlaw 37 = .ok (.iload_n 2, 1) := by decide +kernel
theorem dX10_ofFlaw_38 : decode cX10_ofFlaw 38 = .ok (.iconst 2, 1) := by decide +kernel
theorem dX10_ofFlaw_39 : decode cX10_ofFlaw 39 = .ok (.if_icmp .ne 12, 3) := by decide +kernel
theorem dX10_ofFlaw_42 : decode cX10_ofFlaw 42 = .ok (.aload_n 0, 1) := by decide +kernel
theorem dX10_ofFlaw_43 : decode cX10_ofFlaw 43 = .ok (.getfield 55, 3) := by decide +kernel
theorem dX10_ofFlaw_46 : decode cX10_ofFlaw 46 = .ok (.iload_n 1, 1) := by decide +kernel
theorem dX10_ofFlaw_47 : decode cX10_ofFlaw 47 = .ok (.iaload, 1) := by decide +kernel
theorem dX10_ofFlaw_48 : decode cX10_ofFlaw 48 = .ok (.goto 5, 3) := by decide +kernel
theorem dX10_ofFlaw_51 : decode cX10_ofFlaw 51 = .ok (.bipush (-2), 2) := by decide +kernel
theorem dX10_ofFlaw_53 : decode cX10_ofFlaw 53 = .ok (.ireturn, 1) := by decide +kernel
theorem dX10_reading_0 : decode cX10_reading 0 = .ok (.aload_n 0, 1) := by decide +kernel
theorem dX10_reading_1 : decode cX10_reading 1 = .ok (.iload_n 1, 1) := by decide +kernel
theorem dX10_reading_2 : decode cX10_reading 2 = .ok (.invokevirtual 180, 3) := by decide +kernel
theorem dX10_reading_5 : decode cX10_reading 5 = .ok (.ifCond .eq 5, 3) := by decide +kernel
theorem dX10_reading_8 : decode cX10_reading 8 = .ok (.iconst (-1), 1) := by decide +kernel
theorem dX10_reading_9 : decode cX10_reading 9 = .ok (.ireturn, 1) := by decide +kernel
theorem dX10_reading_10 : decode cX10_reading 10 = .ok (.aload_n 0, 1) := by decide +kernel
theorem dX10_reading_11 : decode cX10_reading 11 = .ok (.getfield 145, 3) := by decide +kernel
theorem dX10_reading_14 : decode cX10_reading 14 = .ok (.bipush 8, 2) := by decide +kernel
theorem dX10_reading_16 : decode cX10_reading 16 = .ok (.if_icmp .ne 6, 3) := by decide +kernel
theorem dX10_reading_19 : decode cX10_reading 19 = .ok (.bipush (-4), 2) := by decide +kernel
theorem dX10_reading_21 : decode cX10_reading 21 = .ok (.ireturn, 1) := by decide +kernel
theorem dX10_reading_22 : decode cX10_reading 22 = .ok (.aload_n 0, 1) := by decide +kernel
theorem dX10_reading_23 : decode cX10_reading 23 = .ok (.getfield 58, 3) := by decide +kernel
theorem dX10_reading_26 : decode cX10_reading 26 = .ok (.aload_n 0, 1) := by decide +kernel
theorem dX10_reading_27 : decode cX10_reading 27 = .ok (.getfield 145, 3) := by decide +kernel
theorem dX10_reading_30 : decode cX10_reading 30 = .ok (.iload_n 1, 1) := by decide +kernel
theorem dX10_reading_31 : decode cX10_reading 31 = .ok (.iastore, 1) := by decide +kernel
theorem dX10_reading_32 : decode cX10_reading 32 = .ok (.aload_n 0, 1) := by decide +kernel
theorem dX10_reading_33 : decode cX10_reading 33 = .ok (.getfield 61, 3) := by decide +kernel
theorem dX10_reading_36 : decode cX10_reading 36 = .ok (.aload_n 0, 1) := by decide +kernel
theorem dX10_reading_37 : decode cX10_reading 37 = .ok (.getfield 145, 3) := by decide +kernel
theorem dX10_reading_40 : decode cX10_reading 40 = .ok (.iload_n 2, 1) := by decide +kernel
theorem dX10_reading_41 : decode cX10_reading 41 = .ok (.iastore, 1) := by decide +kernel
theorem dX10_reading_42 : decode cX10_reading 42 = .ok (.aload_n 0, 1) := by decide +kernel
theorem dX10_reading_43 : decode cX10_reading 43 = .ok (.dup, 1) := by decide +kernel
theorem dX10_reading_44 : decode cX10_reading 44 = .ok (.getfield 145, 3) := by decide +kernel
theorem dX10_reading_47 : decode cX10_reading 47 = .ok (.iconst 1, 1) := by decide +kernel
theorem dX10_reading_48 : decode cX10_reading 48 = .ok (.iadd, 1) := by decide +kernel
theorem dX10_reading_49 : decode cX10_reading 49 = .ok (.putfield 145, 3) := by decide +kernel
theorem dX10_reading_52 : decode cX10_reading 52 = .ok (.aload_n 0, 1) := by decide +kernel
theorem dX10_reading_53 : decode cX10_reading 53 = .ok (.getfield 145, 3) := by decide +kernel
theorem dX10_reading_56 : decode cX10_reading 56 = .ok (.iconst 1, 1) := by decide +kernel
theorem dX10_reading_57 : decode cX10_reading 57 = .ok (.isub, 1) := by decide +kernel
theorem dX10_reading_58 : decode cX10_reading 58 = .ok (.ireturn, 1) := by decide +kernel
theorem dX10_back_0 : decode cX10_back 0 = .ok (.iload_n 1, 1) := by decide +kernel
theorem dX10_back_1 : decode cX10_back 1 = .ok (.i2l, 1) := by decide +kernel
theorem dX10_back_2 : decode cX10_back 2 = .ok (.lconst 0, 1) := by decide +kernel
theorem dX10_back_3 : decode cX10_back 3 = .ok (.aload_n 0, 1) := by decide +kernel
theorem dX10_back_4 : decode cX10_back 4 = .ok (.getfield 145, 3) := by decide +kernel
theorem dX10_back_7 : decode cX10_back 7 = .ok (.i2l, 1) := by decide +kernel
theorem dX10_back_8 : decode cX10_back 8 = .ok (.invokestatic 105, 3) := by decide +kernel
theorem dX10_back_11 : decode cX10_back 11 = .ok (.ifCond .ne 6, 3) := by decide +kernel
theorem dX10_back_14 : decode cX10_back 14 = .ok (.bipush (-2), 2) := by decide +kernel
theorem dX10_back_16 : decode cX10_back 16 = .ok (.ireturn, 1) := by decide +kernel
theorem dX10_back_17 : decode cX10_back 17 = .ok (.aload_n 0, 1) := by decide +kernel
theorem dX10_back_18 : decode cX10_back 18 = .ok (.dup, 1) := by decide +kernel
theorem dX10_back_19 : decode cX10_back 19 = .ok (.getfield 145, 3) := by decide +kernel
theorem dX10_back_22 : decode cX10_back 22 = .ok (.iload_n 1, 1) := by decide +kernel
theorem dX10_back_23 : decode cX10_back 23 = .ok (.isub, 1) := by decide +kernel
theorem dX10_back_24 : decode cX10_back 24 = .ok (.putfield 145, 3) := by decide +kernel
theorem dX10_back_27 : decode cX10_back 27 = .ok (.aload_n 0, 1) := by decide +kernel
theorem dX10_back_28 : decode cX10_back 28 = .ok (.getfield 145, 3) := by decide +kernel
theorem dX10_back_31 : decode cX10_back 31 = .ok (.ireturn, 1) := by decide +kernel
theorem dX10_doesFit_0 : decode cX10_doesFit 0 = .ok (.aload_n 0, 1) := by decide +kernel
theorem dX10_doesFit_1 : decode cX10_doesFit 1 = .ok (.invokevirtual 210, 3) := by decide +kernel
theorem dX10_doesFit_4 : decode cX10_doesFit 4 = .ok (.iconst 1, 1) := by decide +kernel
theorem dX10_doesFit_5 : decode cX10_doesFit 5 = .ok (.istore_n 1, 1) := by decide +kernel
theorem dX10_doesFit_6 : decode cX10_doesFit 6 = .ok (.iconst 0, 1) := by decide +kernel
theorem dX10_doesFit_7 : decode cX10_doesFit 7 = .ok (.istore_n 2, 1) := by decide +kernel
theorem dX10_doesFit_8 : decode cX10_doesFit 8 = .ok (.iload_n 2, 1) := by decide +kernel
theorem dX10_doesFit_9 : decode cX10_doesFit 9 = .ok (.aload_n 0, 1) := by decide +kernel
theorem dX10_doesFit_10 : decode cX10_doesFit 10 = .ok (.getfield 145, 3) := by decide +kernel
theorem dX10_doesFit_13 : decode cX10_doesFit 13 = .ok (.if_icmp .ge 52, 3) := by decide +kernel
theorem dX10_doesFit_16 : decode cX10_doesFit 16 = .ok (.iload_n 1, 1) := by decide +kernel
theorem dX10_doesFit_17 : decode cX10_doesFit 17 = .ok (.ifCond .eq 40, 3) := by decide +kernel
theorem dX10_doesFit_20 : decode cX10_doesFit 20 = .ok (.aload_n 0, 1) := by decide +kernel
theorem dX10_doesFit_21 : decode cX10_doesFit 21 = .ok (.getfield 58, 3) := by decide +kernel
theorem dX10_doesFit_24 : decode cX10_doesFit 24 = .ok (.iload_n 2, 1) := by decide +kernel
theorem dX10_doesFit_25 : decode cX10_doesFit 25 = .ok (.iaload, 1) := by decide +kernel
theorem dX10_doesFit_26 : decode cX10_doesFit 26 = .ok (.aload_n 0, 1) := by decide +kernel
theorem dX10_doesFit_27 : decode cX10_doesFit 27 = .ok (.getfield 201, 3) := by decide +kernel
theorem dX10_doesFit_30 : decode cX10_doesFit 30 = .ok (.if_icmp .ge 27, 3) := by decide +kernel
theorem dX10_doesFit_33 : decode cX10_doesFit 33 = .ok (.aload_n 0, 1) := by decide +kernel
theorem dX10_doesFit_34 : decode cX10_doesFit 34 = .ok (.getfield 43, 3) := by decide +kernel
theorem dX10_doesFit_37 : decode cX10_doesFit 37 = .ok (.aload_n 0, 1) := by decide +kernel
theorem dX10_doesFit_38 : decode cX10_doesFit 38 = .ok (.getfield 58, 3) := by decide +kernel
theorem dX10_doesFit_41 : decode cX10_doesFit 41 = .ok (.iload_n 2, 1) := by decide +kernel
theorem dX10_doesFit_42 : decode cX10_doesFit 42 = .ok (.iaload, 1) := by decide +kernel
theorem dX10_doesFit_43 : decode cX10_doesFit 43 = .ok (.iaload, 1) := by decide +kernel
theorem dX10_doesFit_44 : decode cX10_doesFit 44 = .ok (.aload_n 0, 1) := by decide +kernel
theorem dX10_doesFit_45 : decode cX10_doesFit 45 = .ok (.getfield 61, 3) := by decide +kernel
theorem dX10_doesFit_48 : decode cX10_doesFit 48 = .ok (.iload_n 2, 1) := by decide +kernel
theorem dX10_doesFit_49 : decode cX10_doesFit 49 = .ok (.iaload, 1) := by decide +kernel
theorem dX10_doesFit_50 : decode cX10_doesFit 50 = .ok (.if_icmp .ne 7, 3) := by decide +kernel
theorem dX10_doesFit_53 : decode cX10_doesFit 53 = .ok (.iconst 1, 1) := by decide +kernel
theorem dX10_doesFit_54 : decode cX10_doesFit 54 = .ok (.goto 4, 3) := by decide +kernel
theorem dX10_doesFit_57 : decode cX10_doesFit 57 = .ok (.iconst 0, 1) := by decide +kernel
theorem dX10_doesFit_58 : decode cX10_doesFit 58 = .ok (.istore_n 1, 1) := by decide +kernel
theorem dX10_doesFit_59 : decode cX10_doesFit 59 = .ok (.iinc 2 1, 3) := by decide +kernel
theorem dX10_doesFit_62 : decode cX10_doesFit 62 = .ok (.goto (-54), 3) := by decide +kernel
theorem dX10_doesFit_65 : decode cX10_doesFit 65 = .ok (.iload_n 1, 1) := by decide +kernel
theorem dX10_doesFit_66 : decode cX10_doesFit 66 = .ok (.ireturn, 1) := by decide +kernel
theorem dX10_doFit_0 : decode cX10_doFit 0 = .ok (.iload_n 1, 1) := by decide +kernel
theorem dX10_doFit_1 : decode cX10_doFit 1 = .ok (.ifCond .ge 7, 3) := by decide +kernel
theorem dX10_doFit_4 : decode cX10_doFit 4 = .ok (.iconst 0, 1) := by decide +kernel
theorem dX10_doFit_5 : decode cX10_doFit 5 = .ok (.goto 25, 3) := by decide +kernel
theorem dX10_doFit_8 : decode cX10_doFit 8 = .ok (.aload_n 0, 1) := by decide +kernel
theorem dX10_doFit_9 : decode cX10_doFit 9 = .ok (.aload_n 0, 1) := by decide +kernel
theorem dX10_doFit_10 : decode cX10_doFit 10 = .ok (.getfield 49, 3) := by decide +kernel
theorem dX10_doFit_13 : decode cX10_doFit 13 = .ok (.iload_n 1, 1) := by decide +kernel
theorem dX10_doFit_14 : decode cX10_doFit 14 = .ok (.iaload, 1) := by decide +kernel
theorem dX10_doFit_15 : decode cX10_doFit 15 = .ok (.aload_n 0, 1) := by decide +kernel
theorem dX10_doFit_16 : decode cX10_doFit 16 = .ok (.getfield 52, 3) := by decide +kernel
theorem dX10_doFit_19 : decode cX10_doFit 19 = .ok (.iload_n 1, 1) := by decide +kernel
theorem dX10_doFit_20 : decode cX10_doFit 20 = .ok (.iaload, 1) := by decide +kernel
theorem dX10_doFit_21 : decode cX10_doFit 21 = .ok (.aload_n 0, 1) := by decide +kernel
theorem dX10_doFit_22 : decode cX10_doFit 22 = .ok (.getfield 55, 3) := by decide +kernel
theorem dX10_doFit_25 : decode cX10_doFit 25 = .ok (.iload_n 1, 1) := by decide +kernel
theorem dX10_doFit_26 : decode cX10_doFit 26 = .ok (.iaload, 1) := by decide +kernel
theorem dX10_doFit_27 : decode cX10_doFit 27 = .ok (.invokevirtual 157, 3) := by decide +kernel
theorem dX10_doFit_30 : decode cX10_doFit 30 = .ok (.istore_n 3, 1) := by decide +kernel
theorem dX10_doFit_31 : decode cX10_doFit 31 = .ok (.iload_n 2, 1) := by decide +kernel
theorem dX10_doFit_32 : decode cX10_doFit 32 = .ok (.ifCond .ge 7, 3) := by decide +kernel
theorem dX10_doFit_35 : decode cX10_doFit 35 = .ok (.iconst 0, 1) := by decide +kernel
theorem dX10_doFit_36 : decode cX10_doFit 36 = .ok (.goto 25, 3) := by decide +kernel
theorem dX10_doFit_39 : decode cX10_doFit 39 = .ok (.aload_n 0, 1) := by decide +kernel
theorem dX10_doFit_40 : decode cX10_doFit 40 = .ok (.aload_n 0, 1) := by decide +kernel
theorem dX10_doFit_41 : decode cX10_doFit 41 = .ok (.getfield 49, 3) := by decide +kernel
theorem dX10_doFit_44 : decode cX10_doFit 44 = .ok (.iload_n 2, 1) := by decide +kernel
theorem dX10_doFit_45 : decode cX10_doFit 45 = .ok (.iaload, 1) := by decide +kernel
theorem dX10_doFit_46 : decode cX10_doFit 46 = .ok (.aload_n 0, 1) := by decide +kernel
theorem dX10_doFit_47 : decode cX10_doFit 47 = .ok (.getfield 52, 3) := by decide +kernel
theorem dX10_doFit_50 : decode cX10_doFit 50 = .ok (.iload_n 2, 1) := by decide +kernel
theorem dX10_doFit_51 : decode cX10_doFit 51 = .ok (.iaload, 1) := by decide +kernel
theorem dX10_doFit_52 : decode cX10_doFit 52 = .ok (.aload_n 0, 1) := by decide +kernel
theorem dX10_doFit_53 : decode cX10_doFit 53 = .ok (.getfield 55, 3) := by decide +kernel
theorem dX10_doFit_56 : decode cX10_doFit 56 = .ok (.iload_n 2, 1) := by decide +kernel
theorem dX10_doFit_57 : decode cX10_doFit 57 = .ok (.iaload, 1) := by decide +kernel
theorem dX10_doFit_58 : decode cX10_doFit 58 = .ok (.invokevirtual 157, 3) := by decide +kernel
theorem dX10_doFit_61 : decode cX10_doFit 61 = .ok (.istore 4, 2) := by decide +kernel
theorem dX10_doFit_63 : decode cX10_doFit 63 = .ok (.aload_n 0, 1) := by decide +kernel
theorem dX10_doFit_64 : decode cX10_doFit 64 = .ok (.invokevirtual 228, 3) := by decide +kernel
theorem dX10_doFit_67 : decode cX10_doFit 67 = .ok (.istore 5, 2) := by decide +kernel
theorem dX10_doFit_69 : decode cX10_doFit 69 = .ok (.iload_n 2, 1) := by decide +kernel
theorem dX10_doFit_70 : decode cX10_doFit 70 = .ok (.ifCond .lt 22, 3) := by decide +kernel
theorem dX10_doFit_73 : decode cX10_doFit 73 = .ok (.aload_n 0, 1) := by decide +kernel
theorem dX10_doFit_74 : decode cX10_doFit 74 = .ok (.aload_n 0, 1) := by decide +kernel
theorem dX10_doFit_75 : decode cX10_doFit 75 = .ok (.getfield 49, 3) := by decide +kernel
theorem dX10_doFit_78 : decode cX10_doFit 78 = .ok (.iload_n 2, 1) := by decide +kernel
theorem dX10_doFit_79 : decode cX10_doFit 79 = .ok (.iaload, 1) := by decide +kernel
theorem dX10_doFit_80 : decode cX10_doFit 80 = .ok (.aload_n 0, 1) := by decide +kernel
theorem dX10_doFit_81 : decode cX10_doFit 81 = .ok (.getfield 52, 3) := by decide +kernel
theorem dX10_doFit_84 : decode cX10_doFit 84 = .ok (.iload_n 2, 1) := by decide +kernel
theorem dX10_doFit_85 : decode cX10_doFit 85 = .ok (.iaload, 1) := by decide +kernel
theorem dX10_doFit_86 : decode cX10_doFit 86 = .ok (.iload 4, 2) := by decide +kernel
theorem dX10_doFit_88 : decode cX10_doFit 88 = .ok (.invokevirtual 157, 3) := by decide +kernel
theorem dX10_doFit_91 : decode cX10_doFit 91 = .ok (.pop, 1) := by decide +kernel
theorem dX10_doFit_92 : decode cX10_doFit 92 = .ok (.iload_n 1, 1) := by decide +kernel
theorem dX10_doFit_93 : decode cX10_doFit 93 = .ok (.ifCond .lt 21, 3) := by decide +kernel
theorem dX10_doFit_96 : decode cX10_doFit 96 = .ok (.aload_n 0, 1) := by decide +kernel
theorem dX10_doFit_97 : decode cX10_doFit 97 = .ok (.aload_n 0, 1) := by decide +kernel
theorem dX10_doFit_98 : decode cX10_doFit 98 = .ok (.getfield 49, 3) := by decide +kernel
theorem dX10_doFit_101 : decode cX10_doFit 101 = .ok (.iload_n 1, 1) := by decide +kernel
theorem dX10_doFit_102 : decode cX10_doFit 102 = .ok (.iaload, 1) := by decide +kernel
theorem dX10_doFit_103 : decode cX10_doFit 103 = .ok (.aload_n 0, 1) := by decide +kernel
theorem dX10_doFit_104 : decode cX10_doFit 104 = .ok (.getfield 52, 3) := by decide +kernel
theorem dX10_doFit_107 : decode cX10_doFit 107 = .ok (.iload_n 1, 1) := by decide +kernel
theorem dX10_doFit_108 : decode cX10_doFit 108 = .ok (.iaload, 1) := by decide +kernel
theorem dX10_doFit_109 : decode cX10_doFit 109 = .ok (.iload_n 3, 1) := by decide +kernel
theorem dX10_doFit_110 : decode cX10_doFit 110 = .ok (.invokevirtual 157, 3) := by decide +kernel
theorem dX10_doFit_113 : decode cX10_doFit 113 = .ok (.pop, 1) := by decide +kernel
theorem dX10_doFit_114 : decode cX10_doFit 114 = .ok (.iload 5, 2) := by decide +kernel
theorem dX10_doFit_116 : decode cX10_doFit 116 = .ok (.ireturn, 1) := by decide +kernel
theorem dX10_layLikely_0 : decode cX10_layLikely 0 = .ok (.aload_n 0, 1) := by decide +kernel
theorem dX10_layLikely_1 : decode cX10_layLikely 1 = .ok (.iconst 0, 1) := by decide +kernel
theorem dX10_layLikely_2 : decode cX10_layLikely 2 = .ok (.putfield 231, 3) := by decide +kernel
theorem dX10_layLikely_5 : decode cX10_layLikely 5 = .ok (.aload_n 0, 1) := by decide +kernel
theorem dX10_layLikely_6 : decode cX10_layLikely 6 = .ok (.bipush (-9), 2) := by decide +kernel
theorem dX10_layLikely_8 : decode cX10_layLikely 8 = .ok (.putfield 234, 3) := by decide +kernel
theorem dX10_layLikely_11 : decode cX10_layLikely 11 = .ok (.iconst 0, 1) := by decide +kernel
theorem dX10_layLikely_12 : decode cX10_layLikely 12 = .ok (.istore_n 1, 1) := by decide +kernel
theorem dX10_layLikely_13 : decode cX10_layLikely 13 = .ok (.iload_n 1, 1) := by decide +kernel
theorem dX10_layLikely_14 : decode cX10_layLikely 14 = .ok (.bipush 6, 2) := by decide +kernel
theorem dX10_layLikely_16 : decode cX10_layLikely 16 = .ok (.if_icmp .ge 16, 3) := by decide +kernel
theorem dX10_layLikely_19 : decode cX10_layLikely 19 = .ok (.aload_n 0, 1) := by decide +kernel
theorem dX10_layLikely_20 : decode cX10_layLikely 20 = .ok (.getfield 64, 3) := by decide +kernel
theorem dX10_layLikely_23 : decode cX10_layLikely 23 = .ok (.iload_n 1, 1) := by decide +kernel
theorem dX10_layLikely_24 : decode cX10_layLikely 24 = .ok (.iconst 0, 1) := by decide +kernel
theorem dX10_layLikely_25 : decode cX10_layLikely 25 = .ok (.iastore, 1) := by decide +kernel
theorem dX10_layLikely_26 : decode cX10_layLikely 26 = .ok (.iinc 1 1, 3) := by decide +kernel
theorem dX10_layLikely_29 : decode cX10_layLikely 29 = .ok (.goto (-16), 3) := by decide +kernel
theorem dX10_layLikely_32 : decode cX10_layLikely 32 = .ok (.aload_n 0, 1) := by decide +kernel
theorem dX10_layLikely_33 : decode cX10_layLikely 33 = .ok (.bipush (-9), 2) := by decide +kernel
theorem dX10_layLikely_35 : decode cX10_layLikely 35 = .ok (.bipush (-9), 2) := by decide +kernel
theorem dX10_layLikely_37 : decode cX10_layLikely 37 = .ok (.invokevirtual 237, 3) := by decide +kernel
theorem dX10_layLikely_40 : decode cX10_layLikely 40 = .ok (.ifCond .eq 18, 3) := by decide +kernel
theorem dX10_layLikely_43 : decode cX10_layLikely 43 = .ok (.aload_n 0, 1) := by decide +kernel
theorem dX10_layLikely_44 : decode cX10_layLikely 44 = .ok (.dup, 1) := by decide +kernel
theorem dX10_layLikely_45 : decode cX10_layLikely 45 = .ok (.getfield 231, 3) := by decide +kernel
theorem dX10_layLikely_48 : decode cX10_layLikely 48 = .ok (.iconst 1, 1) := by decide +kernel
theorem dX10_layLikely_49 : decode cX10_layLikely 49 = .ok (.iadd, 1) := by decide +kernel
theorem dX10_layLikely_50 : decode cX10_layLikely 50 = .ok (.putfield 231, 3) := by decide +kernel
theorem dX10_layLikely_53 : decode cX10_layLikely 53 = .ok (.aload_n 0, 1) := by decide +kernel
theorem dX10_layLikely_54 : decode cX10_layLikely 54 = .ok (.iconst 0, 1) := by decide +kernel
theorem dX10_layLikely_55 : decode cX10_layLikely 55 = .ok (.putfield 234, 3) := by decide +kernel
theorem dX10_layLikely_58 : decode cX10_layLikely 58 = .ok (.iconst 0, 1) := by decide +kernel
theorem dX10_layLikely_59 : decode cX10_layLikely 59 = .ok (.istore_n 1, 1) := by decide +kernel
theorem dX10_layLikely_60 : decode cX10_layLikely 60 = .ok (.iload_n 1, 1) := by decide +kernel
theorem dX10_layLikely_61 : decode cX10_layLikely 61 = .ok (.aload_n 0, 1) := by decide +kernel
theorem dX10_layLikely_62 : decode cX10_layLikely 62 = .ok (.getfield 142, 3) := by decide +kernel
theorem dX10_layLikely_65 : decode cX10_layLikely 65 = .ok (.if_icmp .ge 60, 3) := by decide +kernel
theorem dX10_layLikely_68 : decode cX10_layLikely 68 = .ok (.aload_n 0, 1) := by decide +kernel
theorem dX10_layLikely_69 : decode cX10_layLikely 69 = .ok (.iload_n 1, 1) := by decide +kernel
theorem dX10_layLikely_70 : decode cX10_layLikely 70 = .ok (.bipush (-9), 2) := by decide +kernel
theorem dX10_layLikely_72 : decode cX10_layLikely 72 = .ok (.invokevirtual 237, 3) := by decide +kernel
theorem dX10_layLikely_75 : decode cX10_layLikely 75 = .ok (.ifCond .eq 44, 3) := by decide +kernel
theorem dX10_layLikely_78 : decode cX10_layLikely 78 = .ok (.aload_n 0, 1) := by decide +kernel
theorem dX10_layLikely_79 : decode cX10_layLikely 79 = .ok (.dup, 1) := by decide +kernel
theorem dX10_layLikely_80 : decode cX10_layLikely 80 = .ok (.getfield 231, 3) := by decide +kernel
theorem dX10_layLikely_83 : decode cX10_layLikely 83 = .ok (.iconst 1, 1) := by decide +kernel
theorem dX10_layLikely_84 : decode cX10_layLikely 84 = .ok (.iadd, 1) := by decide +kernel
theorem dX10_layLikely_85 : decode cX10_layLikely 85 = .ok (.putfield 231, 3) := by decide +kernel
theorem dX10_layLikely_88 : decode cX10_layLikely 88 = .ok (.aload_n 0, 1) := by decide +kernel
theorem dX10_layLikely_89 : decode cX10_layLikely 89 = .ok (.getfield 64, 3) := by decide +kernel
theorem dX10_layLikely_92 : decode cX10_layLikely 92 = .ok (.iload_n 1, 1) := by decide +kernel
theorem dX10_layLikely_93 : decode cX10_layLikely 93 = .ok (.dup2, 1) := by decide +kernel
theorem dX10_layLikely_94 : decode cX10_layLikely 94 = .ok (.iaload, 1) := by decide +kernel
theorem dX10_layLikely_95 : decode cX10_layLikely 95 = .ok (.iconst 1, 1) := by decide +kernel
theorem dX10_layLikely_96 : decode cX10_layLikely 96 = .ok (.iadd, 1) := by decide +kernel
theorem dX10_layLikely_97 : decode cX10_layLikely 97 = .ok (.iastore, 1) := by decide +kernel
theorem dX10_layLikely_98 : decode cX10_layLikely 98 = .ok (.aload_n 0, 1) := by decide +kernel
theorem dX10_layLikely_99 : decode cX10_layLikely 99 = .ok (.aload_n 0, 1) := by decide +kernel
theorem dX10_layLikely_100 : decode cX10_layLikely 100 = .ok (.getfield 234, 3) := by decide +kernel
theorem dX10_layLikely_103 : decode cX10_layLikely 103 = .ok (.ifCond .ge 9, 3) := by decide +kernel
theorem dX10_layLikely_106 : decode cX10_layLikely 106 = .ok (.iconst 1, 1) := by decide +kernel
theorem dX10_layLikely_107 : decode cX10_layLikely 107 = .ok (.iload_n 1, 1) := by decide +kernel
theorem dX10_layLikely_108 : decode cX10_layLikely 108 = .ok (.ishl, 1) := by decide +kernel
theorem dX10_layLikely_109 : decode cX10_layLikely 109 = .ok (.goto 7, 3) := by decide +kernel
theorem dX10_layLikely_112 : decode cX10_layLikely 112 = .ok (.aload_n 0, 1) := by decide +kernel
theorem dX10_layLikely_113 : decode cX10_layLikely 113 = .ok (.getfield 234, 3) := by decide +kernel
theorem dX10_layLikely_116 : decode cX10_layLikely 116 = .ok (.putfield 234, 3) := by decide +kernel
theorem dX10_layLikely_119 : decode cX10_layLikely 119 = .ok (.iinc 1 1, 3) := by decide +kernel
theorem dX10_layLikely_122 : decode cX10_layLikely 122 = .ok (.goto (-62), 3) := by decide +kernel
theorem dX10_layLikely_125 : decode cX10_layLikely 125 = .ok (.aload_n 0, 1) := by decide +kernel
theorem dX10_layLikely_126 : decode cX10_layLikely 126 = .ok (.getfield 234, 3) := by decide +kernel
theorem dX10_layLikely_129 : decode cX10_layLikely 129 = .ok (.ifCond .lt 7, 3) := by decide +kernel
theorem dX10_layLikely_132 : decode cX10_layLikely 132 = .ok (.iconst 1, 1) := by decide +kernel
theorem dX10_layLikely_133 : decode cX10_layLikely 133 = .ok (.goto 4, 3) := by decide +kernel
theorem dX10_layLikely_136 : decode cX10_layLikely 136 = .ok (.iconst 0, 1) := by decide +kernel
theorem dX10_layLikely_137 : decode cX10_layLikely 137 = .ok (.istore_n 1, 1) := by decide +kernel
theorem dX10_layLikely_138 : decode cX10_layLikely 138 = .ok (.iconst 1, 1) := by decide +kernel
theorem dX10_layLikely_139 : decode cX10_layLikely 139 = .ok (.istore_n 2, 1) := by decide +kernel
theorem dX10_layLikely_140 : decode cX10_layLikely 140 = .ok (.iload_n 2, 1) := by decide +kernel
theorem dX10_layLikely_141 : decode cX10_layLikely 141 = .ok (.aload_n 0, 1) := by decide +kernel
theorem dX10_layLikely_142 : decode cX10_layLikely 142 = .ok (.getfield 142, 3) := by decide +kernel
theorem dX10_layLikely_145 : decode cX10_layLikely 145 = .ok (.if_icmp .ge 90, 3) := by decide +kernel
theorem dX10_layLikely_148 : decode cX10_layLikely 148 = .ok (.iconst 0, 1) := by decide +kernel
theorem dX10_layLikely_149 : decode cX10_layLikely 149 = .ok (.istore_n 3, 1) := by decide +kernel
theorem dX10_layLikely_150 : decode cX10_layLikely 150 = .ok (.iload_n 3, 1) := by decide +kernel
theorem dX10_layLikely_151 : decode cX10_layLikely 151 = .ok (.iload_n 2, 1) := by decide +kernel
theorem dX10_layLikely_152 : decode cX10_layLikely 152 = .ok (.if_icmp .ge 77, 3) := by decide +kernel
theorem dX10_layLikely_155 : decode cX10_layLikely 155 = .ok (.aload_n 0, 1) := by decide +kernel
theorem dX10_layLikely_156 : decode cX10_layLikely 156 = .ok (.iload_n 3, 1) := by decide +kernel
theorem dX10_layLikely_157 : decode cX10_layLikely 157 = .ok (.iload_n 2, 1) := by decide +kernel
theorem dX10_layLikely_158 : decode cX10_layLikely 158 = .ok (.invokevirtual 237, 3) := by decide +kernel
theorem dX10_layLikely_161 : decode cX10_layLikely 161 = .ok (.ifCond .eq 62, 3) := by decide +kernel
theorem dX10_layLikely_164 : decode cX10_layLikely 164 = .ok (.aload_n 0, 1) := by decide +kernel
theorem dX10_layLikely_165 : decode cX10_layLikely 165 = .ok (.dup, 1) := by decide +kernel
theorem dX10_layLikely_166 : decode cX10_layLikely 166 = .ok (.getfield 231, 3) := by decide +kernel
theorem dX10_layLikely_169 : decode cX10_layLikely 169 = .ok (.iconst 1, 1) := by decide +kernel
theorem dX10_layLikely_170 : decode cX10_layLikely 170 = .ok (.iadd, 1) := by decide +kernel
theorem dX10_layLikely_171 : decode cX10_layLikely 171 = .ok (.putfield 231, 3) := by decide +kernel
theorem dX10_layLikely_174 : decode cX10_layLikely 174 = .ok (.aload_n 0, 1) := by decide +kernel
theorem dX10_layLikely_175 : decode cX10_layLikely 175 = .ok (.getfield 64, 3) := by decide +kernel
theorem dX10_layLikely_178 : decode cX10_layLikely 178 = .ok (.iload_n 3, 1) := by decide +kernel
theorem dX10_layLikely_179 : decode cX10_layLikely 179 = .ok (.dup2, 1) := by decide +kernel
theorem dX10_layLikely_180 : decode cX10_layLikely 180 = .ok (.iaload, 1) := by decide +kernel
theorem dX10_layLikely_181 : decode cX10_layLikely 181 = .ok (.iconst 1, 1) := by decide +kernel
theorem dX10_layLikely_182 : decode cX10_layLikely 182 = .ok (.iadd, 1) := by decide +kernel
theorem dX10_layLikely_183 : decode cX10_layLikely 183 = .ok (.iastore, 1) := by decide +kernel
theorem dX10_layLikely_184 : decode cX10_layLikely 184 = .ok (.aload_n 0, 1) := by decide +kernel
theorem dX10_layLikely_185 : decode cX10_layLikely 185 = .ok (.getfield 64, 3) := by decide +kernel
theorem dX10_layLikely_188 : decode cX10_layLikely 188 = .ok (.iload_n 2, 1) := by decide +kernel
theorem dX10_layLikely_189 : decode cX10_layLikely 189 = .ok (.dup2, 1) := by decide +kernel
theorem dX10_layLikely_190 : decode cX10_layLikely 190 = .ok (.iaload, 1) := by decide +kernel
theorem dX10_layLikely_191 : decode cX10_layLikely 191 = .ok (.iconst 1, 1) := by decide +kernel
theorem dX10_layLikely_192 : decode cX10_layLikely 192 = .ok (.iadd, 1) := by decide +kernel
theorem dX10_layLikely_193 : decode cX10_layLikely 193 = .ok (.iastore, 1) := by decide +kernel
theorem dX10_layLikely_194 : decode cX10_layLikely 194 = .ok (.aload_n 0, 1) := by decide +kernel
theorem dX10_layLikely_195 : decode cX10_layLikely 195 = .ok (.iload_n 1, 1) := by decide +kernel
theorem dX10_layLikely_196 : decode cX10_layLikely 196 = .ok (.ifCond .ne 20, 3) := by decide +kernel
theorem dX10_layLikely_199 : decode cX10_layLikely 199 = .ok (.aload_n 0, 1) := by decide +kernel
theorem dX10_layLikely_200 : decode cX10_layLikely 200 = .ok (.getfield 234, 3) := by decide +kernel
theorem dX10_layLikely_203 : decode cX10_layLikely 203 = .ok (.ifCond .ge 13, 3) := by decide +kernel
theorem dX10_layLikely_206 : decode cX10_layLikely 206 = .ok (.iconst 1, 1) := by decide +kernel
theorem dX10_layLikely_207 : decode cX10_layLikely 207 = .ok (.iload_n 3, 1) := by decide +kernel
theorem dX10_layLikely_208 : decode cX10_layLikely 208 = .ok (.ishl, 1) := by decide +kernel
theorem dX10_layLikely_209 : decode cX10_layLikely 209 = .ok (.iconst 1, 1) := by decide +kernel
theorem dX10_layLikely_210 : decode cX10_layLikely 210 = .ok (.iload_n 2, 1) := by decide +kernel
theorem dX10_layLikely_211 : decode cX10_layLikely 211 = .ok (.ishl, 1) := by decide +kernel
theorem dX10_layLikely_212 : decode cX10_layLikely 212 = .ok (.ior, 1) := by decide +kernel
theorem dX10_layLikely_213 : decode cX10_layLikely 213 = .ok (.goto 7, 3) := by decide +kernel
theorem dX10_layLikely_216 : decode cX10_layLikely 216 = .ok (.aload_n 0, 1) := by decide +kernel
theorem dX10_layLikely_217 : decode cX10_layLikely 217 = .ok (.getfield 234, 3) := by decide +kernel
theorem dX10_layLikely_220 : decode cX10_layLikely 220 = .ok (.putfield 234, 3) := by decide +kernel
theorem dX10_layLikely_223 : decode cX10_layLikely 223 = .ok (.iinc 3 1, 3) := by decide +kernel
theorem dX10_layLikely_226 : decode cX10_layLikely 226 = .ok (.goto (-76), 3) := by decide +kernel
theorem dX10_layLikely_229 : decode cX10_layLikely 229 = .ok (.iinc 2 1, 3) := by decide +kernel
theorem dX10_layLikely_232 : decode cX10_layLikely 232 = .ok (.goto (-92), 3) := by decide +kernel
theorem dX10_layLikely_235 : decode cX10_layLikely 235 = .ok (.return_, 1) := by decide +kernel
theorem dX10_likely_0 : decode cX10_likely 0 = .ok (.iload_n 1, 1) := by decide +kernel
theorem dX10_likely_1 : decode cX10_likely 1 = .ok (.i2l, 1) := by decide +kernel
theorem dX10_likely_2 : decode cX10_likely 2 = .ok (.lconst 0, 1) := by decide +kernel
theorem dX10_likely_3 : decode cX10_likely 3 = .ok (.lconst 1, 1) := by decide +kernel
theorem dX10_likely_4 : decode cX10_likely 4 = .ok (.invokestatic 105, 3) := by decide +kernel
theorem dX10_likely_7 : decode cX10_likely 7 = .ok (.ifCond .ne 6, 3) := by decide +kernel
theorem dX10_likely_10 : decode cX10_likely 10 = .ok (.bipush (-2), 2) := by decide +kernel
theorem dX10_likely_12 : decode cX10_likely 12 = .ok (.ireturn, 1) := by decide +kernel
theorem dX10_likely_13 : decode cX10_likely 13 = .ok (.aload_n 0, 1) := by decide +kernel
theorem dX10_likely_14 : decode cX10_likely 14 = .ok (.invokevirtual 216, 3) := by decide +kernel
theorem dX10_likely_17 : decode cX10_likely 17 = .ok (.ifCond .eq 6, 3) := by decide +kernel
theorem dX10_likely_20 : decode cX10_likely 20 = .ok (.bipush (-3), 2) := by decide +kernel
theorem dX10_likely_22 : decode cX10_likely 22 = .ok (.ireturn, 1) := by decide +kernel
theorem dX10_likely_23 : decode cX10_likely 23 = .ok (.aload_n 0, 1) := by decide +kernel
theorem dX10_likely_24 : decode cX10_likely 24 = .ok (.invokevirtual 240, 3) := by decide +kernel
theorem dX10_likely_27 : decode cX10_likely 27 = .ok (.iload_n 1, 1) := by decide +kernel
theorem dX10_likely_28 : decode cX10_likely 28 = .ok (.ifCond .ne 10, 3) := by decide +kernel
theorem dX10_likely_31 : decode cX10_likely 31 = .ok (.aload_n 0, 1) := by decide +kernel
theorem dX10_likely_32 : decode cX10_likely 32 = .ok (.getfield 231, 3) := by decide +kernel
theorem dX10_likely_35 : decode cX10_likely 35 = .ok (.goto 7, 3) := by decide +kernel
theorem dX10_likely_38 : decode cX10_likely 38 = .ok (.aload_n 0, 1) := by decide +kernel
theorem dX10_likely_39 : decode cX10_likely 39 = .ok (.getfield 234, 3) := by decide +kernel
theorem dX10_likely_42 : decode cX10_likely 42 = .ok (.ireturn, 1) := by decide +kernel
theorem dX10_each_0 : decode cX10_each 0 = .ok (.aload_n 0, 1) := by decide +kernel
theorem dX10_each_1 : decode cX10_each 1 = .ok (.iload_n 1, 1) := by decide +kernel
theorem dX10_each_2 : decode cX10_each 2 = .ok (.invokevirtual 225, 3) := by decide +kernel
theorem dX10_each_5 : decode cX10_each 5 = .ok (.ifCond .eq 5, 3) := by decide +kernel
theorem dX10_each_8 : decode cX10_each 8 = .ok (.iconst (-1), 1) := by decide +kernel
theorem dX10_each_9 : decode cX10_each 9 = .ok (.ireturn, 1) := by decide +kernel
theorem dX10_each_10 : decode cX10_each 10 = .ok (.aload_n 0, 1) := by decide +kernel
theorem dX10_each_11 : decode cX10_each 11 = .ok (.invokevirtual 216, 3) := by decide +kernel
theorem dX10_each_14 : decode cX10_each 14 = .ok (.ifCond .eq 6, 3) := by decide +kernel
theorem dX10_each_17 : decode cX10_each 17 = .ok (.bipush (-3), 2) := by decide +kernel
theorem dX10_each_19 : decode cX10_each 19 = .ok (.ireturn, 1) := by decide +kernel
theorem dX10_each_20 : decode cX10_each 20 = .ok (.aload_n 0, 1) := by decide +kernel
theorem dX10_each_21 : decode cX10_each 21 = .ok (.invokevirtual 240, 3) := by decide +kernel
theorem dX10_each_24 : decode cX10_each 24 = .ok (.aload_n 0, 1) := by decide +kernel
theorem dX10_each_25 : decode cX10_each 25 = .ok (.getfield 64, 3) := by decide +kernel
theorem dX10_each_28 : decode cX10_each 28 = .ok (.iload_n 1, 1) := by decide +kernel
theorem dX10_each_29 : decode cX10_each 29 = .ok (.iaload, 1) := by decide +kernel
theorem dX10_each_30 : decode cX10_each 30 = .ok (.ireturn, 1) := by decide +kernel
theorem dX10_mayBe_0 : decode cX10_mayBe 0 = .ok (.iload_n 2, 1) := by decide +kernel
theorem dX10_mayBe_1 : decode cX10_mayBe 1 = .ok (.tableswitch 103 0 2 #[27, 53, 77], 27) := by decide +kernel
theorem dX10_mayBe_28 : decode cX10_mayBe 28 = .ok (.aload_n 0, 1) := by decide +kernel
theorem dX10_mayBe_29 : decode cX10_mayBe 29 = .ok (.getfield 22, 3) := by decide +kernel
theorem dX10_mayBe_32 : decode cX10_mayBe 32 = .ok (.iload_n 1, 1) := by decide +kernel
theorem dX10_mayBe_33 : decode cX10_mayBe 33 = .ok (.iaload, 1) := by decide +kernel
theorem dX10_mayBe_34 : decode cX10_mayBe 34 = .ok (.bipush 8, 2) := by decide +kernel
theorem dX10_mayBe_36 : decode cX10_mayBe 36 = .ok (.if_icmp .ge 16, 3) := by decide +kernel
theorem dX10_mayBe_39 : decode cX10_mayBe 39 = .ok (.aload_n 0, 1) := by decide +kernel
theorem dX10_mayBe_40 : decode cX10_mayBe 40 = .ok (.getfield 19, 3) := by decide +kernel
theorem dX10_mayBe_43 : decode cX10_mayBe 43 = .ok (.iload_n 1, 1) := by decide +kernel
theorem dX10_mayBe_44 : decode cX10_mayBe 44 = .ok (.iaload, 1) := by decide +kernel
theorem dX10_mayBe_45 : decode cX10_mayBe 45 = .ok (.ifCond .le 7, 3) := by decide +kernel
theorem dX10_mayBe_48 : decode cX10_mayBe 48 = .ok (.iconst 1, 1) := by decide +kernel
theorem dX10_mayBe_49 : decode cX10_mayBe 49 = .ok (.goto 4, 3) := by decide +kernel
theorem dX10_mayBe_52 : decode cX10_mayBe 52 = .ok (.iconst 0, 1) := by decide +kernel
theorem dX10_mayBe_53 : decode cX10_mayBe 53 = .ok (.ireturn, 1) := by decide +kernel
theorem dX10_mayBe_54 : decode cX10_mayBe 54 = .ok (.aload_n 0, 1) := by decide +kernel
theorem dX10_mayBe_55 : decode cX10_mayBe 55 = .ok (.getfield 7, 3) := by decide +kernel
theorem dX10_mayBe_58 : decode cX10_mayBe 58 = .ok (.iload_n 1, 1) := by decide +kernel
theorem dX10_mayBe_59 : decode cX10_mayBe 59 = .ok (.iaload, 1) := by decide +kernel
theorem dX10_mayBe_60 : decode cX10_mayBe 60 = .ok (.ifCond .le 16, 3) := by decide +kernel
theorem dX10_mayBe_63 : decode cX10_mayBe 63 = .ok (.aload_n 0, 1) := by decide +kernel
theorem dX10_mayBe_64 : decode cX10_mayBe 64 = .ok (.getfield 16, 3) := by decide +kernel
theorem dX10_mayBe_67 : decode cX10_mayBe 67 = .ok (.iload_n 1, 1) := by decide +kernel
theorem dX10_mayBe_68 : decode cX10_mayBe 68 = .ok (.iaload, 1) := by decide +kernel
theorem dX10_mayBe_69 : decode cX10_mayBe 69 = .ok (.ifCond .le 7, 3) := by decide +kernel
theorem dX10_mayBe_72 : decode cX10_mayBe 72 = .ok (.iconst 1, 1) := by decide +kernel
theorem dX10_mayBe_73 : decode cX10_mayBe 73 = .ok (.goto 4, 3) := by decide +kernel
theorem dX10_mayBe_76 : decode cX10_mayBe 76 = .ok (.iconst 0, 1) := by decide +kernel
theorem dX10_mayBe_77 : decode cX10_mayBe 77 = .ok (.ireturn, 1) := by decide +kernel
theorem dX10_mayBe_78 : decode cX10_mayBe 78 = .ok (.aload_n 0, 1) := by decide +kernel
theorem dX10_mayBe_79 : decode cX10_mayBe 79 = .ok (.getfield 7, 3) := by decide +kernel
theorem dX10_mayBe_82 : decode cX10_mayBe 82 = .ok (.iload_n 1, 1) := by decide +kernel
theorem dX10_mayBe_83 : decode cX10_mayBe 83 = .ok (.iaload, 1) := by decide +kernel
theorem dX10_mayBe_84 : decode cX10_mayBe 84 = .ok (.ifCond .le 18, 3) := by decide +kernel
theorem dX10_mayBe_87 : decode cX10_mayBe 87 = .ok (.aload_n 0, 1) := by decide +kernel
theorem dX10_mayBe_88 : decode cX10_mayBe 88 = .ok (.getfield 16, 3) := by decide +kernel
theorem dX10_mayBe_91 : decode cX10_mayBe 91 = .ok (.iload_n 1, 1) := by decide +kernel
theorem dX10_mayBe_92 : decode cX10_mayBe 92 = .ok (.iaload, 1) := by decide +kernel
theorem dX10_mayBe_93 : decode cX10_mayBe 93 = .ok (.bipush 9, 2) := by decide +kernel
theorem dX10_mayBe_95 : decode cX10_mayBe 95 = .ok (.if_icmp .ge 7, 3) := by decide +kernel
theorem dX10_mayBe_98 : decode cX10_mayBe 98 = .ok (.iconst 1, 1) := by decide +kernel
theorem dX10_mayBe_99 : decode cX10_mayBe 99 = .ok (.goto 4, 3) := by decide +kernel
theorem dX10_mayBe_102 : decode cX10_mayBe 102 = .ok (.iconst 0, 1) := by decide +kernel
theorem dX10_mayBe_103 : decode cX10_mayBe 103 = .ok (.ireturn, 1) := by decide +kernel
theorem dX10_mayBe_104 : decode cX10_mayBe 104 = .ok (.aload_n 0, 1) := by decide +kernel
theorem dX10_mayBe_105 : decode cX10_mayBe 105 = .ok (.getfield 19, 3) := by decide +kernel
theorem dX10_mayBe_108 : decode cX10_mayBe 108 = .ok (.iload_n 1, 1) := by decide +kernel
theorem dX10_mayBe_109 : decode cX10_mayBe 109 = .ok (.iaload, 1) := by decide +kernel
theorem dX10_mayBe_110 : decode cX10_mayBe 110 = .ok (.ifCond .le 7, 3) := by decide +kernel
theorem dX10_mayBe_113 : decode cX10_mayBe 113 = .ok (.iconst 1, 1) := by decide +kernel
theorem dX10_mayBe_114 : decode cX10_mayBe 114 = .ok (.goto 4, 3) := by decide +kernel
theorem dX10_mayBe_117 : decode cX10_mayBe 117 = .ok (.iconst 0, 1) := by decide +kernel
theorem dX10_mayBe_118 : decode cX10_mayBe 118 = .ok (.ireturn, 1) := by decide +kernel
theorem dX10_doAct_0 : decode cX10_doAct 0 = .ok (.iload_n 2, 1) := by decide +kernel
theorem dX10_doAct_1 : decode cX10_doAct 1 = .ok (.ifCond .ne 26, 3) := by decide +kernel
theorem dX10_doAct_4 : decode cX10_doAct 4 = .ok (.aload_n 0, 1) := by decide +kernel
theorem dX10_doAct_5 : decode cX10_doAct 5 = .ok (.getfield 22, 3) := by decide +kernel
theorem dX10_doAct_8 : decode cX10_doAct 8 = .ok (.iload_n 1, 1) := by decide +kernel
theorem dX10_doAct_9 : decode cX10_doAct 9 = .ok (.dup2, 1) := by decide +kernel
theorem dX10_doAct_10 : decode cX10_doAct 10 = .ok (.iaload, 1) := by decide +kernel
theorem dX10_doAct_11 : decode cX10_doAct 11 = .ok (.iconst 2, 1) := by decide +kernel
theorem dX10_doAct_12 : decode cX10_doAct 12 = .ok (.iadd, 1) := by decide +kernel
theorem dX10_doAct_13 : decode cX10_doAct 13 = .ok (.iastore, 1) := by decide +kernel
theorem dX10_doAct_14 : decode cX10_doAct 14 = .ok (.aload_n 0, 1) := by decide +kernel
theorem dX10_doAct_15 : decode cX10_doAct 15 = .ok (.getfield 19, 3) := by decide +kernel
theorem dX10_doAct_18 : decode cX10_doAct 18 = .ok (.iload_n 1, 1) := by decide +kernel
theorem dX10_doAct_19 : decode cX10_doAct 19 = .ok (.dup2, 1) := by decide +kernel
theorem dX10_doAct_20 : decode cX10_doAct 20 = .ok (.iaload, 1) := by decide +kernel
theorem dX10_doAct_21 : decode cX10_doAct 21 = .ok (.iconst 1, 1) := by decide +kernel
theorem dX10_doAct_22 : decode cX10_doAct 22 = .ok (.isub, 1) := by decide +kernel
theorem dX10_doAct_23 : decode cX10_doAct 23 = .ok (.iastore, 1) := by decide +kernel
theorem dX10_doAct_24 : decode cX10_doAct 24 = .ok (.goto 46, 3) := by decide +kernel
theorem dX10_doAct_27 : decode cX10_doAct 27 = .ok (.iload_n 2, 1) := by decide +kernel
theorem dX10_doAct_28 : decode cX10_doAct 28 = .ok (.iconst 1, 1) := by decide +kernel
theorem dX10_doAct_29 : decode cX10_doAct 29 = .ok (.if_icmp .ne 16, 3) := by decide +kernel
theorem dX10_doAct_32 : decode cX10_doAct 32 = .ok (.aload_n 0, 1) := by decide +kernel
theorem dX10_doAct_33 : decode cX10_doAct 33 = .ok (.getfield 16, 3) := by decide +kernel
theorem dX10_doAct_36 : decode cX10_doAct 36 = .ok (.iload_n 1, 1) := by decide +kernel
theorem dX10_doAct_37 : decode cX10_doAct 37 = .ok (.dup2, 1) := by decide +kernel
theorem dX10_doAct_38 : decode cX10_doAct 38 = .ok (.iaload, 1) := by decide +kernel
theorem dX10_doAct_39 : decode cX10_doAct 39 = .ok (.iconst 1, 1) := by decide +kernel
theorem dX10_doAct_40 : decode cX10_doAct 40 = .ok (.isub, 1) := by decide +kernel
theorem dX10_doAct_41 : decode cX10_doAct 41 = .ok (.iastore, 1) := by decide +kernel
theorem dX10_doAct_42 : decode cX10_doAct 42 = .ok (.goto 28, 3) := by decide +kernel
theorem dX10_doAct_45 : decode cX10_doAct 45 = .ok (.iload_n 2, 1) := by decide +kernel
theorem dX10_doAct_46 : decode cX10_doAct 46 = .ok (.iconst 2, 1) := by decide +kernel
theorem dX10_doAct_47 : decode cX10_doAct 47 = .ok (.if_icmp .ne 16, 3) := by decide +kernel
theorem dX10_doAct_50 : decode cX10_doAct 50 = .ok (.aload_n 0, 1) := by decide +kernel
theorem dX10_doAct_51 : decode cX10_doAct 51 = .ok (.getfield 16, 3) := by decide +kernel
theorem dX10_doAct_54 : decode cX10_doAct 54 = .ok (.iload_n 1, 1) := by decide +kernel
theorem dX10_doAct_55 : decode cX10_doAct 55 = .ok (.dup2, 1) := by decide +kernel
theorem dX10_doAct_56 : decode cX10_doAct 56 = .ok (.iaload, 1) := by decide +kernel
theorem dX10_doAct_57 : decode cX10_doAct 57 = .ok (.iconst 1, 1) := by decide +kernel
theorem dX10_doAct_58 : decode cX10_doAct 58 = .ok (.iadd, 1) := by decide +kernel
theorem dX10_doAct_59 : decode cX10_doAct 59 = .ok (.iastore, 1) := by decide +kernel
theorem dX10_doAct_60 : decode cX10_doAct 60 = .ok (.goto 10, 3) := by decide +kernel
theorem dX10_doAct_63 : decode cX10_doAct 63 = .ok (.aload_n 0, 1) := by decide +kernel
theorem dX10_doAct_64 : decode cX10_doAct 64 = .ok (.getfield 19, 3) := by decide +kernel
theorem dX10_doAct_67 : decode cX10_doAct 67 = .ok (.iload_n 1, 1) := by decide +kernel
theorem dX10_doAct_68 : decode cX10_doAct 68 = .ok (.iconst 0, 1) := by decide +kernel
theorem dX10_doAct_69 : decode cX10_doAct 69 = .ok (.iastore, 1) := by decide +kernel
theorem dX10_doAct_70 : decode cX10_doAct 70 = .ok (.return_, 1) := by decide +kernel
theorem dX10_costOf_0 : decode cX10_costOf 0 = .ok (.iload_n 0, 1) := by decide +kernel
theorem dX10_costOf_1 : decode cX10_costOf 1 = .ok (.ifCond .ne 7, 3) := by decide +kernel
theorem dX10_costOf_4 : decode cX10_costOf 4 = .ok (.iconst 2, 1) := by decide +kernel
theorem dX10_costOf_5 : decode cX10_costOf 5 = .ok (.goto 13, 3) := by decide +kernel
theorem dX10_costOf_8 : decode cX10_costOf 8 = .ok (.iload_n 0, 1) := by decide +kernel
theorem dX10_costOf_9 : decode cX10_costOf 9 = .ok (.iconst 3, 1) := by decide +kernel
theorem dX10_costOf_10 : decode cX10_costOf 10 = .ok (.if_icmp .ne 7, 3) := by decide +kernel
theorem dX10_costOf_13 : decode cX10_costOf 13 = .ok (.iconst 4, 1) := by decide +kernel
theorem dX10_costOf_14 : decode cX10_costOf 14 = .ok (.goto 4, 3) := by decide +kernel
theorem dX10_costOf_17 : decode cX10_costOf 17 = .ok (.iconst 1, 1) := by decide +kernel
theorem dX10_costOf_18 : decode cX10_costOf 18 = .ok (.ireturn, 1) := by decide +kernel
theorem dX10_act_0 : decode cX10_act 0 = .ok (.aload_n 0, 1) := by decide +kernel
theorem dX10_act_1 : decode cX10_act 1 = .ok (.iload_n 1, 1) := by decide +kernel
theorem dX10_act_2 : decode cX10_act 2 = .ok (.invokevirtual 151, 3) := by decide +kernel
theorem dX10_act_5 : decode cX10_act 5 = .ok (.ifCond .eq 5, 3) := by decide +kernel
theorem dX10_act_8 : decode cX10_act 8 = .ok (.iconst (-1), 1) := by decide +kernel
theorem dX10_act_9 : decode cX10_act 9 = .ok (.ireturn, 1) := by decide +kernel
theorem dX10_act_10 : decode cX10_act 10 = .ok (.iload_n 2, 1) := by decide +kernel
theorem dX10_act_11 : decode cX10_act 11 = .ok (.i2l, 1) := by decide +kernel
theorem dX10_act_12 : decode cX10_act 12 = .ok (.lconst 0, 1) := by decide +kernel
theorem dX10_act_13 : decode cX10_act 13 = .ok (.ldc2_w 223, 3) := by decide +kernel
theorem dX10_act_16 : decode cX10_act 16 = .ok (.invokestatic 105, 3) := by decide +kernel
theorem dX10_act_19 : decode cX10_act 19 = .ok (.ifCond .ne 6, 3) := by decide +kernel
theorem dX10_act_22 : decode cX10_act 22 = .ok (.bipush (-2), 2) := by decide +kernel
theorem dX10_act_24 : decode cX10_act 24 = .ok (.ireturn, 1) := by decide +kernel
theorem dX10_act_25 : decode cX10_act 25 = .ok (.aload_n 0, 1) := by decide +kernel
theorem dX10_act_26 : decode cX10_act 26 = .ok (.iload_n 1, 1) := by decide +kernel
theorem dX10_act_27 : decode cX10_act 27 = .ok (.iload_n 2, 1) := by decide +kernel
theorem dX10_act_28 : decode cX10_act 28 = .ok (.invokevirtual 243, 3) := by decide +kernel
theorem dX10_act_31 : decode cX10_act 31 = .ok (.ifCond .ne 5, 3) := by decide +kernel
theorem dX10_act_34 : decode cX10_act 34 = .ok (.iconst 0, 1) := by decide +kernel
theorem dX10_act_35 : decode cX10_act 35 = .ok (.ireturn, 1) := by decide +kernel
theorem dX10_act_36 : decode cX10_act 36 = .ok (.aload_n 0, 1) := by decide +kernel
theorem dX10_act_37 : decode cX10_act 37 = .ok (.iload_n 1, 1) := by decide +kernel
theorem dX10_act_38 : decode cX10_act 38 = .ok (.iload_n 2, 1) := by decide +kernel
theorem dX10_act_39 : decode cX10_act 39 = .ok (.invokevirtual 246, 3) := by decide +kernel
theorem dX10_act_42 : decode cX10_act 42 = .ok (.iconst 1, 1) := by decide +kernel
theorem dX10_act_43 : decode cX10_act 43 = .ok (.ireturn, 1) := by decide +kernel
theorem dX10_look_0 : decode cX10_look 0 = .ok (.aload_n 0, 1) := by decide +kernel
theorem dX10_look_1 : decode cX10_look 1 = .ok (.invokevirtual 210, 3) := by decide +kernel
theorem dX10_look_4 : decode cX10_look 4 = .ok (.aload_n 0, 1) := by decide +kernel
theorem dX10_look_5 : decode cX10_look 5 = .ok (.getfield 250, 3) := by decide +kernel
theorem dX10_look_8 : decode cX10_look 8 = .ok (.ifCond .lt 27, 3) := by decide +kernel
theorem dX10_look_11 : decode cX10_look 11 = .ok (.iload_n 2, 1) := by decide +kernel
theorem dX10_look_12 : decode cX10_look 12 = .ok (.aload_n 0, 1) := by decide +kernel
theorem dX10_look_13 : decode cX10_look 13 = .ok (.getfield 250, 3) := by decide +kernel
theorem dX10_look_16 : decode cX10_look 16 = .ok (.if_icmp .lt 19, 3) := by decide +kernel
theorem dX10_look_19 : decode cX10_look 19 = .ok (.iload_n 2, 1) := by decide +kernel
theorem dX10_look_20 : decode cX10_look 20 = .ok (.aload_n 0, 1) := by decide +kernel
theorem dX10_look_21 : decode cX10_look 21 = .ok (.getfield 250, 3) := by decide +kernel
theorem dX10_look_24 : decode cX10_look 24 = .ok (.if_icmp .ne 15, 3) := by decide +kernel
theorem dX10_look_27 : decode cX10_look 27 = .ok (.iload_n 3, 1) := by decide +kernel
theorem dX10_look_28 : decode cX10_look 28 = .ok (.aload_n 0, 1) := by decide +kernel
theorem dX10_look_29 : decode cX10_look 29 = .ok (.getfield 253, 3) := by decide +kernel
theorem dX10_look_32 : decode cX10_look 32 = .ok (.if_icmp .ge 7, 3) := by decide +kernel
theorem dX10_look_35 : decode cX10_look 35 = .ok (.iconst 1, 1) := by decide +kernel
theorem dX10_look_36 : decode cX10_look 36 = .ok (.goto 4, 3) := by decide +kernel
theorem dX10_look_39 : decode cX10_look 39 = .ok (.iconst 0, 1) := by decide +kernel
theorem dX10_look_40 : decode cX10_look 40 = .ok (.istore 6, 2) := by decide +kernel
theorem dX10_look_42 : decode cX10_look 42 = .ok (.aload_n 0, 1) := by decide +kernel
theorem dX10_look_43 : decode cX10_look 43 = .ok (.getfield 201, 3) := by decide +kernel
theorem dX10_look_46 : decode cX10_look 46 = .ok (.aload_n 0, 1) := by decide +kernel
theorem dX10_look_47 : decode cX10_look 47 = .ok (.getfield 172, 3) := by decide +kernel
theorem dX10_look_50 : decode cX10_look 50 = .ok (.if_icmp .ne 38, 3) := by decide +kernel
theorem dX10_look_53 : decode cX10_look 53 = .ok (.aload_n 0, 1) := by decide +kernel
theorem dX10_look_54 : decode cX10_look 54 = .ok (.getfield 204, 3) := by decide +kernel
theorem dX10_look_57 : decode cX10_look 57 = .ok (.iload_n 1, 1) := by decide +kernel
theorem dX10_look_58 : decode cX10_look 58 = .ok (.if_icmp .gt 30, 3) := by decide +kernel
theorem dX10_look_61 : decode cX10_look 61 = .ok (.iload 6, 2) := by decide +kernel
theorem dX10_look_63 : decode cX10_look 63 = .ok (.ifCond .eq 25, 3) := by decide +kernel
theorem dX10_look_66 : decode cX10_look 66 = .ok (.aload_n 0, 1) := by decide +kernel
theorem dX10_look_67 : decode cX10_look 67 = .ok (.iload_n 2, 1) := by decide +kernel
theorem dX10_look_68 : decode cX10_look 68 = .ok (.putfield 250, 3) := by decide +kernel
theorem dX10_look_71 : decode cX10_look 71 = .ok (.aload_n 0, 1) := by decide +kernel
theorem dX10_look_72 : decode cX10_look 72 = .ok (.iload_n 3, 1) := by decide +kernel
theorem dX10_look_73 : decode cX10_look 73 = .ok (.putfield 253, 3) := by decide +kernel
theorem dX10_look_76 : decode cX10_look 76 = .ok (.aload_n 0, 1) := by decide +kernel
theorem dX10_look_77 : decode cX10_look 77 = .ok (.iload 4, 2) := by decide +kernel
theorem dX10_look_79 : decode cX10_look 79 = .ok (.putfield 256, 3) := by decide +kernel
theorem dX10_look_82 : decode cX10_look 82 = .ok (.aload_n 0, 1) := by decide +kernel
theorem dX10_look_83 : decode cX10_look 83 = .ok (.iload 5, 2) := by decide +kernel
theorem dX10_look_85 : decode cX10_look 85 = .ok (.putfield 259, 3) := by decide +kernel
theorem dX10_look_88 : decode cX10_look 88 = .ok (.return_, 1) := by decide +kernel
theorem dX10_keep_0 : decode cX10_keep 0 = .ok (.aload_n 0, 1) := by decide +kernel
theorem dX10_keep_1 : decode cX10_keep 1 = .ok (.getfield 67, 3) := by decide +kernel
theorem dX10_keep_4 : decode cX10_keep 4 = .ok (.iload_n 2, 1) := by decide +kernel
theorem dX10_keep_5 : decode cX10_keep 5 = .ok (.aload_n 0, 1) := by decide +kernel
theorem dX10_keep_6 : decode cX10_keep 6 = .ok (.getfield 16, 3) := by decide +kernel
theorem dX10_keep_9 : decode cX10_keep 9 = .ok (.iload_n 1, 1) := by decide +kernel
theorem dX10_keep_10 : decode cX10_keep 10 = .ok (.iaload, 1) := by decide +kernel
theorem dX10_keep_11 : decode cX10_keep 11 = .ok (.iastore, 1) := by decide +kernel
theorem dX10_keep_12 : decode cX10_keep 12 = .ok (.aload_n 0, 1) := by decide +kernel
theorem dX10_keep_13 : decode cX10_keep 13 = .ok (.getfield 67, 3) := by decide +kernel
theorem dX10_keep_16 : decode cX10_keep 16 = .ok (.iload_n 2, 1) := by decide +kernel
theorem dX10_keep_17 : decode cX10_keep 17 = .ok (.iconst 1, 1) := by decide +kernel
theorem dX10_keep_18 : decode cX10_keep 18 = .ok (.iadd, 1) := by decide +kernel
theorem dX10_keep_19 : decode cX10_keep 19 = .ok (.aload_n 0, 1) := by decide +kernel
theorem dX10_keep_20 : decode cX10_keep 20 = .ok (.getfield 19, 3) := by decide +kernel
theorem dX10_keep_23 : decode cX10_keep 23 = .ok (.iload_n 1, 1) := by decide +kernel
theorem dX10_keep_24 : decode cX10_keep 24 = .ok (.iaload, 1) := by decide +kernel
theorem dX10_keep_25 : decode cX10_keep 25 = .ok (.iastore, 1) := by decide +kernel
theorem dX10_keep_26 : decode cX10_keep 26 = .ok (.aload_n 0, 1) := by decide +kernel
theorem dX10_keep_27 : decode cX10_keep 27 = .ok (.getfield 67, 3) := by decide +kernel
theorem dX10_keep_30 : decode cX10_keep 30 = .ok (.iload_n 2, 1) := by decide +kernel
theorem dX10_keep_31 : decode cX10_keep 31 = .ok (.iconst 2, 1) := by decide +kernel
theorem dX10_keep_32 : decode cX10_keep 32 = .ok (.iadd, 1) := by decide +kernel
theorem dX10_keep_33 : decode cX10_keep 33 = .ok (.aload_n 0, 1) := by decide +kernel
theorem dX10_keep_34 : decode cX10_keep 34 = .ok (.getfield 22, 3) := by decide +kernel
theorem dX10_keep_37 : decode cX10_keep 37 = .ok (.iload_n 1, 1) := by decide +kernel
theorem dX10_keep_38 : decode cX10_keep 38 = .ok (.iaload, 1) := by decide +kernel
theorem dX10_keep_39 : decode cX10_keep 39 = .ok (.iastore, 1) := by decide +kernel
theorem dX10_keep_40 : decode cX10_keep 40 = .ok (.return_, 1) := by decide +kernel
theorem dX10_putBack_0 : decode cX10_putBack 0 = .ok (.aload_n 0, 1) := by decide +kernel
theorem dX10_putBack_1 : decode cX10_putBack 1 = .ok (.getfield 16, 3) := by decide +kernel
theorem dX10_putBack_4 : decode cX10_putBack 4 = .ok (.iload_n 1, 1) := by decide +kernel
theorem dX10_putBack_5 : decode cX10_putBack 5 = .ok (.aload_n 0, 1) := by decide +kernel
theorem dX10_putBack_6 : decode cX10_putBack 6 = .ok (.getfield 67, 3) := by decide +kernel
theorem dX10_putBack_9 : decode cX10_putBack 9 = .ok (.iload_n 2, 1) := by decide +kernel
theorem dX10_putBack_10 : decode cX10_putBack 10 = .ok (.iaload, 1) := by decide +kernel
theorem dX10_putBack_11 : decode cX10_putBack 11 = .ok (.iastore, 1) := by decide +kernel
theorem dX10_putBack_12 : decode cX10_putBack 12 = .ok (.aload_n 0, 1) := by decide +kernel
theorem dX10_putBack_13 : decode cX10_putBack 13 = .ok (.getfield 19, 3) := by decide +kernel
theorem dX10_putBack_16 : decode cX10_putBack 16 = .ok (.iload_n 1, 1) := by decide +kernel
theorem dX10_putBack_17 : decode cX10_putBack 17 = .ok (.aload_n 0, 1) := by decide +kernel
theorem dX10_putBack_18 : decode cX10_putBack 18 = .ok (.getfield 67, 3) := by decide +kernel
theorem dX10_putBack_21 : decode cX10_putBack 21 = .ok (.iload_n 2, 1) := by decide +kernel
theorem dX10_putBack_22 : decode cX10_putBack 22 = .ok (.iconst 1, 1) := by decide +kernel
theorem dX10_putBack_23 : decode cX10_putBack 23 = .ok (.iadd, 1) := by decide +kernel
theorem dX10_putBack_24 : decode cX10_putBack 24 = .ok (.iaload, 1) := by decide +kernel
theorem dX10_putBack_25 : decode cX10_putBack 25 = .ok (.iastore, 1) := by decide +kernel
theorem dX10_putBack_26 : decode cX10_putBack 26 = .ok (.aload_n 0, 1) := by decide +kernel
theorem dX10_putBack_27 : decode cX10_putBack 27 = .ok (.getfield 22, 3) := by decide +kernel
theorem dX10_putBack_30 : decode cX10_putBack 30 = .ok (.iload_n 1, 1) := by decide +kernel
theorem dX10_putBack_31 : decode cX10_putBack 31 = .ok (.aload_n 0, 1) := by decide +kernel
theorem dX10_putBack_32 : decode cX10_putBack 32 = .ok (.getfield 67, 3) := by decide +kernel
theorem dX10_putBack_35 : decode cX10_putBack 35 = .ok (.iload_n 2, 1) := by decide +kernel
theorem dX10_putBack_36 : decode cX10_putBack 36 = .ok (.iconst 2, 1) := by decide +kernel
theorem dX10_putBack_37 : decode cX10_putBack 37 = .ok (.iadd, 1) := by decide +kernel
theorem dX10_putBack_38 : decode cX10_putBack 38 = .ok (.iaload, 1) := by decide +kernel
theorem dX10_putBack_39 : decode cX10_putBack 39 = .ok (.iastore, 1) := by decide +kernel
theorem dX10_putBack_40 : decode cX10_putBack 40 = .ok (.return_, 1) := by decide +kernel
theorem dX10_lookFurther_0 : decode cX10_lookFurther 0 = .ok (.iconst 0, 1) := by decide +kernel
theorem dX10_lookFurther_1 : decode cX10_lookFurther 1 = .ok (.istore 4, 2) := by decide +kernel
theorem dX10_lookFurther_3 : decode cX10_lookFurther 3 = .ok (.iload 4, 2) := by decide +kernel
theorem dX10_lookFurther_5 : decode cX10_lookFurther 5 = .ok (.iconst 4, 1) := by decide +kernel
theorem dX10_lookFurther_6 : decode cX10_lookFurther 6 = .ok (.aload_n 0, 1) := by decide +kernel
theorem dX10_lookFurther_7 : decode cX10_lookFurther 7 = .ok (.getfield 116, 3) := by decide +kernel
theorem dX10_lookFurther_10 : decode cX10_lookFurther 10 = .ok (.imul, 1) := by decide +kernel
theorem dX10_lookFurther_11 : decode cX10_lookFurther 11 = .ok (.if_icmp .ge 84, 3) := by decide +kernel
theorem dX10_lookFurther_14 : decode cX10_lookFurther 14 = .ok (.iload 4, 2) := by decide +kernel
theorem dX10_lookFurther_16 : decode cX10_lookFurther 16 = .ok (.iconst 4, 1) := by decide +kernel
theorem dX10_lookFurther_17 : decode cX10_lookFurther 17 = .ok (.idiv, 1) := by decide +kernel
theorem dX10_lookFurther_18 : decode cX10_lookFurther 18 = .ok (.istore 5, 2) := by decide +kernel
theorem dX10_lookFurther_20 : decode cX10_lookFurther 20 = .ok (.iload 4, 2) := by decide +kernel
theorem dX10_lookFurther_22 : decode cX10_lookFurther 22 = .ok (.iconst 4, 1) := by decide +kernel
theorem dX10_lookFurther_23 : decode cX10_lookFurther 23 = .ok (.irem, 1) := by decide +kernel
theorem dX10_lookFurther_24 : decode cX10_lookFurther 24 = .ok (.istore 6, 2) := by decide +kernel
theorem dX10_lookFurther_26 : decode cX10_lookFurther 26 = .ok (.aload_n 0, 1) := by decide +kernel
theorem dX10_lookFurther_27 : decode cX10_lookFurther 27 = .ok (.iload 5, 2) := by decide +kernel
theorem dX10_lookFurther_29 : decode cX10_lookFurther 29 = .ok (.iload 6, 2) := by decide +kernel
theorem dX10_lookFurther_31 : decode cX10_lookFurther 31 = .ok (.invokevirtual 243, 3) := by decide +kernel
theorem dX10_lookFurther_34 : decode cX10_lookFurther 34 = .ok (.ifCond .eq 55, 3) := by decide +kernel
theorem dX10_lookFurther_37 : decode cX10_lookFurther 37 = .ok (.aload_n 0, 1) := by decide +kernel
theorem dX10_lookFurther_38 : decode cX10_lookFurther 38 = .ok (.iload 5, 2) := by decide +kernel
theorem dX10_lookFurther_40 : decode cX10_lookFurther 40 = .ok (.iconst 3, 1) := by decide +kernel
theorem dX10_lookFurther_41 : decode cX10_lookFurther 41 = .ok (.invokevirtual 262, 3) := by decide +kernel
theorem dX10_lookFurther_44 : decode cX10_lookFurther 44 = .ok (.aload_n 0, 1) := by decide +kernel
theorem dX10_lookFurther_45 : decode cX10_lookFurther 45 = .ok (.iload 5, 2) := by decide +kernel
theorem dX10_lookFurther_47 : decode cX10_lookFurther 47 = .ok (.iload 6, 2) := by decide +kernel
theorem dX10_lookFurther_49 : decode cX10_lookFurther 49 = .ok (.invokevirtual 246, 3) := by decide +kernel
theorem dX10_lookFurther_52 : decode cX10_lookFurther 52 = .ok (.aload_n 0, 1) := by decide +kernel
theorem dX10_lookFurther_53 : decode cX10_lookFurther 53 = .ok (.iload_n 1, 1) := by decide +kernel
theorem dX10_lookFurther_54 : decode cX10_lookFurther 54 = .ok (.iload_n 3, 1) := by decide +kernel
theorem dX10_lookFurther_55 : decode cX10_lookFurther 55 = .ok (.invokestatic 265, 3) := by decide +kernel
theorem dX10_lookFurther_58 : decode cX10_lookFurther 58 = .ok (.iload 6, 2) := by decide +kernel
theorem dX10_lookFurther_60 : decode cX10_lookFurther 60 = .ok (.invokestatic 265, 3) := by decide +kernel
theorem dX10_lookFurther_63 : decode cX10_lookFurther 63 = .ok (.iadd, 1) := by decide +kernel
theorem dX10_lookFurther_64 : decode cX10_lookFurther 64 = .ok (.iconst 2, 1) := by decide +kernel
theorem dX10_lookFurther_65 : decode cX10_lookFurther 65 = .ok (.bipush 10, 2) := by decide +kernel
theorem dX10_lookFurther_67 : decode cX10_lookFurther 67 = .ok (.iload_n 2, 1) := by decide +kernel
theorem dX10_lookFurther_68 : decode cX10_lookFurther 68 = .ok (.imul, 1) := by decide +kernel
theorem dX10_lookFurther_69 : decode cX10_lookFurther 69 = .ok (.iload_n 3, 1) := by decide +kernel
theorem dX10_lookFurther_70 : decode cX10_lookFurther 70 = .ok (.iadd, 1) := by decide +kernel
theorem dX10_lookFurther_71 : decode cX10_lookFurther 71 = .ok (.bipush 10, 2) := by decide +kernel
theorem dX10_lookFurther_73 : decode cX10_lookFurther 73 = .ok (.iload 5, 2) := by decide +kernel
theorem dX10_lookFurther_75 : decode cX10_lookFurther 75 = .ok (.imul, 1) := by decide +kernel
theorem dX10_lookFurther_76 : decode cX10_lookFurther 76 = .ok (.iload 6, 2) := by decide +kernel
theorem dX10_lookFurther_78 : decode cX10_lookFurther 78 = .ok (.iadd, 1) := by decide +kernel
theorem dX10_lookFurther_79 : decode cX10_lookFurther 79 = .ok (.invokevirtual 268, 3) := by decide +kernel
theorem dX10_lookFurther_82 : decode cX10_lookFurther 82 = .ok (.aload_n 0, 1) := by decide +kernel
theorem dX10_lookFurther_83 : decode cX10_lookFurther 83 = .ok (.iload 5, 2) := by decide +kernel
theorem dX10_lookFurther_85 : decode cX10_lookFurther 85 = .ok (.iconst 3, 1) := by decide +kernel
theorem dX10_lookFurther_86 : decode cX10_lookFurther 86 = .ok (.invokevirtual 272, 3) := by decide +kernel
theorem dX10_lookFurther_89 : decode cX10_lookFurther 89 = .ok (.iinc 4 1, 3) := by decide +kernel
theorem dX10_lookFurther_92 : decode cX10_lookFurther 92 = .ok (.goto (-89), 3) := by decide +kernel
theorem dX10_lookFurther_95 : decode cX10_lookFurther 95 = .ok (.return_, 1) := by decide +kernel
theorem dX10_layMend_0 : decode cX10_layMend 0 = .ok (.aload_n 0, 1) := by decide +kernel
theorem dX10_layMend_1 : decode cX10_layMend 1 = .ok (.bipush (-9), 2) := by decide +kernel
theorem dX10_layMend_3 : decode cX10_layMend 3 = .ok (.putfield 250, 3) := by decide +kernel
theorem dX10_layMend_6 : decode cX10_layMend 6 = .ok (.aload_n 0, 1) := by decide +kernel
theorem dX10_layMend_7 : decode cX10_layMend 7 = .ok (.iconst 0, 1) := by decide +kernel
theorem dX10_layMend_8 : decode cX10_layMend 8 = .ok (.putfield 253, 3) := by decide +kernel
theorem dX10_layMend_11 : decode cX10_layMend 11 = .ok (.aload_n 0, 1) := by decide +kernel
theorem dX10_layMend_12 : decode cX10_layMend 12 = .ok (.bipush (-9), 2) := by decide +kernel
theorem dX10_layMend_14 : decode cX10_layMend 14 = .ok (.putfield 256, 3) := by decide +kernel
theorem dX10_layMend_17 : decode cX10_layMend 17 = .ok (.aload_n 0, 1) := by decide +kernel
theorem dX10_layMend_18 : decode cX10_layMend 18 = .ok (.bipush (-9), 2) := by decide +kernel
theorem dX10_layMend_20 : decode cX10_layMend 20 = .ok (.putfield 259, 3) := by decide +kernel
theorem dX10_layMend_23 : decode cX10_layMend 23 = .ok (.aload_n 0, 1) := by decide +kernel
theorem dX10_layMend_24 : decode cX10_layMend 24 = .ok (.iload_n 1, 1) := by decide +kernel
theorem dX10_layMend_25 : decode cX10_layMend 25 = .ok (.iconst 0, 1) := by decide +kernel
theorem dX10_layMend_26 : decode cX10_layMend 26 = .ok (.iconst 0, 1) := by decide +kernel
theorem dX10_layMend_27 : decode cX10_layMend 27 = .ok (.bipush (-9), 2) := by decide +kernel
theorem dX10_layMend_29 : decode cX10_layMend 29 = .ok (.bipush (-9), 2) := by decide +kernel
theorem dX10_layMend_31 : decode cX10_layMend 31 = .ok (.invokevirtual 268, 3) := by decide +kernel
theorem dX10_layMend_34 : decode cX10_layMend 34 = .ok (.iconst 0, 1) := by decide +kernel
theorem dX10_layMend_35 : decode cX10_layMend 35 = .ok (.istore_n 2, 1) := by decide +kernel
theorem dX10_layMend_36 : decode cX10_layMend 36 = .ok (.iload_n 2, 1) := by decide +kernel
theorem dX10_layMend_37 : decode cX10_layMend 37 = .ok (.iconst 4, 1) := by decide +kernel
theorem dX10_layMend_38 : decode cX10_layMend 38 = .ok (.aload_n 0, 1) := by decide +kernel
theorem dX10_layMend_39 : decode cX10_layMend 39 = .ok (.getfield 116, 3) := by decide +kernel
theorem dX10_layMend_42 : decode cX10_layMend 42 = .ok (.imul, 1) := by decide +kernel
theorem dX10_layMend_43 : decode cX10_layMend 43 = .ok (.if_icmp .ge 75, 3) := by decide +kernel
theorem dX10_layMend_46 : decode cX10_layMend 46 = .ok (.iload_n 2, 1) := by decide +kernel
theorem dX10_layMend_47 : decode cX10_layMend 47 = .ok (.iconst 4, 1) := by decide +kernel
theorem dX10_layMend_48 : decode cX10_layMend 48 = .ok (.idiv, 1) := by decide +kernel
