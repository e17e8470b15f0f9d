theorem dX9_init_97 : decode cX9_init 97 = .ok (.invokespecial 57, 3) := by decide +kernel
theorem dX9_init_100 : decode cX9_init 100 = .ok (.putfield 58, 3) := by decide +kernel
theorem dX9_init_103 : decode cX9_init 103 = .ok (.aload_n 0, 1) := by decide +kernel
theorem dX9_init_104 : decode cX9_init 104 = .ok (.new 62, 3) := by decide +kernel
theorem dX9_init_107 : decode cX9_init 107 = .ok (.dup, 1) := by decide +kernel
theorem dX9_init_108 : decode cX9_init 108 = .ok (.invokespecial 64, 3) := by decide +kernel
theorem dX9_init_111 : decode cX9_init 111 = .ok (.putfield 65, 3) := by decide +kernel
theorem dX9_init_114 : decode cX9_init 114 = .ok (.aload_n 0, 1) := by decide +kernel
theorem dX9_init_115 : decode cX9_init 115 = .ok (.new 69, 3) := by decide +kernel
theorem dX9_init_118 : decode cX9_init 118 = .ok (.dup, 1) := by decide +kernel
theorem dX9_init_119 : decode cX9_init 119 = .ok (.invokespecial 71, 3) := by decide +kernel
theorem dX9_init_122 : decode cX9_init 122 = .ok (.putfield 72, 3) := by decide +kernel
theorem dX9_init_125 : decode cX9_init 125 = .ok (.aload_n 0, 1) := by decide +kernel
theorem dX9_init_126 : decode cX9_init 126 = .ok (.new 76, 3) := by decide +kernel
theorem dX9_init_129 : decode cX9_init 129 = .ok (.dup, 1) := by decide +kernel
theorem dX9_init_130 : decode cX9_init 130 = .ok (.invokespecial 78, 3) := by decide +kernel
theorem dX9_init_133 : decode cX9_init 133 = .ok (.putfield 79, 3) := by decide +kernel
theorem dX9_init_136 : decode cX9_init 136 = .ok (.aload_n 0, 1) := by decide +kernel
theorem dX9_init_137 : decode cX9_init 137 = .ok (.iconst 0, 1) := by decide +kernel
theorem dX9_init_138 : decode cX9_init 138 = .ok (.putfield 83, 3) := by decide +kernel
theorem dX9_init_141 : decode cX9_init 141 = .ok (.aload_n 0, 1) := by decide +kernel
theorem dX9_init_142 : decode cX9_init 142 = .ok (.iconst 0, 1) := by decide +kernel
theorem dX9_init_143 : decode cX9_init 143 = .ok (.putfield 87, 3) := by decide +kernel
theorem dX9_init_146 : decode cX9_init 146 = .ok (.return_, 1) := by decide +kernel
theorem dX9_saw_0 : decode cX9_saw 0 = .ok (.aload_n 0, 1) := by decide +kernel
theorem dX9_saw_1 : decode cX9_saw 1 = .ok (.iload_n 1, 1) := by decide +kernel
theorem dX9_saw_2 : decode cX9_saw 2 = .ok (.iload_n 2, 1) := by decide +kernel
theorem dX9_saw_3 : decode cX9_saw 3 = .ok (.iload_n 3, 1) := by decide +kernel
theorem dX9_saw_4 : decode cX9_saw 4 = .ok (.iload 4, 2) := by decide +kernel
theorem dX9_saw_6 : decode cX9_saw 6 = .ok (.invokevirtual 90, 3) := by decide +kernel
theorem dX9_saw_9 : decode cX9_saw 9 = .ok (.istore 5, 2) := by decide +kernel
theorem dX9_saw_11 : decode cX9_saw 11 = .ok (.iload 5, 2) := by decide +kernel
theorem dX9_saw_13 : decode cX9_saw 13 = .ok (.ifCond .eq 6, 3) := by decide +kernel
theorem dX9_saw_16 : decode cX9_saw 16 = .ok (.iload 5, 2) := by decide +kernel
theorem dX9_saw_18 : decode cX9_saw 18 = .ok (.ireturn, 1) := by decide +kernel
theorem dX9_saw_19 : decode cX9_saw 19 = .ok (.aload_n 0, 1) := by decide +kernel
theorem dX9_saw_20 : decode cX9_saw 20 = .ok (.getfield 25, 3) := by decide +kernel
theorem dX9_saw_23 : decode cX9_saw 23 = .ok (.aload_n 0, 1) := by decide +kernel
theorem dX9_saw_24 : decode cX9_saw 24 = .ok (.getfield 12, 3) := by decide +kernel
theorem dX9_saw_27 : decode cX9_saw 27 = .ok (.iload_n 1, 1) := by decide +kernel
theorem dX9_saw_28 : decode cX9_saw 28 = .ok (.iload_n 3, 1) := by decide +kernel
theorem dX9_saw_29 : decode cX9_saw 29 = .ok (.iload 4, 2) := by decide +kernel
theorem dX9_saw_31 : decode cX9_saw 31 = .ok (.invokevirtual 94, 3) := by decide +kernel
theorem dX9_saw_34 : decode cX9_saw 34 = .ok (.istore 6, 2) := by decide +kernel
theorem dX9_saw_36 : decode cX9_saw 36 = .ok (.iload 6, 2) := by decide +kernel
theorem dX9_saw_38 : decode cX9_saw 38 = .ok (.iconst (-1), 1) := by decide +kernel
theorem dX9_saw_39 : decode cX9_saw 39 = .ok (.if_icmp .eq 9, 3) := by decide +kernel
theorem dX9_saw_42 : decode cX9_saw 42 = .ok (.bipush (-100), 2) := by decide +kernel
theorem dX9_saw_44 : decode cX9_saw 44 = .ok (.iload 6, 2) := by decide +kernel
theorem dX9_saw_46 : decode cX9_saw 46 = .ok (.isub, 1) := by decide +kernel
theorem dX9_saw_47 : decode cX9_saw 47 = .ok (.ireturn, 1) := by decide +kernel
theorem dX9_saw_48 : decode cX9_saw 48 = .ok (.aload_n 0, 1) := by decide +kernel
theorem dX9_saw_49 : decode cX9_saw 49 = .ok (.getfield 21, 3) := by decide +kernel
theorem dX9_saw_52 : decode cX9_saw 52 = .ok (.aload_n 0, 1) := by decide +kernel
theorem dX9_saw_53 : decode cX9_saw 53 = .ok (.getfield 25, 3) := by decide +kernel
theorem dX9_saw_56 : decode cX9_saw 56 = .ok (.invokevirtual 98, 3) := by decide +kernel
theorem dX9_saw_59 : decode cX9_saw 59 = .ok (.aload_n 0, 1) := by decide +kernel
theorem dX9_saw_60 : decode cX9_saw 60 = .ok (.getfield 58, 3) := by decide +kernel
theorem dX9_saw_63 : decode cX9_saw 63 = .ok (.iconst 0, 1) := by decide +kernel
theorem dX9_saw_64 : decode cX9_saw 64 = .ok (.putfield 102, 3) := by decide +kernel
theorem dX9_saw_67 : decode cX9_saw 67 = .ok (.aload_n 0, 1) := by decide +kernel
theorem dX9_saw_68 : decode cX9_saw 68 = .ok (.getfield 65, 3) := by decide +kernel
theorem dX9_saw_71 : decode cX9_saw 71 = .ok (.iconst 0, 1) := by decide +kernel
theorem dX9_saw_72 : decode cX9_saw 72 = .ok (.putfield 105, 3) := by decide +kernel
theorem dX9_saw_75 : decode cX9_saw 75 = .ok (.aload_n 0, 1) := by decide +kernel
theorem dX9_saw_76 : decode cX9_saw 76 = .ok (.getfield 21, 3) := by decide +kernel
theorem dX9_saw_79 : decode cX9_saw 79 = .ok (.getfield 106, 3) := by decide +kernel
theorem dX9_saw_82 : decode cX9_saw 82 = .ok (.ireturn, 1) := by decide +kernel
theorem dX9_ofTooth_0 : decode cX9_ofTooth 0 = .ok (.aload_n 0, 1) := by decide +kernel
theorem dX9_ofTooth_1 : decode cX9_ofTooth 1 = .ok (.getfield 21, 3) := by decide +kernel
theorem dX9_ofTooth_4 : decode cX9_ofTooth 4 = .ok (.iload_n 1, 1) := by decide +kernel
theorem dX9_ofTooth_5 : decode cX9_ofTooth 5 = .ok (.invokevirtual 107, 3) := by decide +kernel
theorem dX9_ofTooth_8 : decode cX9_ofTooth 8 = .ok (.ifCond .ne 5, 3) := by decide +kernel
theorem dX9_ofTooth_11 : decode cX9_ofTooth 11 = .ok (.iconst (-1), 1) := by decide +kernel
theorem dX9_ofTooth_12 : decode cX9_ofTooth 12 = .ok (.ireturn, 1) := by decide +kernel
theorem dX9_ofTooth_13 : decode cX9_ofTooth 13 = .ok (.iload_n 2, 1) := by decide +kernel
theorem dX9_ofTooth_14 : decode cX9_ofTooth 14 = .ok (.tableswitch 108 0 6 #[42, 51, 60, 70, 80, 90, 99], 42) := by decide +kernel
theorem dX9_ofTooth_56 : decode cX9_ofTooth 56 = .ok (.aload_n 0, 1) := by decide +kernel
theorem dX9_ofTooth_57 : decode cX9_ofTooth 57 = .ok (.getfield 21, 3) := by decide +kernel
theorem dX9_ofTooth_60 : decode cX9_ofTooth 60 = .ok (.iload_n 1, 1) := by decide +kernel
theorem dX9_ofTooth_61 : decode cX9_ofTooth 61 = .ok (.invokevirtual 111, 3) := by decide +kernel
theorem dX9_ofTooth_64 : decode cX9_ofTooth 64 = .ok (.ireturn, 1) := by decide +kernel
theorem dX9_ofTooth_65 : decode cX9_ofTooth 65 = .ok (.aload_n 0, 1) := by decide +kernel
theorem dX9_ofTooth_66 : decode cX9_ofTooth 66 = .ok (.getfield 21, 3) := by decide +kernel
theorem dX9_ofTooth_69 : decode cX9_ofTooth 69 = .ok (.iload_n 1, 1) := by decide +kernel
theorem dX9_ofTooth_70 : decode cX9_ofTooth 70 = .ok (.invokevirtual 115, 3) := by decide +kernel
theorem dX9_ofTooth_73 : decode cX9_ofTooth 73 = .ok (.ireturn, 1) := by decide +kernel
theorem dX9_ofTooth_74 : decode cX9_ofTooth 74 = .ok (.aload_n 0, 1) := by decide +kernel
theorem dX9_ofTooth_75 : decode cX9_ofTooth 75 = .ok (.getfield 21, 3) := by decide +kernel
theorem dX9_ofTooth_78 : decode cX9_ofTooth 78 = .ok (.iload_n 1, 1) := by decide +kernel
theorem dX9_ofTooth_79 : decode cX9_ofTooth 79 = .ok (.iconst 0, 1) := by decide +kernel
theorem dX9_ofTooth_80 : decode cX9_ofTooth 80 = .ok (.invokevirtual 118, 3) := by decide +kernel
theorem dX9_ofTooth_83 : decode cX9_ofTooth 83 = .ok (.ireturn, 1) := by decide +kernel
theorem dX9_ofTooth_84 : decode cX9_ofTooth 84 = .ok (.aload_n 0, 1) := by decide +kernel
theorem dX9_ofTooth_85 : decode cX9_ofTooth 85 = .ok (.getfield 21, 3) := by decide +kernel
theorem dX9_ofTooth_88 : decode cX9_ofTooth 88 = .ok (.iload_n 1, 1) := by decide +kernel
theorem dX9_ofTooth_89 : decode cX9_ofTooth 89 = .ok (.iconst 1, 1) := by decide +kernel
theorem dX9_ofTooth_90 : decode cX9_ofTooth 90 = .ok (.invokevirtual 118, 3) := by decide +kernel
theorem dX9_ofTooth_93 : decode cX9_ofTooth 93 = .ok (.ireturn, 1) := by decide +kernel
theorem dX9_ofTooth_94 : decode cX9_ofTooth 94 = .ok (.aload_n 0, 1) := by decide +kernel
theorem dX9_ofTooth_95 : decode cX9_ofTooth 95 = .ok (.getfield 21, 3) := by decide +kernel
theorem dX9_ofTooth_98 : decode cX9_ofTooth 98 = .ok (.iload_n 1, 1) := by decide +kernel
theorem dX9_ofTooth_99 : decode cX9_ofTooth 99 = .ok (.iconst 2, 1) := by decide +kernel
theorem dX9_ofTooth_100 : decode cX9_ofTooth 100 = .ok (.invokevirtual 118, 3) := by decide +kernel
theorem dX9_ofTooth_103 : decode cX9_ofTooth 103 = .ok (.ireturn, 1) := by decide +kernel
theorem dX9_ofTooth_104 : decode cX9_ofTooth 104 = .ok (.aload_n 0, 1) := by decide +kernel
theorem dX9_ofTooth_105 : decode cX9_ofTooth 105 = .ok (.getfield 21, 3) := by decide +kernel
theorem dX9_ofTooth_108 : decode cX9_ofTooth 108 = .ok (.iload_n 1, 1) := by decide +kernel
theorem dX9_ofTooth_109 : decode cX9_ofTooth 109 = .ok (.invokevirtual 122, 3) := by decide +kernel
theorem dX9_ofTooth_112 : decode cX9_ofTooth 112 = .ok (.ireturn, 1) := by decide +kernel
theorem dX9_ofTooth_113 : decode cX9_ofTooth 113 = .ok (.aload_n 0, 1) := by decide +kernel
theorem dX9_ofTooth_114 : decode cX9_ofTooth 114 = .ok (.getfield 21, 3) := by decide +kernel
theorem dX9_ofTooth_117 : decode cX9_ofTooth 117 = .ok (.iload_n 1, 1) := by decide +kernel
theorem dX9_ofTooth_118 : decode cX9_ofTooth 118 = .ok (.invokevirtual 125, 3) := by decide +kernel
theorem dX9_ofTooth_121 : decode cX9_ofTooth 121 = .ok (.ireturn, 1) := by decide +kernel
theorem dX9_ofTooth_122 : decode cX9_ofTooth 122 = .ok (.bipush (-2), 2) := by decide +kernel
theorem dX9_ofTooth_124 : decode cX9_ofTooth 124 = .ok (.ireturn, 1) := by decide +kernel
theorem dX9_set_0 : decode cX9_set 0 = .ok (.aload_n 0, 1) := by decide +kernel
theorem dX9_set_1 : decode cX9_set 1 = .ok (.getfield 21, 3) := by decide +kernel
theorem dX9_set_4 : decode cX9_set 4 = .ok (.iload_n 1, 1) := by decide +kernel
theorem dX9_set_5 : decode cX9_set 5 = .ok (.invokevirtual 107, 3) := by decide +kernel
theorem dX9_set_8 : decode cX9_set 8 = .ok (.ifCond .ne 5, 3) := by decide +kernel
theorem dX9_set_11 : decode cX9_set 11 = .ok (.iconst (-1), 1) := by decide +kernel
theorem dX9_set_12 : decode cX9_set 12 = .ok (.ireturn, 1) := by decide +kernel
theorem dX9_set_13 : decode cX9_set 13 = .ok (.iload_n 2, 1) := by decide +kernel
theorem dX9_set_14 : decode cX9_set 14 = .ok (.invokestatic 128, 3) := by decide +kernel
theorem dX9_set_17 : decode cX9_set 17 = .ok (.ifCond .eq 13, 3) := by decide +kernel
theorem dX9_set_20 : decode cX9_set 20 = .ok (.iload_n 3, 1) := by decide +kernel
theorem dX9_set_21 : decode cX9_set 21 = .ok (.iconst 0, 1) := by decide +kernel
theorem dX9_set_22 : decode cX9_set 22 = .ok (.bipush 9, 2) := by decide +kernel
theorem dX9_set_24 : decode cX9_set 24 = .ok (.invokestatic 131, 3) := by decide +kernel
theorem dX9_set_27 : decode cX9_set 27 = .ok (.ifCond .ne 6, 3) := by decide +kernel
theorem dX9_set_30 : decode cX9_set 30 = .ok (.bipush (-2), 2) := by decide +kernel
theorem dX9_set_32 : decode cX9_set 32 = .ok (.ireturn, 1) := by decide +kernel
theorem dX9_set_33 : decode cX9_set 33 = .ok (.aload_n 0, 1) := by decide +kernel
theorem dX9_set_34 : decode cX9_set 34 = .ok (.getfield 21, 3) := by decide +kernel
theorem dX9_set_37 : decode cX9_set 37 = .ok (.iload_n 1, 1) := by decide +kernel
theorem dX9_set_38 : decode cX9_set 38 = .ok (.iload_n 2, 1) := by decide +kernel
theorem dX9_set_39 : decode cX9_set 39 = .ok (.invokevirtual 118, 3) := by decide +kernel
theorem dX9_set_42 : decode cX9_set 42 = .ok (.istore 4, 2) := by decide +kernel
theorem dX9_set_44 : decode cX9_set 44 = .ok (.aload_n 0, 1) := by decide +kernel
theorem dX9_set_45 : decode cX9_set 45 = .ok (.getfield 21, 3) := by decide +kernel
theorem dX9_set_48 : decode cX9_set 48 = .ok (.iload_n 1, 1) := by decide +kernel
theorem dX9_set_49 : decode cX9_set 49 = .ok (.iload_n 2, 1) := by decide +kernel
theorem dX9_set_50 : decode cX9_set 50 = .ok (.iload_n 3, 1) := by decide +kernel
theorem dX9_set_51 : decode cX9_set 51 = .ok (.invokevirtual 135, 3) := by decide +kernel
theorem dX9_set_54 : decode cX9_set 54 = .ok (.iload 4, 2) := by decide +kernel
theorem dX9_set_56 : decode cX9_set 56 = .ok (.ireturn, 1) := by decide +kernel
theorem dX9_ofSaw_0 : decode cX9_ofSaw 0 = .ok (.iload_n 1, 1) := by decide +kernel
theorem dX9_ofSaw_1 : decode cX9_ofSaw 1 = .ok (.iconst 0, 1) := by decide +kernel
theorem dX9_ofSaw_2 : decode cX9_ofSaw 2 = .ok (.iconst 2, 1) := by decide +kernel
theorem dX9_ofSaw_3 : decode cX9_ofSaw 3 = .ok (.invokestatic 131, 3) := by decide +kernel
theorem dX9_ofSaw_6 : decode cX9_ofSaw 6 = .ok (.ifCond .ne 6, 3) := by decide +kernel
theorem dX9_ofSaw_9 : decode cX9_ofSaw 9 = .ok (.bipush (-2), 2) := by decide +kernel
theorem dX9_ofSaw_11 : decode cX9_ofSaw 11 = .ok (.ireturn, 1) := by decide +kernel
theorem dX9_ofSaw_12 : decode cX9_ofSaw 12 = .ok (.aload_n 0, 1) := by decide +kernel
theorem dX9_ofSaw_13 : decode cX9_ofSaw 13 = .ok (.getfield 21, 3) := by decide +kernel
theorem dX9_ofSaw_16 : decode cX9_ofSaw 16 = .ok (.getfield 106, 3) := by decide +kernel
theorem dX9_ofSaw_19 : decode cX9_ofSaw 19 = .ok (.ifCond .ne 6, 3) := by decide +kernel
theorem dX9_ofSaw_22 : decode cX9_ofSaw 22 = .ok (.bipush (-3), 2) := by decide +kernel
theorem dX9_ofSaw_24 : decode cX9_ofSaw 24 = .ok (.ireturn, 1) := by decide +kernel
theorem dX9_ofSaw_25 : decode cX9_ofSaw 25 = .ok (.iload_n 1, 1) := by decide +kernel
theorem dX9_ofSaw_26 : decode cX9_ofSaw 26 = .ok (.lookupswitch 42 #[(0, 26), (1, 34)], 26) := by decide +kernel
theorem dX9_ofSaw_52 : decode cX9_ofSaw 52 = .ok (.aload_n 0, 1) := by decide +kernel
theorem dX9_ofSaw_53 : decode cX9_ofSaw 53 = .ok (.getfield 21, 3) := by decide +kernel
theorem dX9_ofSaw_56 : decode cX9_ofSaw 56 = .ok (.invokevirtual 139, 3) := by decide +kernel
theorem dX9_ofSaw_59 : decode cX9_ofSaw 59 = .ok (.ireturn, 1) := by decide +kernel
theorem dX9_ofSaw_60 : decode cX9_ofSaw 60 = .ok (.aload_n 0, 1) := by decide +kernel
theorem dX9_ofSaw_61 : decode cX9_ofSaw 61 = .ok (.getfield 21, 3) := by decide +kernel
theorem dX9_ofSaw_64 : decode cX9_ofSaw 64 = .ok (.invokevirtual 143, 3) := by decide +kernel
theorem dX9_ofSaw_67 : decode cX9_ofSaw 67 = .ok (.ireturn, 1) := by decide +kernel
theorem dX9_ofSaw_68 : decode cX9_ofSaw 68 = .ok (.aload_n 0, 1) := by decide +kernel
theorem dX9_ofSaw_69 : decode cX9_ofSaw 69 = .ok (.getfield 21, 3) := by decide +kernel
theorem dX9_ofSaw_72 : decode cX9_ofSaw 72 = .ok (.invokevirtual 146, 3) := by decide +kernel
theorem dX9_ofSaw_75 : decode cX9_ofSaw 75 = .ok (.ireturn, 1) := by decide +kernel
theorem dX9_board_0 : decode cX9_board 0 = .ok (.aload_n 0, 1) := by decide +kernel
theorem dX9_board_1 : decode cX9_board 1 = .ok (.iload_n 1, 1) := by decide +kernel
theorem dX9_board_2 : decode cX9_board 2 = .ok (.iload_n 2, 1) := by decide +kernel
theorem dX9_board_3 : decode cX9_board 3 = .ok (.iload_n 3, 1) := by decide +kernel
theorem dX9_board_4 : decode cX9_board 4 = .ok (.iload 4, 2) := by decide +kernel
theorem dX9_board_6 : decode cX9_board 6 = .ok (.invokevirtual 90, 3) := by decide +kernel
theorem dX9_board_9 : decode cX9_board 9 = .ok (.istore 5, 2) := by decide +kernel
theorem dX9_board_11 : decode cX9_board 11 = .ok (.iload 5, 2) := by decide +kernel
theorem dX9_board_13 : decode cX9_board 13 = .ok (.ifCond .eq 6, 3) := by decide +kernel
theorem dX9_board_16 : decode cX9_board 16 = .ok (.iload 5, 2) := by decide +kernel
theorem dX9_board_18 : decode cX9_board 18 = .ok (.ireturn, 1) := by decide +kernel
theorem dX9_board_19 : decode cX9_board 19 = .ok (.aload_n 0, 1) := by decide +kernel
theorem dX9_board_20 : decode cX9_board 20 = .ok (.getfield 12, 3) := by decide +kernel
theorem dX9_board_23 : decode cX9_board 23 = .ok (.iload_n 1, 1) := by decide +kernel
theorem dX9_board_24 : decode cX9_board 24 = .ok (.iload_n 3, 1) := by decide +kernel
theorem dX9_board_25 : decode cX9_board 25 = .ok (.iload 4, 2) := by decide +kernel
theorem dX9_board_27 : decode cX9_board 27 = .ok (.invokestatic 149, 3) := by decide +kernel
theorem dX9_board_30 : decode cX9_board 30 = .ok (.istore 6, 2) := by decide +kernel
theorem dX9_board_32 : decode cX9_board 32 = .ok (.iload 6, 2) := by decide +kernel
theorem dX9_board_34 : decode cX9_board 34 = .ok (.iconst (-1), 1) := by decide +kernel
theorem dX9_board_35 : decode cX9_board 35 = .ok (.if_icmp .eq 9, 3) := by decide +kernel
theorem dX9_board_38 : decode cX9_board 38 = .ok (.bipush (-100), 2) := by decide +kernel
theorem dX9_board_40 : decode cX9_board 40 = .ok (.iload 6, 2) := by decide +kernel
theorem dX9_board_42 : decode cX9_board 42 = .ok (.isub, 1) := by decide +kernel
theorem dX9_board_43 : decode cX9_board 43 = .ok (.ireturn, 1) := by decide +kernel
theorem dX9_board_44 : decode cX9_board 44 = .ok (.aload_n 0, 1) := by decide +kernel
theorem dX9_board_45 : decode cX9_board 45 = .ok (.getfield 34, 3) := by decide +kernel
theorem dX9_board_48 : decode cX9_board 48 = .ok (.aload_n 0, 1) := by decide +kernel
theorem dX9_board_49 : decode cX9_board 49 = .ok (.getfield 12, 3) := by decide +kernel
theorem dX9_board_52 : decode cX9_board 52 = .ok (.iload_n 1, 1) := by decide +kernel
theorem dX9_board_53 : decode cX9_board 53 = .ok (.iload_n 3, 1) := by decide +kernel
theorem dX9_board_54 : decode cX9_board 54 = .ok (.iload 4, 2) := by decide +kernel
theorem dX9_board_56 : decode cX9_board 56 = .ok (.invokevirtual 152, 3) := by decide +kernel
theorem dX9_board_59 : decode cX9_board 59 = .ok (.aload_n 0, 1) := by decide +kernel
theorem dX9_board_60 : decode cX9_board 60 = .ok (.getfield 65, 3) := by decide +kernel
theorem dX9_board_63 : decode cX9_board 63 = .ok (.iconst 0, 1) := by decide +kernel
theorem dX9_board_64 : decode cX9_board 64 = .ok (.putfield 105, 3) := by decide +kernel
theorem dX9_board_67 : decode cX9_board 67 = .ok (.aload_n 0, 1) := by decide +kernel
theorem dX9_board_68 : decode cX9_board 68 = .ok (.getfield 34, 3) := by decide +kernel
theorem dX9_board_71 : decode cX9_board 71 = .ok (.getfield 155, 3) := by decide +kernel
theorem dX9_board_74 : decode cX9_board 74 = .ok (.ireturn, 1) := by decide +kernel
theorem dX9_ofLine_0 : decode cX9_ofLine 0 = .ok (.aload_n 0, 1) := by decide +kernel
theorem dX9_ofLine_1 : decode cX9_ofLine 1 = .ok (.getfield 34, 3) := by decide +kernel
theorem dX9_ofLine_4 : decode cX9_ofLine 4 = .ok (.iload_n 1, 1) := by decide +kernel
theorem dX9_ofLine_5 : decode cX9_ofLine 5 = .ok (.invokevirtual 156, 3) := by decide +kernel
theorem dX9_ofLine_8 : decode cX9_ofLine 8 = .ok (.ifCond .ne 5, 3) := by decide +kernel
theorem dX9_ofLine_11 : decode cX9_ofLine 11 = .ok (.iconst (-1), 1) := by decide +kernel
theorem dX9_ofLine_12 : decode cX9_ofLine 12 = .ok (.ireturn, 1) := by decide +kernel
theorem dX9_ofLine_13 : decode cX9_ofLine 13 = .ok (.iload_n 2, 1) := by decide +kernel
theorem dX9_ofLine_14 : decode cX9_ofLine 14 = .ok (.tableswitch 53 0 2 #[26, 35, 44], 26) := by decide +kernel
theorem dX9_ofLine_40 : decode cX9_ofLine 40 = .ok (.aload_n 0, 1) := by decide +kernel
theorem dX9_ofLine_41 : decode cX9_ofLine 41 = .ok (.getfield 34, 3) := by decide +kernel
theorem dX9_ofLine_44 : decode cX9_ofLine 44 = .ok (.iload_n 1, 1) := by decide +kernel
theorem dX9_ofLine_45 : decode cX9_ofLine 45 = .ok (.invokevirtual 157, 3) := by decide +kernel
theorem dX9_ofLine_48 : decode cX9_ofLine 48 = .ok (.ireturn, 1) := by decide +kernel
theorem dX9_ofLine_49 : decode cX9_ofLine 49 = .ok (.aload_n 0, 1) := by decide +kernel
theorem dX9_ofLine_50 : decode cX9_ofLine 50 = .ok (.getfield 34, 3) := by decide +kernel
theorem dX9_ofLine_53 : decode cX9_ofLine 53 = .ok (.iload_n 1, 1) := by decide +kernel
theorem dX9_ofLine_54 : decode cX9_ofLine 54 = .ok (.invokevirtual 160, 3) := by decide +kernel
theorem dX9_ofLine_57 : decode cX9_ofLine 57 = .ok (.ireturn, 1) := by decide +kernel
theorem dX9_ofLine_58 : decode cX9_ofLine 58 = .ok (.aload_n 0, 1) := by decide +kernel
theorem dX9_ofLine_59 : decode cX9_ofLine 59 = .ok (.getfield 34, 3) := by decide +kernel
theorem dX9_ofLine_62 : decode cX9_ofLine 62 = .ok (.iload_n 1, 1) := by decide +kernel
theorem dX9_ofLine_63 : decode cX9_ofLine 63 = .ok (.invokevirtual 163, 3) := by decide +kernel
theorem dX9_ofLine_66 : decode cX9_ofLine 66 = .ok (.ireturn, 1) := by decide +kernel
theorem dX9_ofLine_67 : decode cX9_ofLine 67 = .ok (.bipush (-2), 2) := by decide +kernel
theorem dX9_ofLine_69 : decode cX9_ofLine 69 = .ok (.ireturn, 1) := by decide +kernel
theorem dX9_hand_0 : decode cX9_hand 0 = .ok (.iload_n 1, 1) := by decide +kernel
theorem dX9_hand_1 : decode cX9_hand 1 = .ok (.bipush (-9), 2) := by decide +kernel
theorem dX9_hand_3 : decode cX9_hand 3 = .ok (.bipush 9, 2) := by decide +kernel
theorem dX9_hand_5 : decode cX9_hand 5 = .ok (.invokestatic 131, 3) := by decide +kernel
theorem dX9_hand_8 : decode cX9_hand 8 = .ok (.ifCond .eq 22, 3) := by decide +kernel
theorem dX9_hand_11 : decode cX9_hand 11 = .ok (.iload_n 2, 1) := by decide +kernel
theorem dX9_hand_12 : decode cX9_hand 12 = .ok (.iconst 0, 1) := by decide +kernel
theorem dX9_hand_13 : decode cX9_hand 13 = .ok (.bipush 9, 2) := by decide +kernel
theorem dX9_hand_15 : decode cX9_hand 15 = .ok (.invokestatic 131, 3) := by decide +kernel
theorem dX9_hand_18 : decode cX9_hand 18 = .ok (.ifCond .eq 12, 3) := by decide +kernel
theorem dX9_hand_21 : decode cX9_hand 21 = .ok (.iload_n 3, 1) := by decide +kernel
theorem dX9_hand_22 : decode cX9_hand 22 = .ok (.iconst 0, 1) := by decide +kernel
theorem dX9_hand_23 : decode cX9_hand 23 = .ok (.iconst 5, 1) := by decide +kernel
theorem dX9_hand_24 : decode cX9_hand 24 = .ok (.invokestatic 131, 3) := by decide +kernel
theorem dX9_hand_27 : decode cX9_hand 27 = .ok (.ifCond .ne 6, 3) := by decide +kernel
theorem dX9_hand_30 : decode cX9_hand 30 = .ok (.bipush (-2), 2) := by decide +kernel
theorem dX9_hand_32 : decode cX9_hand 32 = .ok (.ireturn, 1) := by decide +kernel
theorem dX9_hand_33 : decode cX9_hand 33 = .ok (.aload_n 0, 1) := by decide +kernel
theorem dX9_hand_34 : decode cX9_hand 34 = .ok (.getfield 41, 3) := by decide +kernel
theorem dX9_hand_37 : decode cX9_hand 37 = .ok (.iload_n 1, 1) := by decide +kernel
theorem dX9_hand_38 : decode cX9_hand 38 = .ok (.putfield 166, 3) := by decide +kernel
theorem dX9_hand_41 : decode cX9_hand 41 = .ok (.aload_n 0, 1) := by decide +kernel
theorem dX9_hand_42 : decode cX9_hand 42 = .ok (.getfield 41, 3) := by decide +kernel
theorem dX9_hand_45 : decode cX9_hand 45 = .ok (.iload_n 2, 1) := by decide +kernel
theorem dX9_hand_46 : decode cX9_hand 46 = .ok (.putfield 169, 3) := by decide +kernel
theorem dX9_hand_49 : decode cX9_hand 49 = .ok (.aload_n 0, 1) := by decide +kernel
theorem dX9_hand_50 : decode cX9_hand 50 = .ok (.getfield 41, 3) := by decide +kernel
theorem dX9_hand_53 : decode cX9_hand 53 = .ok (.iload_n 3, 1) := by decide +kernel
theorem dX9_hand_54 : decode cX9_hand 54 = .ok (.putfield 172, 3) := by decide +kernel
theorem dX9_hand_57 : decode cX9_hand 57 = .ok (.iconst 1, 1) := by decide +kernel
theorem dX9_hand_58 : decode cX9_hand 58 = .ok (.ireturn, 1) := by decide +kernel
theorem dX9_ofHand_0 : decode cX9_ofHand 0 = .ok (.iload_n 1, 1) := by decide +kernel
theorem dX9_ofHand_1 : decode cX9_ofHand 1 = .ok (.tableswitch 51 0 2 #[27, 35, 43], 27) := by decide +kernel
theorem dX9_ofHand_28 : decode cX9_ofHand 28 = .ok (.aload_n 0, 1) := by decide +kernel
theorem dX9_ofHand_29 : decode cX9_ofHand 29 = .ok (.getfield 41, 3) := by decide +kernel
theorem dX9_ofHand_32 : decode cX9_ofHand 32 = .ok (.getfield 166, 3) := by decide +kernel
theorem dX9_ofHand_35 : decode cX9_ofHand 35 = .ok (.ireturn, 1) := by decide +kernel
theorem dX9_ofHand_36 : decode cX9_ofHand 36 = .ok (.aload_n 0, 1) := by decide +kernel
theorem dX9_ofHand_37 : decode cX9_ofHand 37 = .ok (.getfield 41, 3) := by decide +kernel
theorem dX9_ofHand_40 : decode cX9_ofHand 40 = .ok (.getfield 169, 3) := by decide +kernel
theorem dX9_ofHand_43 : decode cX9_ofHand 43 = .ok (.ireturn, 1) := by decide +kernel
theorem dX9_ofHand_44 : decode cX9_ofHand 44 = .ok (.aload_n 0, 1) := by decide +kernel
theorem dX9_ofHand_45 : decode cX9_ofHand 45 = .ok (.getfield 41, 3) := by decide +kernel
theorem dX9_ofHand_48 : decode cX9_ofHand 48 = .ok (.getfield 172, 3) := by decide +kernel
theorem dX9_ofHand_51 : decode cX9_ofHand 51 = .ok (.ireturn, 1) := by decide +kernel
theorem dX9_ofHand_52 : decode cX9_ofHand 52 = .ok (.bipush (-2), 2) := by decide +kernel
theorem dX9_ofHand_54 : decode cX9_ofHand 54 = .ok (.ireturn, 1) := by decide +kernel
theorem dX9_fence_0 : decode cX9_fence 0 = .ok (.iload_n 1, 1) := by decide +kernel
theorem dX9_fence_1 : decode cX9_fence 1 = .ok (.iconst 0, 1) := by decide +kernel
theorem dX9_fence_2 : decode cX9_fence 2 = .ok (.bipush 99, 2) := by decide +kernel
theorem dX9_fence_4 : decode cX9_fence 4 = .ok (.invokestatic 131, 3) := by decide +kernel
theorem dX9_fence_7 : decode cX9_fence 7 = .ok (.ifCond .ne 6, 3) := by decide +kernel
theorem dX9_fence_10 : decode cX9_fence 10 = .ok (.bipush (-2), 2) := by decide +kernel
theorem dX9_fence_12 : decode cX9_fence 12 = .ok (.ireturn, 1) := by decide +kernel
theorem dX9_fence_13 : decode cX9_fence 13 = .ok (.aload_n 0, 1) := by decide +kernel
theorem dX9_fence_14 : decode cX9_fence 14 = .ok (.getfield 41, 3) := by decide +kernel
theorem dX9_fence_17 : decode cX9_fence 17 = .ok (.getfield 175, 3) := by decide +kernel
theorem dX9_fence_20 : decode cX9_fence 20 = .ok (.istore_n 2, 1) := by decide +kernel
theorem dX9_fence_21 : decode cX9_fence 21 = .ok (.aload_n 0, 1) := by decide +kernel
theorem dX9_fence_22 : decode cX9_fence 22 = .ok (.getfield 41, 3) := by decide +kernel
theorem dX9_fence_25 : decode cX9_fence 25 = .ok (.iload_n 1, 1) := by decide +kernel
theorem dX9_fence_26 : decode cX9_fence 26 = .ok (.putfield 175, 3) := by decide +kernel
theorem dX9_fence_29 : decode cX9_fence 29 = .ok (.iload_n 2, 1) := by decide +kernel
theorem dX9_fence_30 : decode cX9_fence 30 = .ok (.ireturn, 1) := by decide +kernel
theorem dX9_where_0 : decode cX9_where 0 = .ok (.aload_n 0, 1) := by decide +kernel
theorem dX9_where_1 : decode cX9_where 1 = .ok (.iload_n 1, 1) := by decide +kernel
theorem dX9_where_2 : decode cX9_where 2 = .ok (.invokevirtual 178, 3) := by decide +kernel
theorem dX9_where_5 : decode cX9_where 5 = .ok (.ifCond .ne 15, 3) := by decide +kernel
theorem dX9_where_8 : decode cX9_where 8 = .ok (.aload_n 0, 1) := by decide +kernel
theorem dX9_where_9 : decode cX9_where 9 = .ok (.getfield 51, 3) := by decide +kernel
theorem dX9_where_12 : decode cX9_where 12 = .ok (.iload_n 1, 1) := by decide +kernel
theorem dX9_where_13 : decode cX9_where 13 = .ok (.invokevirtual 181, 3) := by decide +kernel
theorem dX9_where_16 : decode cX9_where 16 = .ok (.i2l, 1) := by decide +kernel
theorem dX9_where_17 : decode cX9_where 17 = .ok (.goto 6, 3) := by decide +kernel
theorem dX9_where_20 : decode cX9_where 20 = .ok (.ldc2_w 184, 3) := by decide +kernel
theorem dX9_where_23 : decode cX9_where 23 = .ok (.lreturn, 1) := by decide +kernel
theorem dX9_heading_0 : decode cX9_heading 0 = .ok (.aload_n 0, 1) := by decide +kernel
theorem dX9_heading_1 : decode cX9_heading 1 = .ok (.iload_n 1, 1) := by decide +kernel
theorem dX9_heading_2 : decode cX9_heading 2 = .ok (.invokevirtual 178, 3) := by decide +kernel
theorem dX9_heading_5 : decode cX9_heading 5 = .ok (.ifCond .ne 15, 3) := by decide +kernel
theorem dX9_heading_8 : decode cX9_heading 8 = .ok (.aload_n 0, 1) := by decide +kernel
theorem dX9_heading_9 : decode cX9_heading 9 = .ok (.getfield 51, 3) := by decide +kernel
theorem dX9_heading_12 : decode cX9_heading 12 = .ok (.iload_n 1, 1) := by decide +kernel
theorem dX9_heading_13 : decode cX9_heading 13 = .ok (.invokevirtual 186, 3) := by decide +kernel
theorem dX9_heading_16 : decode cX9_heading 16 = .ok (.i2l, 1) := by decide +kernel
theorem dX9_heading_17 : decode cX9_heading 17 = .ok (.goto 6, 3) := by decide +kernel
theorem dX9_heading_20 : decode cX9_heading 20 = .ok (.ldc2_w 184, 3) := by decide +kernel
theorem dX9_heading_23 : decode cX9_heading 23 = .ok (.lreturn, 1) := by decide +kernel
theorem dX9_off_0 : decode cX9_off 0 = .ok (.aload_n 0, 1) := by decide +kernel
theorem dX9_off_1 : decode cX9_off 1 = .ok (.invokevirtual 189, 3) := by decide +kernel
theorem dX9_off_4 : decode cX9_off 4 = .ok (.ifCond .eq 6, 3) := by decide +kernel
theorem dX9_off_7 : decode cX9_off 7 = .ok (.bipush (-3), 2) := by decide +kernel
theorem dX9_off_9 : decode cX9_off 9 = .ok (.ireturn, 1) := by decide +kernel
theorem dX9_off_10 : decode cX9_off 10 = .ok (.aload_n 0, 1) := by decide +kernel
theorem dX9_off_11 : decode cX9_off 11 = .ok (.invokevirtual 193, 3) := by decide +kernel
theorem dX9_off_14 : decode cX9_off 14 = .ok (.aload_n 0, 1) := by decide +kernel
theorem dX9_off_15 : decode cX9_off 15 = .ok (.getfield 51, 3) := by decide +kernel
theorem dX9_off_18 : decode cX9_off 18 = .ok (.getfield 196, 3) := by decide +kernel
theorem dX9_off_21 : decode cX9_off 21 = .ok (.ireturn, 1) := by decide +kernel
theorem dX9_pinched_0 : decode cX9_pinched 0 = .ok (.aload_n 0, 1) := by decide +kernel
theorem dX9_pinched_1 : decode cX9_pinched 1 = .ok (.invokevirtual 189, 3) := by decide +kernel
theorem dX9_pinched_4 : decode cX9_pinched 4 = .ok (.ifCond .eq 6, 3) := by decide +kernel
theorem dX9_pinched_7 : decode cX9_pinched 7 = .ok (.bipush (-3), 2) := by decide +kernel
theorem dX9_pinched_9 : decode cX9_pinched 9 = .ok (.ireturn, 1) := by decide +kernel
theorem dX9_pinched_10 : decode cX9_pinched 10 = .ok (.aload_n 0, 1) := by decide +kernel
theorem dX9_pinched_11 : decode cX9_pinched 11 = .ok (.invokevirtual 193, 3) := by decide +kernel
theorem dX9_pinched_14 : decode cX9_pinched 14 = .ok (.aload_n 0, 1) := by decide +kernel
theorem dX9_pinched_15 : decode cX9_pinched 15 = .ok (.getfield 51, 3) := by decide +kernel
theorem dX9_pinched_18 : decode cX9_pinched 18 = .ok (.getfield 199, 3) := by decide +kernel
theorem dX9_pinched_21 : decode cX9_pinched 21 = .ok (.ireturn, 1) := by decide +kernel
theorem dX9_marks_0 : decode cX9_marks 0 = .ok (.aload_n 0, 1) := by decide +kernel
theorem dX9_marks_1 : decode cX9_marks 1 = .ok (.iload_n 1, 1) := by decide +kernel
theorem dX9_marks_2 : decode cX9_marks 2 = .ok (.invokevirtual 178, 3) := by decide +kernel
theorem dX9_marks_5 : decode cX9_marks 5 = .ok (.istore_n 2, 1) := by decide +kernel
theorem dX9_marks_6 : decode cX9_marks 6 = .ok (.iload_n 2, 1) := by decide +kernel
theorem dX9_marks_7 : decode cX9_marks 7 = .ok (.ifCond .ne 13, 3) := by decide +kernel
theorem dX9_marks_10 : decode cX9_marks 10 = .ok (.aload_n 0, 1) := by decide +kernel
theorem dX9_marks_11 : decode cX9_marks 11 = .ok (.getfield 21, 3) := by decide +kernel
theorem dX9_marks_14 : decode cX9_marks 14 = .ok (.invokevirtual 202, 3) := by decide +kernel
theorem dX9_marks_17 : decode cX9_marks 17 = .ok (.goto 4, 3) := by decide +kernel
theorem dX9_marks_20 : decode cX9_marks 20 = .ok (.iload_n 2, 1) := by decide +kernel
theorem dX9_marks_21 : decode cX9_marks 21 = .ok (.ireturn, 1) := by decide +kernel
theorem dX9_which_0 : decode cX9_which 0 = .ok (.aload_n 0, 1) := by decide +kernel
theorem dX9_which_1 : decode cX9_which 1 = .ok (.iload_n 1, 1) := by decide +kernel
theorem dX9_which_2 : decode cX9_which 2 = .ok (.invokevirtual 178, 3) := by decide +kernel
theorem dX9_which_5 : decode cX9_which 5 = .ok (.istore_n 3, 1) := by decide +kernel
theorem dX9_which_6 : decode cX9_which 6 = .ok (.iload_n 3, 1) := by decide +kernel
theorem dX9_which_7 : decode cX9_which 7 = .ok (.ifCond .ne 22, 3) := by decide +kernel
theorem dX9_which_10 : decode cX9_which 10 = .ok (.aload_n 0, 1) := by decide +kernel
theorem dX9_which_11 : decode cX9_which 11 = .ok (.getfield 21, 3) := by decide +kernel
theorem dX9_which_14 : decode cX9_which 14 = .ok (.aload_n 0, 1) := by decide +kernel
theorem dX9_which_15 : decode cX9_which 15 = .ok (.getfield 51, 3) := by decide +kernel
theorem dX9_which_18 : decode cX9_which 18 = .ok (.iload_n 1, 1) := by decide +kernel
theorem dX9_which_19 : decode cX9_which 19 = .ok (.invokevirtual 181, 3) := by decide +kernel
theorem dX9_which_22 : decode cX9_which 22 = .ok (.iload_n 2, 1) := by decide +kernel
theorem dX9_which_23 : decode cX9_which 23 = .ok (.invokevirtual 205, 3) := by decide +kernel
theorem dX9_which_26 : decode cX9_which 26 = .ok (.goto 4, 3) := by decide +kernel
theorem dX9_which_29 : decode cX9_which 29 = .ok (.iload_n 3, 1) := by decide +kernel
theorem dX9_which_30 : decode cX9_which 30 = .ok (.ireturn, 1) := by decide +kernel
theorem dX9_straightest_0 : decode cX9_straightest 0 = .ok (.iload_n 1, 1) := by decide +kernel
theorem dX9_straightest_1 : decode cX9_straightest 1 = .ok (.iconst 0, 1) := by decide +kernel
theorem dX9_straightest_2 : decode cX9_straightest 2 = .ok (.iconst 3, 1) := by decide +kernel
theorem dX9_straightest_3 : decode cX9_straightest 3 = .ok (.invokestatic 131, 3) := by decide +kernel
theorem dX9_straightest_6 : decode cX9_straightest 6 = .ok (.ifCond .ne 6, 3) := by decide +kernel
theorem dX9_straightest_9 : decode cX9_straightest 9 = .ok (.bipush (-2), 2) := by decide +kernel
theorem dX9_straightest_11 : decode cX9_straightest 11 = .ok (.ireturn, 1) := by decide +kernel
theorem dX9_straightest_12 : decode cX9_straightest 12 = .ok (.aload_n 0, 1) := by decide +kernel
theorem dX9_straightest_13 : decode cX9_straightest 13 = .ok (.invokevirtual 189, 3) := by decide +kernel
theorem dX9_straightest_16 : decode cX9_straightest 16 = .ok (.ifCond .eq 6, 3) := by decide +kernel
theorem dX9_straightest_19 : decode cX9_straightest 19 = .ok (.bipush (-3), 2) := by decide +kernel
theorem dX9_straightest_21 : decode cX9_straightest 21 = .ok (.ireturn, 1) := by decide +kernel
theorem dX9_straightest_22 : decode cX9_straightest 22 = .ok (.iload_n 1, 1) := by decide +kernel
theorem dX9_straightest_23 : decode cX9_straightest 23 = .ok (.tableswitch 44 0 2 #[25, 30, 35], 25) := by decide +kernel
theorem dX9_straightest_48 : decode cX9_straightest 48 = .ok (.aload_n 0, 1) := by decide +kernel
theorem dX9_straightest_49 : decode cX9_straightest 49 = .ok (.invokevirtual 208, 3) := by decide +kernel
theorem dX9_straightest_52 : decode cX9_straightest 52 = .ok (.ireturn, 1) := by decide +kernel
theorem dX9_straightest_53 : decode cX9_straightest 53 = .ok (.aload_n 0, 1) := by decide +kernel
theorem dX9_straightest_54 : decode cX9_straightest 54 = .ok (.invokevirtual 211, 3) := by decide +kernel
theorem dX9_straightest_57 : decode cX9_straightest 57 = .ok (.ireturn, 1) := by decide +kernel
theorem dX9_straightest_58 : decode cX9_straightest 58 = .ok (.aload_n 0, 1) := by decide +kernel
theorem dX9_straightest_59 : decode cX9_straightest 59 = .ok (.aload_n 0, 1) := by decide +kernel
theorem dX9_straightest_60 : decode cX9_straightest 60 = .ok (.invokevirtual 208, 3) := by decide +kernel
theorem dX9_straightest_63 : decode cX9_straightest 63 = .ok (.invokevirtual 214, 3) := by decide +kernel
theorem dX9_straightest_66 : decode cX9_straightest 66 = .ok (.ireturn, 1) := by decide +kernel
theorem dX9_straightest_67 : decode cX9_straightest 67 = .ok (.aload_n 0, 1) := by decide +kernel
theorem dX9_straightest_68 : decode cX9_straightest 68 = .ok (.aload_n 0, 1) := by decide +kernel
theorem dX9_straightest_69 : decode cX9_straightest 69 = .ok (.invokevirtual 211, 3) := by decide +kernel
theorem dX9_straightest_72 : decode cX9_straightest 72 = .ok (.invokevirtual 217, 3) := by decide +kernel
theorem dX9_straightest_75 : decode cX9_straightest 75 = .ok (.ireturn, 1) := by decide +kernel
theorem dX9_flaw_0 : decode cX9_flaw 0 = .ok (.aload_n 0, 1) := by decide +kernel
theorem dX9_flaw_1 : decode cX9_flaw 1 = .ok (.getfield 21, 3) := by decide +kernel
theorem dX9_flaw_4 : decode cX9_flaw 4 = .ok (.iload_n 1, 1) := by decide +kernel
theorem dX9_flaw_5 : decode cX9_flaw 5 = .ok (.invokevirtual 107, 3) := by decide +kernel
theorem dX9_flaw_8 : decode cX9_flaw 8 = .ok (.ifCond .ne 5, 3) := by decide +kernel
theorem dX9_flaw_11 : decode cX9_flaw 11 = .ok (.iconst (-1), 1) := by decide +kernel
theorem dX9_flaw_12 : decode cX9_flaw 12 = .ok (.ireturn, 1) := by decide +kernel
theorem dX9_flaw_13 : decode cX9_flaw 13 = .ok (.iload_n 2, 1) := by decide +kernel
theorem dX9_flaw_14 : decode cX9_flaw 14 = .ok (.invokestatic 128, 3) := by decide +kernel
theorem dX9_flaw_17 : decode cX9_flaw 17 = .ok (.ifCond .eq 13, 3) := by decide +kernel
theorem dX9_flaw_20 : decode cX9_flaw 20 = .ok (.iload_n 3, 1) := by decide +kernel
theorem dX9_flaw_21 : decode cX9_flaw 21 = .ok (.iconst 0, 1) := by decide +kernel
theorem dX9_flaw_22 : decode cX9_flaw 22 = .ok (.bipush 9, 2) := by decide +kernel
theorem dX9_flaw_24 : decode cX9_flaw 24 = .ok (.invokestatic 131, 3) := by decide +kernel
theorem dX9_flaw_27 : decode cX9_flaw 27 = .ok (.ifCond .ne 6, 3) := by decide +kernel
theorem dX9_flaw_30 : decode cX9_flaw 30 = .ok (.bipush (-2), 2) := by decide +kernel
theorem dX9_flaw_32 : decode cX9_flaw 32 = .ok (.ireturn, 1) := by decide +kernel
theorem dX9_flaw_33 : decode cX9_flaw 33 = .ok (.aload_n 0, 1) := by decide +kernel
theorem dX9_flaw_34 : decode cX9_flaw 34 = .ok (.getfield 58, 3) := by decide +kernel
theorem dX9_flaw_37 : decode cX9_flaw 37 = .ok (.iload_n 1, 1) := by decide +kernel
theorem dX9_flaw_38 : decode cX9_flaw 38 = .ok (.iload_n 2, 1) := by decide +kernel
theorem dX9_flaw_39 : decode cX9_flaw 39 = .ok (.iload_n 3, 1) := by decide +kernel
theorem dX9_flaw_40 : decode cX9_flaw 40 = .ok (.invokevirtual 220, 3) := by decide +kernel
theorem dX9_flaw_43 : decode cX9_flaw 43 = .ok (.ireturn, 1) := by decide +kernel
theorem dX9_ofFlaw_0 : decode cX9_ofFlaw 0 = .ok (.aload_n 0, 1) := by decide +kernel
theorem dX9_ofFlaw_1 : decode cX9_ofFlaw 1 = .ok (.getfield 58, 3) := by decide +kernel
theorem dX9_ofFlaw_4 : decode cX9_ofFlaw 4 = .ok (.iload_n 1, 1) := by decide +kernel
theorem dX9_ofFlaw_5 : decode cX9_ofFlaw 5 = .ok (.invokevirtual 224, 3) := by decide +kernel
theorem dX9_ofFlaw_8 : decode cX9_ofFlaw 8 = .ok (.ifCond .ne 5, 3) := by decide +kernel
theorem dX9_ofFlaw_11 : decode cX9_ofFlaw 11 = .ok (.iconst (-1), 1) := by decide +kernel
theorem dX9_ofFlaw_12 : decode cX9_ofFlaw 12 = .ok (.ireturn, 1) := by decide +kernel
theorem dX9_ofFlaw_13 : decode cX9_ofFlaw 13 = .ok (.iload_n 2, 1) := by decide +kernel
theorem dX9_ofFlaw_14 : decode cX9_ofFlaw 14 = .ok (.tableswitch 53 0 2 #[26, 35, 44], 26) := by decide +kernel
theorem dX9_ofFlaw_40 : decode cX9_ofFlaw 40 = .ok (.aload_n 0, 1) := by decide +kernel
theorem dX9_ofFlaw_41 : decode cX9_ofFlaw 41 = .ok (.getfield 58, 3) := by decide +kernel
theorem dX9_ofFlaw_44 : decode cX9_ofFlaw 44 = .ok (.iload_n 1, 1) := by decide +kernel
theorem dX9_ofFlaw_45 : decode cX9_ofFlaw 45 = .ok (.invokevirtual 225, 3) := by decide +kernel
theorem dX9_ofFlaw_48 : decode cX9_ofFlaw 48 = .ok (.ireturn, 1) := by decide +kernel
theorem dX9_ofFlaw_49 : decode cX9_ofFlaw 49 = .ok (.aload_n 0, 1) := by decide +kernel
theorem dX9_ofFlaw_50 : decode cX9_ofFlaw 50 = .ok (.getfield 58, 3) := by decide +kernel
theorem dX9_ofFlaw_53 : decode cX9_ofFlaw 53 = .ok (.iload_n 1, 1) := by decide +kernel
theorem dX9_ofFlaw_54 : decode cX9_ofFlaw 54 = .ok (.invokevirtual 228, 3) := by decide +kernel
theorem dX9_ofFlaw_57 : decode cX9_ofFlaw 57 = .ok (.ireturn, 1) := by decide +kernel
theorem dX9_ofFlaw_58 : decode cX9_ofFlaw 58 = .ok (.aload_n 0, 1) := by decide +kernel
theorem dX9_ofFlaw_59 : decode cX9_ofFlaw 59 = .ok (.getfield 58, 3) := by decide +kernel
theorem dX9_ofFlaw_62 : decode cX9_ofFlaw 62 = .ok (.iload_n 1, 1) := by decide +kernel
theorem dX9_ofFlaw_63 : decode cX9_ofFlaw 63 = .ok (.invokevirtual 231, 3) := by decide +kernel
theorem dX9_ofFlaw_66 : decode cX9_ofFlaw 66 = .ok (.ireturn, 1) := by decide +kernel
theorem dX9_ofFlaw_67 : decode cX9_ofFlaw 67 = .ok (.bipush (-2), 2) := by decide +kernel
theorem dX9_ofFlaw_69 : decode cX9_ofFlaw 69 = .ok (.ireturn, 1) := by decide +kernel
theorem dX9_reading_0 : decode cX9_reading 0 = .ok (.aload_n 0, 1) := by decide +kernel
theorem dX9_reading_1 : decode cX9_reading 1 = .ok (.getfield 34, 3) := by decide +kernel
theorem dX9_reading_4 : decode cX9_reading 4 = .ok (.iload_n 1, 1) := by decide +kernel
theorem dX9_reading_5 : decode cX9_reading 5 = .ok (.invokevirtual 156, 3) := by decide +kernel
theorem dX9_reading_8 : decode cX9_reading 8 = .ok (.ifCond .ne 5, 3) := by decide +kernel
theorem dX9_reading_11 : decode cX9_reading 11 = .ok (.iconst (-1), 1) := by decide +kernel
theorem dX9_reading_12 : decode cX9_reading 12 = .ok (.ireturn, 1) := by decide +kernel
theorem dX9_reading_13 : decode cX9_reading 13 = .ok (.aload_n 0, 1) := by decide +kernel
theorem dX9_reading_14 : decode cX9_reading 14 = .ok (.getfield 65, 3) := by decide +kernel
theorem dX9_reading_17 : decode cX9_reading 17 = .ok (.iload_n 1, 1) := by decide +kernel
theorem dX9_reading_18 : decode cX9_reading 18 = .ok (.iload_n 2, 1) := by decide +kernel
theorem dX9_reading_19 : decode cX9_reading 19 = .ok (.invokevirtual 234, 3) := by decide +kernel
theorem dX9_reading_22 : decode cX9_reading 22 = .ok (.ireturn, 1) := by decide +kernel
theorem dX9_back_0 : decode cX9_back 0 = .ok (.iload_n 1, 1) := by decide +kernel
theorem dX9_back_1 : decode cX9_back 1 = .ok (.iconst 0, 1) := by decide +kernel
theorem dX9_back_2 : decode cX9_back 2 = .ok (.aload_n 0, 1) := by decide +kernel
theorem dX9_back_3 : decode cX9_back 3 = .ok (.getfield 65, 3) := by decide +kernel
theorem dX9_back_6 : decode cX9_back 6 = .ok (.getfield 105, 3) := by decide +kernel
theorem dX9_back_9 : decode cX9_back 9 = .ok (.invokestatic 131, 3) := by decide +kernel
theorem dX9_back_12 : decode cX9_back 12 = .ok (.ifCond .ne 6, 3) := by decide +kernel
theorem dX9_back_15 : decode cX9_back 15 = .ok (.bipush (-2), 2) := by decide +kernel
theorem dX9_back_17 : decode cX9_back 17 = .ok (.ireturn, 1) := by decide +kernel
theorem dX9_back_18 : decode cX9_back 18 = .ok (.aload_n 0, 1) := by decide +kernel
theorem dX9_back_19 : decode cX9_back 19 = .ok (.getfield 65, 3) := by decide +kernel
theorem dX9_back_22 : decode cX9_back 22 = .ok (.dup, 1) := by decide +kernel
theorem dX9_back_23 : decode cX9_back 23 = .ok (.getfield 105, 3) := by decide +kernel
theorem dX9_back_26 : decode cX9_back 26 = .ok (.iload_n 1, 1) := by decide +kernel
theorem dX9_back_27 : decode cX9_back 27 = .ok (.isub, 1) := by decide +kernel
theorem dX9_back_28 : decode cX9_back 28 = .ok (.putfield 105, 3) := by decide +kernel
theorem dX9_back_31 : decode cX9_back 31 = .ok (.aload_n 0, 1) := by decide +kernel
theorem dX9_back_32 : decode cX9_back 32 = .ok (.getfield 65, 3) := by decide +kernel
theorem dX9_back_35 : decode cX9_back 35 = .ok (.getfield 105, 3) := by decide +kernel
theorem dX9_back_38 : decode cX9_back 38 = .ok (.ireturn, 1) := by decide +kernel
theorem dX9_likely_0 : decode cX9_likely 0 = .ok (.iload_n 1, 1) := by decide +kernel
theorem dX9_likely_1 : decode cX9_likely 1 = .ok (.iconst 0, 1) := by decide +kernel
theorem dX9_likely_2 : decode cX9_likely 2 = .ok (.iconst 1, 1) := by decide +kernel
theorem dX9_likely_3 : decode cX9_likely 3 = .ok (.invokestatic 131, 3) := by decide +kernel
theorem dX9_likely_6 : decode cX9_likely 6 = .ok (.ifCond .ne 6, 3) := by decide +kernel
theorem dX9_likely_9 : decode cX9_likely 9 = .ok (.bipush (-2), 2) := by decide +kernel
theorem dX9_likely_11 : decode cX9_likely 11 = .ok (.ireturn, 1) := by decide +kernel
theorem dX9_likely_12 : decode cX9_likely 12 = .ok (.aload_n 0, 1) := by decide +kernel
theorem dX9_likely_13 : decode cX9_likely 13 = .ok (.invokevirtual 189, 3) := by decide +kernel
theorem dX9_likely_16 : decode cX9_likely 16 = .ok (.ifCond .eq 6, 3) := by decide +kernel
theorem dX9_likely_19 : decode cX9_likely 19 = .ok (.bipush (-3), 2) := by decide +kernel
theorem dX9_likely_21 : decode cX9_likely 21 = .ok (.ireturn, 1) := by decide +kernel
theorem dX9_likely_22 : decode cX9_likely 22 = .ok (.iload_n 1, 1) := by decide +kernel
theorem dX9_likely_23 : decode cX9_likely 23 = .ok (.ifCond .ne 11, 3) := by decide +kernel
theorem dX9_likely_26 : decode cX9_likely 26 = .ok (.aload_n 0, 1) := by decide +kernel
theorem dX9_likely_27 : decode cX9_likely 27 = .ok (.iconst 0, 1) := by decide +kernel
theorem dX9_likely_28 : decode cX9_likely 28 = .ok (.invokevirtual 236, 3) := by decide +kernel
theorem dX9_likely_31 : decode cX9_likely 31 = .ok (.goto 7, 3) := by decide +kernel
theorem dX9_likely_34 : decode cX9_likely 34 = .ok (.aload_n 0, 1) := by decide +kernel
theorem dX9_likely_35 : decode cX9_likely 35 = .ok (.invokevirtual 239, 3) := by decide +kernel
theorem dX9_likely_38 : decode cX9_likely 38 = .ok (.ireturn, 1) := by decide +kernel
theorem dX9_each_0 : decode cX9_each 0 = .ok (.aload_n 0, 1) := by decide +kernel
theorem dX9_each_1 : decode cX9_each 1 = .ok (.getfield 58, 3) := by decide +kernel
theorem dX9_each_4 : decode cX9_each 4 = .ok (.iload_n 1, 1) := by decide +kernel
theorem dX9_each_5 : decode cX9_each 5 = .ok (.invokevirtual 224, 3) := by decide +kernel
theorem dX9_each_8 : decode cX9_each 8 = .ok (.ifCond .ne 5, 3) := by decide +kernel
theorem dX9_each_11 : decode cX9_each 11 = .ok (.iconst (-1), 1) := by decide +kernel
theorem dX9_each_12 : decode cX9_each 12 = .ok (.ireturn, 1) := by decide +kernel
theorem dX9_each_13 : decode cX9_each 13 = .ok (.aload_n 0, 1) := by decide +kernel
theorem dX9_each_14 : decode cX9_each 14 = .ok (.invokevirtual 189, 3) := by decide +kernel
theorem dX9_each_17 : decode cX9_each 17 = .ok (.ifCond .eq 6, 3) := by decide +kernel
theorem dX9_each_20 : decode cX9_each 20 = .ok (.bipush (-3), 2) := by decide +kernel
theorem dX9_each_22 : decode cX9_each 22 = .ok (.ireturn, 1) := by decide +kernel
theorem dX9_each_23 : decode cX9_each 23 = .ok (.aload_n 0, 1) := by decide +kernel
theorem dX9_each_24 : decode cX9_each 24 = .ok (.iconst 1, 1) := by decide +kernel
theorem dX9_each_25 : decode cX9_each 25 = .ok (.iload_n 1, 1) := by decide +kernel
theorem dX9_each_26 : decode cX9_each 26 = .ok (.ishl, 1) := by decide +kernel
theorem dX9_each_27 : decode cX9_each 27 = .ok (.invokevirtual 236, 3) := by decide +kernel
theorem dX9_each_30 : decode cX9_each 30 = .ok (.ireturn, 1) := by decide +kernel
theorem dX9_act_0 : decode cX9_act 0 = .ok (.aload_n 0, 1) := by decide +kernel
theorem dX9_act_1 : decode cX9_act 1 = .ok (.getfield 21, 3) := by decide +kernel
theorem dX9_act_4 : decode cX9_act 4 = .ok (.iload_n 1, 1) := by decide +kernel
theorem dX9_act_5 : decode cX9_act 5 = .ok (.invokevirtual 107, 3) := by decide +kernel
theorem dX9_act_8 : decode cX9_act 8 = .ok (.ifCond .ne 5, 3) := by decide +kernel
theorem dX9_act_11 : decode cX9_act 11 = .ok (.iconst (-1), 1) := by decide +kernel
theorem dX9_act_12 : decode cX9_act 12 = .ok (.ireturn, 1) := by decide +kernel
theorem dX9_act_13 : decode cX9_act 13 = .ok (.iload_n 2, 1) := by decide +kernel
theorem dX9_act_14 : decode cX9_act 14 = .ok (.iconst 0, 1) := by decide +kernel
theorem dX9_act_15 : decode cX9_act 15 = .ok (.iconst 3, 1) := by decide +kernel
theorem dX9_act_16 : decode cX9_act 16 = .ok (.invokestatic 131, 3) := by decide +kernel
theorem dX9_act_19 : decode cX9_act 19 = .ok (.ifCond .ne 6, 3) := by decide +kernel
theorem dX9_act_22 : decode cX9_act 22 = .ok (.bipush (-2), 2) := by decide +kernel
theorem dX9_act_24 : decode cX9_act 24 = .ok (.ireturn, 1) := by decide +kernel
theorem dX9_act_25 : decode cX9_act 25 = .ok (.aload_n 0, 1) := by decide +kernel
theorem dX9_act_26 : decode cX9_act 26 = .ok (.getfield 21, 3) := by decide +kernel
theorem dX9_act_29 : decode cX9_act 29 = .ok (.iload_n 1, 1) := by decide +kernel
theorem dX9_act_30 : decode cX9_act 30 = .ok (.iload_n 2, 1) := by decide +kernel
theorem dX9_act_31 : decode cX9_act 31 = .ok (.invokevirtual 242, 3) := by decide +kernel
theorem dX9_act_34 : decode cX9_act 34 = .ok (.ifCond .eq 7, 3) := by decide +kernel
theorem dX9_act_37 : decode cX9_act 37 = .ok (.iconst 1, 1) := by decide +kernel
theorem dX9_act_38 : decode cX9_act 38 = .ok (.goto 4, 3) := by decide +kernel
theorem dX9_act_41 : decode cX9_act 41 = .ok (.iconst 0, 1) := by decide +kernel
theorem dX9_act_42 : decode cX9_act 42 = .ok (.ireturn, 1) := by decide +kernel
theorem dX9_mend_0 : decode cX9_mend 0 = .ok (.iload_n 1, 1) := by decide +kernel
theorem dX9_mend_1 : decode cX9_mend 1 = .ok (.iconst 0, 1) := by decide +kernel
theorem dX9_mend_2 : decode cX9_mend 2 = .ok (.sipush 9999, 3) := by decide +kernel
theorem dX9_mend_5 : decode cX9_mend 5 = .ok (.invokestatic 131, 3) := by decide +kernel
theorem dX9_mend_8 : decode cX9_mend 8 = .ok (.ifCond .ne 6, 3) := by decide +kernel
theorem dX9_mend_11 : decode cX9_mend 11 = .ok (.bipush (-2), 2) := by decide +kernel
theorem dX9_mend_13 : decode cX9_mend 13 = .ok (.ireturn, 1) := by decide +kernel
theorem dX9_mend_14 : decode cX9_mend 14 = .ok (.iload_n 2, 1) := by decide +kernel
theorem dX9_mend_15 : decode cX9_mend 15 = .ok (.bipush (-2), 2) := by decide +kernel
theorem dX9_mend_17 : decode cX9_mend 17 = .ok (.iconst 1, 1) := by decide +kernel
theorem dX9_mend_18 : decode cX9_mend 18 = .ok (.invokestatic 131, 3) := by decide +kernel
theorem dX9_mend_21 : decode cX9_mend 21 = .ok (.ifCond .ne 5, 3) := by decide +kernel
theorem dX9_mend_24 : decode cX9_mend 24 = .ok (.iconst (-1), 1) := by decide +kernel
theorem dX9_mend_25 : decode cX9_mend 25 = .ok (.ireturn, 1) := by decide +kernel
theorem dX9_mend_26 : decode cX9_mend 26 = .ok (.aload_n 0, 1) := by decide +kernel
theorem dX9_mend_27 : decode cX9_mend 27 = .ok (.invokevirtual 189, 3) := by decide +kernel
theorem dX9_mend_30 : decode cX9_mend 30 = .ok (.ifCond .eq 6, 3) := by decide +kernel
theorem dX9_mend_33 : decode cX9_mend 33 = .ok (.bipush (-3), 2) := by decide +kernel
theorem dX9_mend_35 : decode cX9_mend 35 = .ok (.ireturn, 1) := by decide +kernel
theorem dX9_mend_36 : decode cX9_mend 36 = .ok (.aload_n 0, 1) := by decide +kernel
theorem dX9_mend_37 : decode cX9_mend 37 = .ok (.iload_n 1, 1) := by decide +kernel
theorem dX9_mend_38 : decode cX9_mend 38 = .ok (.invokevirtual 246, 3) := by decide +kernel
theorem dX9_mend_41 : decode cX9_mend 41 = .ok (.iload_n 2, 1) := by decide +kernel
theorem dX9_mend_42 : decode cX9_mend 42 = .ok (.tableswitch 50 (-2) 0 #[26, 34, 42], 26) := by decide +kernel
theorem dX9_mend_68 : decode cX9_mend 68 = .ok (.aload_n 0, 1) := by decide +kernel
theorem dX9_mend_69 : decode cX9_mend 69 = .ok (.getfield 72, 3) := by decide +kernel
theorem dX9_mend_72 : decode cX9_mend 72 = .ok (.getfield 250, 3) := by decide +kernel
theorem dX9_mend_75 : decode cX9_mend 75 = .ok (.ireturn, 1) := by decide +kernel
theorem dX9_mend_76 : decode cX9_mend 76 = .ok (.aload_n 0, 1) := by decide +kernel
theorem dX9_mend_77 : decode cX9_mend 77 = .ok (.getfield 72, 3) := by decide +kernel
theorem dX9_mend_80 : decode cX9_mend 80 = .ok (.getfield 253, 3) := by decide +kernel
theorem dX9_mend_83 : decode cX9_mend 83 = .ok (.ireturn, 1) := by decide +kernel
theorem dX9_mend_84 : decode cX9_mend 84 = .ok (.aload_n 0, 1) := by decide +kernel
theorem dX9_mend_85 : decode cX9_mend 85 = .ok (.getfield 72, 3) := by decide +kernel
theorem dX9_mend_88 : decode cX9_mend 88 = .ok (.getfield 256, 3) := by decide +kernel
theorem dX9_mend_91 : decode cX9_mend 91 = .ok (.ireturn, 1) := by decide +kernel
theorem dX9_mend_92 : decode cX9_mend 92 = .ok (.aload_n 0, 1) := by decide +kernel
theorem dX9_mend_93 : decode cX9_mend 93 = .ok (.getfield 72, 3) := by decide +kernel
theorem dX9_mend_96 : decode cX9_mend 96 = .ok (.getfield 259, 3) := by decide +kernel
theorem dX9_mend_99 : decode cX9_mend 99 = .ok (.ireturn, 1) := by decide +kernel
theorem dX9_log_0 : decode cX9_log 0 = .ok (.aload_n 0, 1) := by decide +kernel
theorem dX9_log_1 : decode cX9_log 1 = .ok (.iload_n 1, 1) := by decide +kernel
theorem dX9_log_2 : decode cX9_log 2 = .ok (.iload_n 2, 1) := by decide +kernel
theorem dX9_log_3 : decode cX9_log 3 = .ok (.iload_n 3, 1) := by decide +kernel
theorem dX9_log_4 : decode cX9_log 4 = .ok (.iload 4, 2) := by decide +kernel
theorem dX9_log_6 : decode cX9_log 6 = .ok (.invokevirtual 90, 3) := by decide +kernel
theorem dX9_log_9 : decode cX9_log 9 = .ok (.istore 6, 2) := by decide +kernel
theorem dX9_log_11 : decode cX9_log 11 = .ok (.iload 6, 2) := by decide +kernel
theorem dX9_log_13 : decode cX9_log 13 = .ok (.ifCond .eq 6, 3) := by decide +kernel
theorem dX9_log_16 : decode cX9_log 16 = .ok (.iload 6, 2) := by decide +kernel
theorem dX9_log_18 : decode cX9_log 18 = .ok (.ireturn, 1) := by decide +kernel
theorem dX9_log_19 : decode cX9_log 19 = .ok (.aload_n 0, 1) := by decide +kernel
theorem dX9_log_20 : decode cX9_log 20 = .ok (.getfield 79, 3) := by decide +kernel
theorem dX9_log_23 : decode cX9_log 23 = .ok (.aload_n 0, 1) := by decide +kernel
theorem dX9_log_24 : decode cX9_log 24 = .ok (.getfield 12, 3) := by decide +kernel
theorem dX9_log_27 : decode cX9_log 27 = .ok (.iload_n 1, 1) := by decide +kernel
theorem dX9_log_28 : decode cX9_log 28 = .ok (.iload_n 3, 1) := by decide +kernel
theorem dX9_log_29 : decode cX9_log 29 = .ok (.iload 4, 2) := by decide +kernel
theorem dX9_log_31 : decode cX9_log 31 = .ok (.invokevirtual 262, 3) := by decide +kernel
theorem dX9_log_34 : decode cX9_log 34 = .ok (.ifCond .ne 6, 3) := by decide +kernel
theorem dX9_log_37 : decode cX9_log 37 = .ok (.bipush (-2), 2) := by decide +kernel
theorem dX9_log_39 : decode cX9_log 39 = .ok (.ireturn, 1) := by decide +kernel
theorem dX9_log_40 : decode cX9_log 40 = .ok (.iload 5, 2) := by decide +kernel
theorem dX9_log_42 : decode cX9_log 42 = .ok (.iconst (-1), 1) := by decide +kernel
theorem dX9_log_43 : decode cX9_log 43 = .ok (.iconst 5, 1) := by decide +kernel
theorem dX9_log_44 : decode cX9_log 44 = .ok (.invokestatic 131, 3) := by decide +kernel
theorem dX9_log_47 : decode cX9_log 47 = .ok (.ifCond .ne 5, 3) := by decide +kernel
theorem dX9_log_50 : decode cX9_log 50 = .ok (.iconst (-1), 1) := by decide +kernel
theorem dX9_log_51 : decode cX9_log 51 = .ok (.ireturn, 1) := by decide +kernel
theorem dX9_log_52 : decode cX9_log 52 = .ok (.aload_n 0, 1) := by decide +kernel
theorem dX9_log_53 : decode cX9_log 53 = .ok (.getfield 79, 3) := by decide +kernel
theorem dX9_log_56 : decode cX9_log 56 = .ok (.invokevirtual 265, 3) := by decide +kernel
theorem dX9_log_59 : decode cX9_log 59 = .ok (.iload 5, 2) := by decide +kernel
theorem dX9_log_61 : decode cX9_log 61 = .ok (.iconst (-1), 1) := by decide +kernel
theorem dX9_log_62 : decode cX9_log 62 = .ok (.if_icmp .ne 13, 3) := by decide +kernel
theorem dX9_log_65 : decode cX9_log 65 = .ok (.aload_n 0, 1) := by decide +kernel
theorem dX9_log_66 : decode cX9_log 66 = .ok (.getfield 79, 3) := by decide +kernel
theorem dX9_log_69 : decode cX9_log 69 = .ok (.invokevirtual 268, 3) := by decide +kernel
theorem dX9_log_72 : decode cX9_log 72 = .ok (.goto 12, 3) := by decide +kernel
theorem dX9_log_75 : decode cX9_log 75 = .ok (.aload_n 0, 1) := by decide +kernel
theorem dX9_log_76 : decode cX9_log 76 = .ok (.getfield 79, 3) := by decide +kernel
theorem dX9_log_79 : decode cX9_log 79 = .ok (.iload 5, 2) := by decide +kernel
theorem dX9_log_81 : decode cX9_log 81 = .ok (.invokevirtual 271, 3) := by decide +kernel
theorem dX9_log_84 : decode cX9_log 84 = .ok (.ireturn, 1) := by decide +kernel
theorem dX9_sheet_0 : decode cX9_sheet 0 = .ok (.aload_n 0, 1) := by decide +kernel
theorem dX9_sheet_1 : decode cX9_sheet 1 = .ok (.iconst 0, 1) := by decide +kernel
theorem dX9_sheet_2 : decode cX9_sheet 2 = .ok (.putfield 87, 3) := by decide +kernel
theorem dX9_sheet_5 : decode cX9_sheet 5 = .ok (.iload_n 1, 1) := by decide +kernel
theorem dX9_sheet_6 : decode cX9_sheet 6 = .ok (.invokestatic 274, 3) := by decide +kernel
theorem dX9_sheet_9 : decode cX9_sheet 9 = .ok (.ifCond .ne 5, 3) := by decide +kernel
theorem dX9_sheet_12 : decode cX9_sheet 12 = .ok (.iconst (-1), 1) := by decide +kernel
theorem dX9_sheet_13 : decode cX9_sheet 13 = .ok (.ireturn, 1) := by decide +kernel
theorem dX9_sheet_14 : decode cX9_sheet 14 = .ok (.iload_n 2, 1) := by decide +kernel
theorem dX9_sheet_15 : decode cX9_sheet 15 = .ok (.invokestatic 277, 3) := by decide +kernel
theorem dX9_sheet_18 : decode cX9_sheet 18 = .ok (.ifCond .eq 9, 3) := by decide +kernel
theorem dX9_sheet_21 : decode cX9_sheet 21 = .ok (.iload_n 3, 1) := by decide +kernel
theorem dX9_sheet_22 : decode cX9_sheet 22 = .ok (.bipush 80, 2) := by decide +kernel
theorem dX9_sheet_24 : decode cX9_sheet 24 = .ok (.if_icmp .le 6, 3) := by decide +kernel
theorem dX9_sheet_27 : decode cX9_sheet 27 = .ok (.bipush (-2), 2) := by decide +kernel
theorem dX9_sheet_29 : decode cX9_sheet 29 = .ok (.ireturn, 1) := by decide +kernel
theorem dX9_sheet_30 : decode cX9_sheet 30 = .ok (.iload_n 3, 1) := by decide +kernel
theorem dX9_sheet_31 : decode cX9_sheet 31 = .ok (.ifCond .ge 9, 3) := by decide +kernel
theorem dX9_sheet_34 : decode cX9_sheet 34 = .ok (.aload_n 0, 1) := by decide +kernel
theorem dX9_sheet_35 : decode cX9_sheet 35 = .ok (.iconst 4, 1) := by decide +kernel
theorem dX9_sheet_36 : decode cX9_sheet 36 = .ok (.invokevirtual 280, 3) := by decide +kernel
theorem dX9_sheet_39 : decode cX9_sheet 39 = .ok (.ireturn, 1) := by decide +kernel
theorem dX9_sheet_40 : decode cX9_sheet 40 = .ok (.aload_n 0, 1) := by decide +kernel
theorem dX9_sheet_41 : decode cX9_sheet 41 = .ok (.getfield 12, 3) := by decide +kernel
theorem dX9_sheet_44 : decode cX9_sheet 44 = .ok (.iload_n 1, 1) := by decide +kernel
theorem dX9_sheet_45 : decode cX9_sheet 45 = .ok (.iload_n 2, 1) := by decide +kernel
theorem dX9_sheet_46 : decode cX9_sheet 46 = .ok (.iload_n 3, 1) := by decide +kernel
theorem dX9_sheet_47 : decode cX9_sheet 47 = .ok (.invokevirtual 283, 3) := by decide +kernel
theorem dX9_sheet_50 : decode cX9_sheet 50 = .ok (.iconst 1, 1) := by decide +kernel
theorem dX9_sheet_51 : decode cX9_sheet 51 = .ok (.ireturn, 1) := by decide +kernel
theorem dX9_lose_0 : decode cX9_lose 0 = .ok (.iload_n 1, 1) := by decide +kernel
theorem dX9_lose_1 : decode cX9_lose 1 = .ok (.invokestatic 274, 3) := by decide +kernel
theorem dX9_lose_4 : decode cX9_lose 4 = .ok (.ifCond .ne 5, 3) := by decide +kernel
theorem dX9_lose_7 : decode cX9_lose 7 = .ok (.iconst (-1), 1) := by decide +kernel
theorem dX9_lose_8 : decode cX9_lose 8 = .ok (.ireturn, 1) := by decide +kernel
theorem dX9_lose_9 : decode cX9_lose 9 = .ok (.aload_n 0, 1) := by decide +kernel
theorem dX9_lose_10 : decode cX9_lose 10 = .ok (.getfield 12, 3) := by decide +kernel
theorem dX9_lose_13 : decode cX9_lose 13 = .ok (.iload_n 1, 1) := by decide +kernel
theorem dX9_lose_14 : decode cX9_lose 14 = .ok (.invokevirtual 286, 3) := by decide +kernel
theorem dX9_lose_17 : decode cX9_lose 17 = .ok (.ifCond .eq 7, 3) := by decide +kernel
theorem dX9_lose_20 : decode cX9_lose 20 = .ok (.iconst 1, 1) := by decide +kernel
theorem dX9_lose_21 : decode cX9_lose 21 = .ok (.goto 4, 3) := by decide +kernel
theorem dX9_lose_24 : decode cX9_lose 24 = .ok (.iconst 0, 1) := by decide +kernel
theorem dX9_lose_25 : decode cX9_lose 25 = .ok (.ireturn, 1) := by decide +kernel
theorem dX9_put_0 : decode cX9_put 0 = .ok (.aload_n 0, 1) := by decide +kernel
theorem dX9_put_1 : decode cX9_put 1 = .ok (.iconst 0, 1) := by decide +kernel
theorem dX9_put_2 : decode cX9_put 2 = .ok (.putfield 87, 3) := by decide +kernel
theorem dX9_put_5 : decode cX9_put 5 = .ok (.iload_n 1, 1) := by decide +kernel
theorem dX9_put_6 : decode cX9_put 6 = .ok (.invokestatic 274, 3) := by decide +kernel
theorem dX9_put_9 : decode cX9_put 9 = .ok (.ifCond .ne 5, 3) := by decide +kernel
theorem dX9_put_12 : decode cX9_put 12 = .ok (.iconst (-1), 1) := by decide +kernel
theorem dX9_put_13 : decode cX9_put 13 = .ok (.ireturn, 1) := by decide +kernel
theorem dX9_put_14 : decode cX9_put 14 = .ok (.aload_n 0, 1) := by decide +kernel
theorem dX9_put_15 : decode cX9_put 15 = .ok (.getfield 12, 3) := by decide +kernel
theorem dX9_put_18 : decode cX9_put 18 = .ok (.iload_n 1, 1) := by decide +kernel
theorem dX9_put_19 : decode cX9_put 19 = .ok (.invokevirtual 289, 3) := by decide +kernel
theorem dX9_put_22 : decode cX9_put 22 = .ok (.ifCond .eq 9, 3) := by decide +kernel
theorem dX9_put_25 : decode cX9_put 25 = .ok (.aload_n 0, 1) := by decide +kernel
theorem dX9_put_26 : decode cX9_put 26 = .ok (.iconst 1, 1) := by decide +kernel
theorem dX9_put_27 : decode cX9_put 27 = .ok (.invokevirtual 280, 3) := by decide +kernel
theorem dX9_put_30 : decode cX9_put 30 = .ok (.ireturn, 1) := by decide +kernel
theorem dX9_put_31 : decode cX9_put 31 = .ok (.aload_n 0, 1) := by decide +kernel
theorem dX9_put_32 : decode cX9_put 32 = .ok (.getfield 12, 3) := by decide +kernel
theorem dX9_put_35 : decode cX9_put 35 = .ok (.iload_n 1, 1) := by decide +kernel
theorem dX9_put_36 : decode cX9_put 36 = .ok (.iload_n 2, 1) := by decide +kernel
theorem dX9_put_37 : decode cX9_put 37 = .ok (.invokevirtual 292, 3) := by decide +kernel
theorem dX9_put_40 : decode cX9_put 40 = .ok (.ifCond .ne 9, 3) := by decide +kernel
theorem dX9_put_43 : decode cX9_put 43 = .ok (.aload_n 0, 1) := by decide +kernel
theorem dX9_put_44 : decode cX9_put 44 = .ok (.iconst 3, 1) := by decide +kernel
theorem dX9_put_45 : decode cX9_put 45 = .ok (.invokevirtual 280, 3) := by decide +kernel
theorem dX9_put_48 : decode cX9_put 48 = .ok (.ireturn, 1) := by decide +kernel
theorem dX9_put_49 : decode cX9_put 49 = .ok (.aload_n 0, 1) := by decide +kernel
theorem dX9_put_50 : decode cX9_put 50 = .ok (.getfield 12, 3) := by decide +kernel
theorem dX9_put_53 : decode cX9_put 53 = .ok (.iload_n 1, 1) := by decide +kernel
theorem dX9_put_54 : decode cX9_put 54 = .ok (.iload_n 2, 1) := by decide +kernel
theorem dX9_put_55 : decode cX9_put 55 = .ok (.iload_n 3, 1) := by decide +kernel
theorem dX9_put_56 : decode cX9_put 56 = .ok (.invokevirtual 295, 3) := by decide +kernel
theorem dX9_put_59 : decode cX9_put 59 = .ok (.iconst 1, 1) := by decide +kernel
theorem dX9_put_60 : decode cX9_put 60 = .ok (.ireturn, 1) := by decide +kernel
theorem dX9_cell_0 : decode cX9_cell 0 = .ok (.aload_n 0, 1) := by decide +kernel
theorem dX9_cell_1 : decode cX9_cell 1 = .ok (.iconst 0, 1) := by decide +kernel
theorem dX9_cell_2 : decode cX9_cell 2 = .ok (.putfield 87, 3) := by decide +kernel
theorem dX9_cell_5 : decode cX9_cell 5 = .ok (.iload_n 1, 1) := by decide +kernel
theorem dX9_cell_6 : decode cX9_cell 6 = .ok (.invokestatic 274, 3) := by decide +kernel
theorem dX9_cell_9 : decode cX9_cell 9 = .ok (.ifCond .eq 10, 3) := by decide +kernel
theorem dX9_cell_12 : decode cX9_cell 12 = .ok (.iload_n 3, 1) := by decide +kernel
theorem dX9_cell_13 : decode cX9_cell 13 = .ok (.invokestatic 277, 3) := by decide +kernel
theorem dX9_cell_16 : decode cX9_cell 16 = .ok (.ifCond .ne 7, 3) := by decide +kernel
theorem dX9_cell_19 : decode cX9_cell 19 = .ok (.ldc2_w 184, 3) := by decide +kernel
theorem dX9_cell_22 : decode cX9_cell 22 = .ok (.lreturn, 1) := by decide +kernel
theorem dX9_cell_23 : decode cX9_cell 23 = .ok (.aload_n 0, 1) := by decide +kernel
theorem dX9_cell_24 : decode cX9_cell 24 = .ok (.aload_n 0, 1) := by decide +kernel
theorem dX9_cell_25 : decode cX9_cell 25 = .ok (.getfield 12, 3) := by decide +kernel
theorem dX9_cell_28 : decode cX9_cell 28 = .ok (.iload_n 1, 1) := by decide +kernel
theorem dX9_cell_29 : decode cX9_cell 29 = .ok (.iload_n 3, 1) := by decide +kernel
theorem dX9_cell_30 : decode cX9_cell 30 = .ok (.invokevirtual 298, 3) := by decide +kernel
theorem dX9_cell_33 : decode cX9_cell 33 = .ok (.putfield 87, 3) := by decide +kernel
theorem dX9_cell_36 : decode cX9_cell 36 = .ok (.aload_n 0, 1) := by decide +kernel
theorem dX9_cell_37 : decode cX9_cell 37 = .ok (.getfield 87, 3) := by decide +kernel
theorem dX9_cell_40 : decode cX9_cell 40 = .ok (.ifCond .ne 20, 3) := by decide +kernel
theorem dX9_cell_43 : decode cX9_cell 43 = .ok (.aload_n 0, 1) := by decide +kernel
theorem dX9_cell_44 : decode cX9_cell 44 = .ok (.getfield 12, 3) := by decide +kernel
theorem dX9_cell_47 : decode cX9_cell 47 = .ok (.iload_n 1, 1) := by decide +kernel
theorem dX9_cell_48 : decode cX9_cell 48 = .ok (.iload_n 2, 1) := by decide +kernel
theorem dX9_cell_49 : decode cX9_cell 49 = .ok (.invokevirtual 292, 3) := by decide +kernel
theorem dX9_cell_52 : decode cX9_cell 52 = .ok (.ifCond .ne 8, 3) := by decide +kernel
theorem dX9_cell_55 : decode cX9_cell 55 = .ok (.aload_n 0, 1) := by decide +kernel
theorem dX9_cell_56 : decode cX9_cell 56 = .ok (.iconst 3, 1) := by decide +kernel
theorem dX9_cell_57 : decode cX9_cell 57 = .ok (.putfield 87, 3) := by decide +kernel
theorem dX9_cell_60 : decode cX9_cell 60 = .ok (.aload_n 0, 1) := by decide +kernel
theorem dX9_cell_61 : decode cX9_cell 61 = .ok (.getfield 87, 3) := by decide +kernel
theorem dX9_cell_64 : decode cX9_cell 64 = .ok (.ifCond .ne 16, 3) := by decide +kernel
theorem dX9_cell_67 : decode cX9_cell 67 = .ok (.aload_n 0, 1) := by decide +kernel
theorem dX9_cell_68 : decode cX9_cell 68 = .ok (.getfield 12, 3) := by decide +kernel
theorem dX9_cell_71 : decode cX9_cell 71 = .ok (.iload_n 1, 1) := by decide +kernel
theorem dX9_cell_72 : decode cX9_cell 72 = .ok (.iload_n 2, 1) := by decide +kernel
theorem dX9_cell_73 : decode cX9_cell 73 = .ok (.invokevirtual 301, 3) := by decide +kernel
theorem dX9_cell_76 : decode cX9_cell 76 = .ok (.i2l, 1) := by decide +kernel
theorem dX9_cell_77 : decode cX9_cell 77 = .ok (.goto 6, 3) := by decide +kernel
theorem dX9_cell_80 : decode cX9_cell 80 = .ok (.ldc2_w 184, 3) := by decide +kernel
theorem dX9_cell_83 : decode cX9_cell 83 = .ok (.lreturn, 1) := by decide +kernel
theorem dX9_copy_0 : decode cX9_copy 0 = .ok (.aload_n 0, 1) := by decide +kernel
theorem dX9_copy_1 : decode cX9_copy 1 = .ok (.iconst 0, 1) := by decide +kernel
theorem dX9_copy_2 : decode cX9_copy 2 = .ok (.putfield 87, 3) := by decide +kernel
theorem dX9_copy_5 : decode cX9_copy 5 = .ok (.iload_n 1, 1) := by decide +kernel
theorem dX9_copy_6 : decode cX9_copy 6 = .ok (.invokestatic 274, 3) := by decide +kernel
theorem dX9_copy_9 : decode cX9_copy 9 = .ok (.ifCond .eq 10, 3) := by decide +kernel
theorem dX9_copy_12 : decode cX9_copy 12 = .ok (.iload_n 3, 1) := by decide +kernel
theorem dX9_copy_13 : decode cX9_copy 13 = .ok (.invokestatic 274, 3) := by decide +kernel
theorem dX9_copy_16 : decode cX9_copy 16 = .ok (.ifCond .ne 5, 3) := by decide +kernel
theorem dX9_copy_19 : decode cX9_copy 19 = .ok (.iconst (-1), 1) := by decide +kernel
theorem dX9_copy_20 : decode cX9_copy 20 = .ok (.ireturn, 1) := by decide +kernel
theorem dX9_copy_21 : decode cX9_copy 21 = .ok (.aload_n 0, 1) := by decide +kernel
theorem dX9_copy_22 : decode cX9_copy 22 = .ok (.getfield 12, 3) := by decide +kernel
theorem dX9_copy_25 : decode cX9_copy 25 = .ok (.iload_n 1, 1) := by decide +kernel
theorem dX9_copy_26 : decode cX9_copy 26 = .ok (.invokevirtual 289, 3) := by decide +kernel
theorem dX9_copy_29 : decode cX9_copy 29 = .ok (.ifCond .ne 14, 3) := by decide +kernel
theorem dX9_copy_32 : decode cX9_copy 32 = .ok (.aload_n 0, 1) := by decide +kernel
theorem dX9_copy_33 : decode cX9_copy 33 = .ok (.getfield 12, 3) := by decide +kernel
theorem dX9_copy_36 : decode cX9_copy 36 = .ok (.iload_n 3, 1) := by decide +kernel
theorem dX9_copy_37 : decode cX9_copy 37 = .ok (.invokevirtual 289, 3) := by decide +kernel
theorem dX9_copy_40 : decode cX9_copy 40 = .ok (.ifCond .eq 9, 3) := by decide +kernel
theorem dX9_copy_43 : decode cX9_copy 43 = .ok (.aload_n 0, 1) := by decide +kernel
theorem dX9_copy_44 : decode cX9_copy 44 = .ok (.iconst 1, 1) := by decide +kernel
theorem dX9_copy_45 : decode cX9_copy 45 = .ok (.invokevirtual 280, 3) := by decide +kernel
theorem dX9_copy_48 : decode cX9_copy 48 = .ok (.ireturn, 1) := by decide +kernel
theorem dX9_copy_49 : decode cX9_copy 49 = .ok (.aload_n 0, 1) := by decide +kernel
theorem dX9_copy_50 : decode cX9_copy 50 = .ok (.getfield 12, 3) := by decide +kernel
theorem dX9_copy_53 : decode cX9_copy 53 = .ok (.iload_n 1, 1) := by decide +kernel
theorem dX9_copy_54 : decode cX9_copy 54 = .ok (.iload_n 3, 1) := by decide +kernel
theorem dX9_copy_55 : decode cX9_copy 55 = .ok (.invokevirtual 304, 3) := by decide +kernel
theorem dX9_copy_58 : decode cX9_copy 58 = .ok (.ifCond .ne 9, 3) := by decide +kernel
theorem dX9_copy_61 : decode cX9_copy 61 = .ok (.aload_n 0, 1) := by decide +kernel
theorem dX9_copy_62 : decode cX9_copy 62 = .ok (.iconst 2, 1) := by decide +kernel
theorem dX9_copy_63 : decode cX9_copy 63 = .ok (.invokevirtual 280, 3) := by decide +kernel
theorem dX9_copy_66 : decode cX9_copy 66 = .ok (.ireturn, 1) := by decide +kernel
theorem dX9_copy_67 : decode cX9_copy 67 = .ok (.aload_n 0, 1) := by decide +kernel
theorem dX9_copy_68 : decode cX9_copy 68 = .ok (.getfield 12, 3) := by decide +kernel
theorem dX9_copy_71 : decode cX9_copy 71 = .ok (.iload_n 1, 1) := by decide +kernel
theorem dX9_copy_72 : decode cX9_copy 72 = .ok (.iload_n 2, 1) := by decide +kernel
theorem dX9_copy_73 : decode cX9_copy 73 = .ok (.iload 5, 2) := by decide +kernel
theorem dX9_copy_75 : decode cX9_copy 75 = .ok (.invokevirtual 307, 3) := by decide +kernel
theorem dX9_copy_78 : decode cX9_copy 78 = .ok (.ifCond .eq 18, 3) := by decide +kernel
theorem dX9_copy_81 : decode cX9_copy 81 = .ok (.aload_n 0, 1) := by decide +kernel
theorem dX9_copy_82 : decode cX9_copy 82 = .ok (.getfield 12, 3) := by decide +kernel
theorem dX9_copy_85 : decode cX9_copy 85 = .ok (.iload_n 3, 1) := by decide +kernel
theorem dX9_copy_86 : decode cX9_copy 86 = .ok (.iload 4, 2) := by decide +kernel
theorem dX9_copy_88 : decode cX9_copy 88 = .ok (.iload 5, 2) := by decide +kernel
theorem dX9_copy_90 : decode cX9_copy 90 = .ok (.invokevirtual 307, 3) := by decide +kernel
theorem dX9_copy_93 : decode cX9_copy 93 = .ok (.ifCond .ne 9, 3) := by decide +kernel
theorem dX9_copy_96 : decode cX9_copy 96 = .ok (.aload_n 0, 1) := by decide +kernel
theorem dX9_copy_97 : decode cX9_copy 97 = .ok (.iconst 3, 1) := by decide +kernel
theorem dX9_copy_98 : decode cX9_copy 98 = .ok (.invokevirtual 280, 3) := by decide +kernel
theorem dX9_copy_101 : decode cX9_copy 101 = .ok (.ireturn, 1) := by decide +kernel
theorem dX9_copy_102 : decode cX9_copy 102 = .ok (.aload_n 0, 1) := by decide +kernel
theorem dX9_copy_103 : decode cX9_copy 103 = .ok (.getfield 12, 3) := by decide +kernel
theorem dX9_copy_106 : decode cX9_copy 106 = .ok (.iload_n 1, 1) := by decide +kernel
theorem dX9_copy_107 : decode cX9_copy 107 = .ok (.iload_n 2, 1) := by decide +kernel
theorem dX9_copy_108 : decode cX9_copy 108 = .ok (.iload_n 3, 1) := by decide +kernel
theorem dX9_copy_109 : decode cX9_copy 109 = .ok (.iload 4, 2) := by decide +kernel
theorem dX9_copy_111 : decode cX9_copy 111 = .ok (.iload 5, 2) := by decide +kernel
theorem dX9_copy_113 : decode cX9_copy 113 = .ok (.invokevirtual 310, 3) := by decide +kernel
theorem dX9_copy_116 : decode cX9_copy 116 = .ok (.iload 5, 2) := by decide +kernel
theorem dX9_copy_118 : decode cX9_copy 118 = .ok (.ireturn, 1) := by decide +kernel
theorem dX9_tell_0 : decode cX9_tell 0 = .ok (.aload_n 0, 1) := by decide +kernel
theorem dX9_tell_1 : decode cX9_tell 1 = .ok (.getfield 21, 3) := by decide +kernel
theorem dX9_tell_4 : decode cX9_tell 4 = .ok (.iload_n 1, 1) := by decide +kernel
theorem dX9_tell_5 : decode cX9_tell 5 = .ok (.invokevirtual 107, 3) := by decide +kernel
theorem dX9_tell_8 : decode cX9_tell 8 = .ok (.ifCond .ne 5, 3) := by decide +kernel
theorem dX9_tell_11 : decode cX9_tell 11 = .ok (.iconst (-1), 1) := by decide +kernel
theorem dX9_tell_12 : decode cX9_tell 12 = .ok (.ireturn, 1) := by decide +kernel
theorem dX9_tell_13 : decode cX9_tell 13 = .ok (.aload_n 0, 1) := by decide +kernel
theorem dX9_tell_14 : decode cX9_tell 14 = .ok (.getfield 21, 3) := by decide +kernel
theorem dX9_tell_17 : decode cX9_tell 17 = .ok (.iload_n 1, 1) := by decide +kernel
theorem dX9_tell_18 : decode cX9_tell 18 = .ok (.invokevirtual 111, 3) := by decide +kernel
theorem dX9_tell_21 : decode cX9_tell 21 = .ok (.lookupswitch 39 #[(1, 33), (2, 27)], 27) := by decide +kernel
theorem dX9_tell_48 : decode cX9_tell 48 = .ok (.aload_n 0, 1) := by decide +kernel
theorem dX9_tell_49 : decode cX9_tell 49 = .ok (.iload_n 1, 1) := by decide +kernel
theorem dX9_tell_50 : decode cX9_tell 50 = .ok (.invokevirtual 314, 3) := by decide +kernel
theorem dX9_tell_53 : decode cX9_tell 53 = .ok (.ireturn, 1) := by decide +kernel
theorem dX9_tell_54 : decode cX9_tell 54 = .ok (.aload_n 0, 1) := by decide +kernel
theorem dX9_tell_55 : decode cX9_tell 55 = .ok (.iload_n 1, 1) := by decide +kernel
theorem dX9_tell_56 : decode cX9_tell 56 = .ok (.invokevirtual 317, 3) := by decide +kernel
theorem dX9_tell_59 : decode cX9_tell 59 = .ok (.ireturn, 1) := by decide +kernel
theorem dX9_tell_60 : decode cX9_tell 60 = .ok (.aload_n 0, 1) := by decide +kernel
theorem dX9_tell_61 : decode cX9_tell 61 = .ok (.iload_n 1, 1) := by decide +kernel
theorem dX9_tell_62 : decode cX9_tell 62 = .ok (.invokevirtual 320, 3) := by decide +kernel
theorem dX9_tell_65 : decode cX9_tell 65 = .ok (.ireturn, 1) := by decide +kernel
theorem dX9_joint_0 : decode cX9_joint 0 = .ok (.aload_n 0, 1) := by decide +kernel
theorem dX9_joint_1 : decode cX9_joint 1 = .ok (.getfield 21, 3) := by decide +kernel
theorem dX9_joint_4 : decode cX9_joint 4 = .ok (.iload_n 1, 1) := by decide +kernel
theorem dX9_joint_5 : decode cX9_joint 5 = .ok (.invokevirtual 107, 3) := by decide +kernel
theorem dX9_joint_8 : decode cX9_joint 8 = .ok (.ifCond .ne 5, 3) := by decide +kernel
theorem dX9_joint_11 : decode cX9_joint 11 = .ok (.iconst (-1), 1) := by decide +kernel
theorem dX9_joint_12 : decode cX9_joint 12 = .ok (.ireturn, 1) := by decide +kernel
theorem dX9_joint_13 : decode cX9_joint 13 = .ok (.aload_n 0, 1) := by decide +kernel
theorem dX9_joint_14 : decode cX9_joint 14 = .ok (.getfield 21, 3) := by decide +kernel
theorem dX9_joint_17 : decode cX9_joint 17 = .ok (.iload_n 1, 1) := by decide +kernel
theorem dX9_joint_18 : decode cX9_joint 18 = .ok (.invokevirtual 111, 3) := by decide +kernel
theorem dX9_joint_21 : decode cX9_joint 21 = .ok (.iconst 2, 1) := by decide +kernel
theorem dX9_joint_22 : decode cX9_joint 22 = .ok (.if_icmp .ne 11, 3) := by decide +kernel
theorem dX9_joint_25 : decode cX9_joint 25 = .ok (.aload_n 0, 1) := by decide +kernel
theorem dX9_joint_26 : decode cX9_joint 26 = .ok (.iconst 5, 1) := by decide +kernel
theorem dX9_joint_27 : decode cX9_joint 27 = .ok (.invokevirtual 323, 3) := by decide +kernel
theorem dX9_joint_30 : decode cX9_joint 30 = .ok (.bipush 70, 2) := by decide +kernel
theorem dX9_joint_32 : decode cX9_joint 32 = .ok (.ireturn, 1) := by decide +kernel
theorem dX9_joint_33 : decode cX9_joint 33 = .ok (.aload_n 0, 1) := by decide +kernel
theorem dX9_joint_34 : decode cX9_joint 34 = .ok (.iconst 4, 1) := by decide +kernel
theorem dX9_joint_35 : decode cX9_joint 35 = .ok (.invokevirtual 323, 3) := by decide +kernel
theorem dX9_joint_38 : decode cX9_joint 38 = .ok (.iload_n 1, 1) := by decide +kernel
theorem dX9_joint_39 : decode cX9_joint 39 = .ok (.ireturn, 1) := by decide +kernel
theorem dX9_as_0 : decode cX9_as 0 = .ok (.aload_n 0, 1) := by decide +kernel
theorem dX9_as_1 : decode cX9_as 1 = .ok (.iconst 0, 1) := by decide +kernel
theorem dX9_as_2 : decode cX9_as 2 = .ok (.putfield 87, 3) := by decide +kernel
theorem dX9_as_5 : decode cX9_as 5 = .ok (.aload_n 0, 1) := by decide +kernel
theorem dX9_as_6 : decode cX9_as 6 = .ok (.getfield 21, 3) := by decide +kernel
theorem dX9_as_9 : decode cX9_as 9 = .ok (.iload_n 1, 1) := by decide +kernel
theorem dX9_as_10 : decode cX9_as 10 = .ok (.invokevirtual 107, 3) := by decide +kernel
theorem dX9_as_13 : decode cX9_as 13 = .ok (.ifCond .ne 5, 3) := by decide +kernel
theorem dX9_as_16 : decode cX9_as 16 = .ok (.iconst (-1), 1) := by decide +kernel
theorem dX9_as_17 : decode cX9_as 17 = .ok (.ireturn, 1) := by decide +kernel
theorem dX9_as_18 : decode cX9_as 18 = .ok (.iload_n 2, 1) := by decide +kernel
theorem dX9_as_19 : decode cX9_as 19 = .ok (.iconst 0, 1) := by decide +kernel
theorem dX9_as_20 : decode cX9_as 20 = .ok (.iconst 2, 1) := by decide +kernel
theorem dX9_as_21 : decode cX9_as 21 = .ok (.invokestatic 131, 3) := by decide +kernel
theorem dX9_as_24 : decode cX9_as 24 = .ok (.ifCond .ne 6, 3) := by decide +kernel
theorem dX9_as_27 : decode cX9_as 27 = .ok (.bipush (-2), 2) := by decide +kernel
theorem dX9_as_29 : decode cX9_as 29 = .ok (.ireturn, 1) := by decide +kernel
theorem dX9_as_30 : decode cX9_as 30 = .ok (.aload_n 0, 1) := by decide +kernel
theorem dX9_as_31 : decode cX9_as 31 = .ok (.getfield 21, 3) := by decide +kernel
theorem dX9_as_34 : decode cX9_as 34 = .ok (.iload_n 1, 1) := by decide +kernel
theorem dX9_as_35 : decode cX9_as 35 = .ok (.invokevirtual 111, 3) := by decide +kernel
theorem dX9_as_38 : decode cX9_as 38 = .ok (.iload_n 2, 1) := by decide +kernel
theorem dX9_as_39 : decode cX9_as 39 = .ok (.if_icmp .lt 7, 3) := by decide +kernel
theorem dX9_as_42 : decode cX9_as 42 = .ok (.iconst 1, 1) := by decide +kernel
theorem dX9_as_43 : decode cX9_as 43 = .ok (.goto 8, 3) := by decide +kernel
theorem dX9_as_46 : decode cX9_as 46 = .ok (.aload_n 0, 1) := by decide +kernel
theorem dX9_as_47 : decode cX9_as 47 = .ok (.iconst 2, 1) := by decide +kernel
theorem dX9_as_48 : decode cX9_as 48 = .ok (.invokevirtual 280, 3) := by decide +kernel
theorem dX9_as_51 : decode cX9_as 51 = .ok (.ireturn, 1) := by decide +kernel
theorem dX9_trace_0 : decode cX9_trace 0 = .ok (.aload_n 0, 1) := by decide +kernel
theorem dX9_trace_1 : decode cX9_trace 1 = .ok (.getfield 83, 3) := by decide +kernel
theorem dX9_trace_4 : decode cX9_trace 4 = .ok (.ireturn, 1) := by decide +kernel
theorem dX9_fault_0 : decode cX9_fault 0 = .ok (.aload_n 0, 1) := by decide +kernel
theorem dX9_fault_1 : decode cX9_fault 1 = .ok (.getfield 87, 3) := by decide +kernel
theorem dX9_fault_4 : decode cX9_fault 4 = .ok (.ireturn, 1) := by decide +kernel
theorem dX9_many_0 : decode cX9_many 0 = .ok (.iload_n 1, 1) := by decide +kernel
theorem dX9_many_1 : decode cX9_many 1 = .ok (.tableswitch 72 0 4 #[35, 43, 51, 59, 67], 35) := by decide +kernel
theorem dX9_many_36 : decode cX9_many 36 = .ok (.aload_n 0, 1) := by decide +kernel
theorem dX9_many_37 : decode cX9_many 37 = .ok (.getfield 21, 3) := by decide +kernel
theorem dX9_many_40 : decode cX9_many 40 = .ok (.getfield 106, 3) := by decide +kernel
theorem dX9_many_43 : decode cX9_many 43 = .ok (.ireturn, 1) := by decide +kernel
theorem dX9_many_44 : decode cX9_many 44 = .ok (.aload_n 0, 1) := by decide +kernel
theorem dX9_many_45 : decode cX9_many 45 = .ok (.getfield 34, 3) := by decide +kernel
theorem dX9_many_48 : decode cX9_many 48 = .ok (.getfield 155, 3) := by decide +kernel
theorem dX9_many_51 : decode cX9_many 51 = .ok (.ireturn, 1) := by decide +kernel
theorem dX9_many_52 : decode cX9_many 52 = .ok (.aload_n 0, 1) := by decide +kernel
theorem dX9_many_53 : decode cX9_many 53 = .ok (.getfield 58, 3) := by decide +kernel
theorem dX9_many_56 : decode cX9_many 56 = .ok (.getfield 102, 3) := by decide +kernel
theorem dX9_many_59 : decode cX9_many 59 = .ok (.ireturn, 1) := by decide +kernel
theorem dX9_many_60 : decode cX9_many 60 = .ok (.aload_n 0, 1) := by decide +kernel
theorem dX9_many_61 : decode cX9_many 61 = .ok (.getfield 65, 3) := by decide +kernel
theorem dX9_many_64 : decode cX9_many 64 = .ok (.getfield 105, 3) := by decide +kernel
theorem dX9_many_67 : decode cX9_many 67 = .ok (.ireturn, 1) := by decide +kernel
theorem dX9_many_68 : decode cX9_many 68 = .ok (.aload_n 0, 1) := by decide +kernel
theorem dX9_many_69 : decode cX9_many 69 = .ok (.invokevirtual 326, 3) := by decide +kernel
theorem dX9_many_72 : decode cX9_many 72 = .ok (.ireturn, 1) := by decide +kernel
theorem dX9_many_73 : decode cX9_many 73 = .ok (.bipush (-2), 2) := by decide +kernel
theorem dX9_many_75 : decode cX9_many 75 = .ok (.ireturn, 1) := by decide +kernel
theorem dX9_isWithin_0 : decode cX9_isWithin 0 = .ok (.iload_n 0, 1) := by decide +kernel
theorem dX9_isWithin_1 : decode cX9_isWithin 1 = .ok (.iload_n 1, 1) := by decide +kernel
theorem dX9_isWithin_2 : decode cX9_isWithin 2 = .ok (.if_icmp .lt 12, 3) := by decide +kernel
theorem dX9_isWithin_5 : decode cX9_isWithin 5 = .ok (.iload_n 0, 1) := by decide +kernel
theorem dX9_isWithin_6 : decode cX9_isWithin 6 = .ok (.iload_n 2, 1) := by decide +kernel
theorem dX9_isWithin_7 : decode cX9_isWithin 7 = .ok (.if_icmp .gt 7, 3) := by decide +kernel
theorem dX9_isWithin_10 : decode cX9_isWithin 10 = .ok (.iconst 1, 1) := by decide +kernel
theorem dX9_isWithin_11 : decode cX9_isWithin 11 = .ok (.goto 4, 3) := by decide +kernel
theorem dX9_isWithin_14 : decode cX9_isWithin 14 = .ok (.iconst 0, 1) := by decide +kernel
theorem dX9_isWithin_15 : decode cX9_isWithin 15 = .ok (.ireturn, 1) := by decide +kernel
theorem dX9_answerOfFault_0 : decode cX9_answerOfFault 0 = .ok (.aload_n 0, 1) := by decide +kernel
theorem dX9_answerOfFault_1 : decode cX9_answerOfFault 1 = .ok (.iload_n 1, 1) := by decide +kernel
theorem dX9_answerOfFault_2 : decode cX9_answerOfFault 2 = .ok (.putfield 87, 3) := by decide +kernel
theorem dX9_answerOfFault_5 : decode cX9_answerOfFault 5 = .ok (.bipush (-10), 2) := by decide +kernel
theorem dX9_answerOfFault_7 : decode cX9_answerOfFault 7 = .ok (.iload_n 1, 1) := by decide +kernel
theorem dX9_answerOfFault_8 : decode cX9_answerOfFault 8 = .ok (.isub, 1) := by decide +kernel
theorem dX9_answerOfFault_9 : decode cX9_answerOfFault 9 = .ok (.ireturn, 1) := by decide +kernel
theorem dX9_refusalOfCells_0 : decode cX9_refusalOfCells 0 = .ok (.aload_n 0, 1) := by decide +kernel
theorem dX9_refusalOfCells_1 : decode cX9_refusalOfCells 1 = .ok (.iconst 0, 1) := by decide +kernel
theorem dX9_refusalOfCells_2 : decode cX9_refusalOfCells 2 = .ok (.putfield 87, 3) := by decide +kernel
theorem dX9_refusalOfCells_5 : decode cX9_refusalOfCells 5 = .ok (.iload_n 1, 1) := by decide +kernel
theorem dX9_refusalOfCells_6 : decode cX9_refusalOfCells 6 = .ok (.invokestatic 274, 3) := by decide +kernel
theorem dX9_refusalOfCells_9 : decode cX9_refusalOfCells 9 = .ok (.ifCond .ne 5, 3) := by decide +kernel
theorem dX9_refusalOfCells_12 : decode cX9_refusalOfCells 12 = .ok (.iconst (-1), 1) := by decide +kernel
theorem dX9_refusalOfCells_13 : decode cX9_refusalOfCells 13 = .ok (.ireturn, 1) := by decide +kernel
theorem dX9_refusalOfCells_14 : decode cX9_refusalOfCells 14 = .ok (.iload_n 2, 1) := by decide +kernel
theorem dX9_refusalOfCells_15 : decode cX9_refusalOfCells 15 = .ok (.invokestatic 277, 3) := by decide +kernel
theorem dX9_refusalOfCells_18 : decode cX9_refusalOfCells 18 = .ok (.ifCond .ne 6, 3) := by decide +kernel
theorem dX9_refusalOfCells_21 : decode cX9_refusalOfCells 21 = .ok (.bipush (-2), 2) := by decide +kernel
theorem dX9_refusalOfCells_23 : decode cX9_refusalOfCells 23 = .ok (.ireturn, 1) := by decide +kernel
theorem dX9_refusalOfCells_24 : decode cX9_refusalOfCells 24 = .ok (.aload_n 0, 1) := by decide +kernel
theorem dX9_refusalOfCells_25 : decode cX9_refusalOfCells 25 = .ok (.getfield 12, 3) := by decide +kernel
theorem dX9_refusalOfCells_28 : decode cX9_refusalOfCells 28 = .ok (.iload_n 1, 1) := by decide +kernel
theorem dX9_refusalOfCells_29 : decode cX9_refusalOfCells 29 = .ok (.iload_n 2, 1) := by decide +kernel
theorem dX9_refusalOfCells_30 : decode cX9_refusalOfCells 30 = .ok (.invokevirtual 298, 3) := by decide +kernel
theorem dX9_refusalOfCells_33 : decode cX9_refusalOfCells 33 = .ok (.istore 5, 2) := by decide +kernel
theorem dX9_refusalOfCells_35 : decode cX9_refusalOfCells 35 = .ok (.iload 5, 2) := by decide +kernel
theorem dX9_refusalOfCells_37 : decode cX9_refusalOfCells 37 = .ok (.ifCond .eq 10, 3) := by decide +kernel
theorem dX9_refusalOfCells_40 : decode cX9_refusalOfCells 40 = .ok (.aload_n 0, 1) := by decide +kernel
theorem dX9_refusalOfCells_41 : decode cX9_refusalOfCells 41 = .ok (.iload 5, 2) := by decide +kernel
theorem dX9_refusalOfCells_43 : decode cX9_refusalOfCells 43 = .ok (.invokevirtual 280, 3) := by decide +kernel
theorem dX9_refusalOfCells_46 : decode cX9_refusalOfCells 46 = .ok (.ireturn, 1) := by decide +kernel
theorem dX9_refusalOfCells_47 : decode cX9_refusalOfCells 47 = .ok (.iload 4, 2) := by decide +kernel
theorem dX9_refusalOfCells_49 : decode cX9_refusalOfCells 49 = .ok (.ifCond .ge 9, 3) := by decide +kernel
theorem dX9_refusalOfCells_52 : decode cX9_refusalOfCells 52 = .ok (.aload_n 0, 1) := by decide +kernel
theorem dX9_refusalOfCells_53 : decode cX9_refusalOfCells 53 = .ok (.iconst 4, 1) := by decide +kernel
theorem dX9_refusalOfCells_54 : decode cX9_refusalOfCells 54 = .ok (.invokevirtual 280, 3) := by decide +kernel
theorem dX9_refusalOfCells_57 : decode cX9_refusalOfCells 57 = .ok (.ireturn, 1) := by decide +kernel
theorem dX9_refusalOfCells_58 : decode cX9_refusalOfCells 58 = .ok (.aload_n 0, 1) := by decide +kernel
theorem dX9_refusalOfCells_59 : decode cX9_refusalOfCells 59 = .ok (.getfield 12, 3) := by decide +kernel
theorem dX9_refusalOfCells_62 : decode cX9_refusalOfCells 62 = .ok (.iload_n 1, 1) := by decide +kernel
theorem dX9_refusalOfCells_63 : decode cX9_refusalOfCells 63 = .ok (.iload_n 3, 1) := by decide +kernel
theorem dX9_refusalOfCells_64 : decode cX9_refusalOfCells 64 = .ok (.iload 4, 2) := by decide +kernel
theorem dX9_refusalOfCells_66 : decode cX9_refusalOfCells 66 = .ok (.invokevirtual 307, 3) := by decide +kernel
theorem dX9_refusalOfCells_69 : decode cX9_refusalOfCells 69 = .ok (.ifCond .eq 7, 3) := by decide +kernel
theorem dX9_refusalOfCells_72 : decode cX9_refusalOfCells 72 = .ok (.iconst 0, 1) := by decide +kernel
theorem dX9_refusalOfCells_73 : decode cX9_refusalOfCells 73 = .ok (.goto 8, 3) := by decide +kernel
theorem dX9_refusalOfCells_76 : decode cX9_refusalOfCells 76 = .ok (.aload_n 0, 1) := by decide +kernel
theorem dX9_refusalOfCells_77 : decode cX9_refusalOfCells 77 = .ok (.iconst 3, 1) := by decide +kernel
theorem dX9_refusalOfCells_78 : decode cX9_refusalOfCells 78 = .ok (.invokevirtual 280, 3) := by decide +kernel
theorem dX9_refusalOfCells_81 : decode cX9_refusalOfCells 81 = .ok (.ireturn, 1) := by decide +kernel
theorem dX9_lacksSawOrBoard_0 : decode cX9_lacksSawOrBoard 0 = .ok (.aload_n 0, 1) := by decide +kernel
theorem dX9_lacksSawOrBoard_1 : decode cX9_lacksSawOrBoard 1 = .ok (.getfield 21, 3) := by decide +kernel
theorem dX9_lacksSawOrBoard_4 : decode cX9_lacksSawOrBoard 4 = .ok (.getfield 106, 3) := by decide +kernel
theorem dX9_lacksSawOrBoard_7 : decode cX9_lacksSawOrBoard 7 = .ok (.ifCond .eq 13, 3) := by decide +kernel
theorem dX9_lacksSawOrBoard_10 : decode cX9_lacksSawOrBoard 10 = .ok (.aload_n 0, 1) := by decide +kernel
theorem dX9_lacksSawOrBoard_11 : decode cX9_lacksSawOrBoard 11 = .ok (.getfield 34, 3) := by decide +kernel
theorem dX9_lacksSawOrBoard_14 : decode cX9_lacksSawOrBoard 14 = .ok (.getfield 155, 3) := by decide +kernel
theorem dX9_lacksSawOrBoard_17 : decode cX9_lacksSawOrBoard 17 = .ok (.ifCond .ne 7, 3) := by decide +kernel
theorem dX9_lacksSawOrBoard_20 : decode cX9_lacksSawOrBoard 20 = .ok (.iconst 1, 1) := by decide +kernel
theorem dX9_lacksSawOrBoard_21 : decode cX9_lacksSawOrBoard 21 = .ok (.goto 4, 3) := by decide +kernel
theorem dX9_lacksSawOrBoard_24 : decode cX9_lacksSawOrBoard 24 = .ok (.iconst 0, 1) := by decide +kernel
theorem dX9_lacksSawOrBoard_25 : decode cX9_lacksSawOrBoard 25 = .ok (.ireturn, 1) := by decide +kernel
theorem dX9_cutAsItIs_0 : decode cX9_cutAsItIs 0 = .ok (.aload_n 0, 1) := by decide +kernel
theorem dX9_cutAsItIs_1 : decode cX9_cutAsItIs 1 = .ok (.getfield 51, 3) := by decide +kernel
theorem dX9_cutAsItIs_4 : decode cX9_cutAsItIs 4 = .ok (.aload_n 0, 1) := by decide +kernel
theorem dX9_cutAsItIs_5 : decode cX9_cutAsItIs 5 = .ok (.getfield 21, 3) := by decide +kernel
theorem dX9_cutAsItIs_8 : decode cX9_cutAsItIs 8 = .ok (.aload_n 0, 1) := by decide +kernel
theorem dX9_cutAsItIs_9 : decode cX9_cutAsItIs 9 = .ok (.getfield 34, 3) := by decide +kernel
theorem dX9_cutAsItIs_12 : decode cX9_cutAsItIs 12 = .ok (.aload_n 0, 1) := by decide +kernel
theorem dX9_cutAsItIs_13 : decode cX9_cutAsItIs 13 = .ok (.getfield 41, 3) := by decide +kernel
theorem dX9_cutAsItIs_16 : decode cX9_cutAsItIs 16 = .ok (.invokevirtual 329, 3) := by decide +kernel
theorem dX9_cutAsItIs_19 : decode cX9_cutAsItIs 19 = .ok (.return_, 1) := by decide +kernel
theorem dX9_countStrokes_0 : decode cX9_countStrokes 0 = .ok (.aload_n 0, 1) := by decide +kernel
theorem dX9_countStrokes_1 : decode cX9_countStrokes 1 = .ok (.invokevirtual 189, 3) := by decide +kernel
theorem dX9_countStrokes_4 : decode cX9_countStrokes 4 = .ok (.ifCond .eq 5, 3) := by decide +kernel
theorem dX9_countStrokes_7 : decode cX9_countStrokes 7 = .ok (.iconst 0, 1) := by decide +kernel
theorem dX9_countStrokes_8 : decode cX9_countStrokes 8 = .ok (.ireturn, 1) := by decide +kernel
theorem dX9_countStrokes_9 : decode cX9_countStrokes 9 = .ok (.aload_n 0, 1) := by decide +kernel
theorem dX9_countStrokes_10 : decode cX9_countStrokes 10 = .ok (.invokevirtual 193, 3) := by decide +kernel
theorem dX9_countStrokes_13 : decode cX9_countStrokes 13 = .ok (.aload_n 0, 1) := by decide +kernel
theorem dX9_countStrokes_14 : decode cX9_countStrokes 14 = .ok (.getfield 51, 3) := by decide +kernel
theorem dX9_countStrokes_17 : decode cX9_countStrokes 17 = .ok (.getfield 333, 3) := by decide +kernel
theorem dX9_countStrokes_20 : decode cX9_countStrokes 20 = .ok (.ireturn, 1) := by decide +kernel
theorem dX9_refusalOfStroke_0 : decode cX9_refusalOfStroke 0 = .ok (.aload_n 0, 1) := by decide +kernel
theorem dX9_refusalOfStroke_1 : decode cX9_refusalOfStroke 1 = .ok (.getfield 34, 3) := by decide +kernel
theorem dX9_refusalOfStroke_4 : decode cX9_refusalOfStroke 4 = .ok (.iload_n 1, 1) := by decide +kernel
theorem dX9_refusalOfStroke_5 : decode cX9_refusalOfStroke 5 = .ok (.invokevirtual 156, 3) := by decide +kernel
theorem dX9_refusalOfStroke_8 : decode cX9_refusalOfStroke 8 = .ok (.ifCond .ne 5, 3) := by decide +kernel
theorem dX9_refusalOfStroke_11 : decode cX9_refusalOfStroke 11 = .ok (.iconst (-1), 1) := by decide +kernel
theorem dX9_refusalOfStroke_12 : decode cX9_refusalOfStroke 12 = .ok (.ireturn, 1) := by decide +kernel
theorem dX9_refusalOfStroke_13 : decode cX9_refusalOfStroke 13 = .ok (.iload_n 1, 1) := by decide +kernel
theorem dX9_refusalOfStroke_14 : decode cX9_refusalOfStroke 14 = .ok (.aload_n 0, 1) := by decide +kernel
theorem dX9_refusalOfStroke_15 : decode cX9_refusalOfStroke 15 = .ok (.invokevirtual 326, 3) := by decide +kernel
theorem dX9_refusalOfStroke_18 : decode cX9_refusalOfStroke 18 = .ok (.if_icmp .ge 7, 3) := by decide +kernel
theorem dX9_refusalOfStroke_21 : decode cX9_refusalOfStroke 21 = .ok (.iconst 0, 1) := by decide +kernel
theorem dX9_refusalOfStroke_22 : decode cX9_refusalOfStroke 22 = .ok (.goto 5, 3) := by decide +kernel
theorem dX9_refusalOfStroke_25 : decode cX9_refusalOfStroke 25 = .ok (.bipush (-3), 2) := by decide +kernel
theorem dX9_refusalOfStroke_27 : decode cX9_refusalOfStroke 27 = .ok (.ireturn, 1) := by decide +kernel
theorem dX9_offByLean_0 : decode cX9_offByLean 0 = .ok (.aload_n 0, 1) := by decide +kernel
theorem dX9_offByLean_1 : decode cX9_offByLean 1 = .ok (.getfield 45, 3) := by decide +kernel
theorem dX9_offByLean_4 : decode cX9_offByLean 4 = .ok (.aload_n 0, 1) := by decide +kernel
theorem dX9_offByLean_5 : decode cX9_offByLean 5 = .ok (.getfield 41, 3) := by decide +kernel
theorem dX9_offByLean_8 : decode cX9_offByLean 8 = .ok (.invokevirtual 336, 3) := by decide +kernel
theorem dX9_offByLean_11 : decode cX9_offByLean 11 = .ok (.aload_n 0, 1) := by decide +kernel
theorem dX9_offByLean_12 : decode cX9_offByLean 12 = .ok (.getfield 45, 3) := by decide +kernel
theorem dX9_offByLean_15 : decode cX9_offByLean 15 = .ok (.iload_n 1, 1) := by decide +kernel
theorem dX9_offByLean_16 : decode cX9_offByLean 16 = .ok (.putfield 166, 3) := by decide +kernel
theorem dX9_offByLean_19 : decode cX9_offByLean 19 = .ok (.aload_n 0, 1) := by decide +kernel
theorem dX9_offByLean_20 : decode cX9_offByLean 20 = .ok (.getfield 51, 3) := by decide +kernel
theorem dX9_offByLean_23 : decode cX9_offByLean 23 = .ok (.aload_n 0, 1) := by decide +kernel
theorem dX9_offByLean_24 : decode cX9_offByLean 24 = .ok (.getfield 21, 3) := by decide +kernel
theorem dX9_offByLean_27 : decode cX9_offByLean 27 = .ok (.aload_n 0, 1) := by decide +kernel
theorem dX9_offByLean_28 : decode cX9_offByLean 28 = .ok (.getfield 34, 3) := by decide +kernel
theorem dX9_offByLean_31 : decode cX9_offByLean 31 = .ok (.aload_n 0, 1) := by decide +kernel
theorem dX9_offByLean_32 : decode cX9_offByLean 32 = .ok (.getfield 45, 3) := by decide +kernel
theorem dX9_offByLean_35 : decode cX9_offByLean 35 = .ok (.invokevirtual 329, 3) := by decide +kernel
theorem dX9_offByLean_38 : decode cX9_offByLean 38 = .ok (.aload_n 0, 1) := by decide +kernel
theorem dX9_offByLean_39 : decode cX9_offByLean 39 = .ok (.getfield 51, 3) := by decide +kernel
theorem dX9_offByLean_42 : decode cX9_offByLean 42 = .ok (.getfield 196, 3) := by decide +kernel
theorem dX9_offByLean_45 : decode cX9_offByLean 45 = .ok (.ireturn, 1) := by decide +kernel
theorem dX9_offBySteers_0 : decode cX9_offBySteers 0 = .ok (.aload_n 0, 1) := by decide +kernel
theorem dX9_offBySteers_1 : decode cX9_offBySteers 1 = .ok (.getfield 45, 3) := by decide +kernel
theorem dX9_offBySteers_4 : decode cX9_offBySteers 4 = .ok (.aload_n 0, 1) := by decide +kernel
theorem dX9_offBySteers_5 : decode cX9_offBySteers 5 = .ok (.getfield 41, 3) := by decide +kernel
theorem dX9_offBySteers_8 : decode cX9_offBySteers 8 = .ok (.invokevirtual 336, 3) := by decide +kernel
theorem dX9_offBySteers_11 : decode cX9_offBySteers 11 = .ok (.aload_n 0, 1) := by decide +kernel
theorem dX9_offBySteers_12 : decode cX9_offBySteers 12 = .ok (.getfield 45, 3) := by decide +kernel
theorem dX9_offBySteers_15 : decode cX9_offBySteers 15 = .ok (.iload_n 1, 1) := by decide +kernel
theorem dX9_offBySteers_16 : decode cX9_offBySteers 16 = .ok (.putfield 169, 3) := by decide +kernel
theorem dX9_offBySteers_19 : decode cX9_offBySteers 19 = .ok (.aload_n 0, 1) := by decide +kernel
theorem dX9_offBySteers_20 : decode cX9_offBySteers 20 = .ok (.getfield 51, 3) := by decide +kernel
theorem dX9_offBySteers_23 : decode cX9_offBySteers 23 = .ok (.aload_n 0, 1) := by decide +kernel
theorem dX9_offBySteers_24 : decode cX9_offBySteers 24 = .ok (.getfield 21, 3) := by decide +kernel
theorem dX9_offBySteers_27 : decode cX9_offBySteers 27 = .ok (.aload_n 0, 1) := by decide +kernel
theorem dX9_offBySteers_28 : decode cX9_offBySteers 28 = .ok (.getfield 34, 3) := by decide +kernel
theorem dX9_offBySteers_31 : decode cX9_offBySteers 31 = .ok (.aload_n 0, 1) := by decide +kernel
theorem dX9_offBySteers_32 : decode cX9_offBySteers 32 = .ok (.getfield 45, 3) := by decide +kernel
theorem dX9_offBySteers_35 : decode cX9_offBySteers 35 = .ok (.invokevirtual 329, 3) := by decide +kernel
theorem dX9_offBySteers_38 : decode cX9_offBySteers 38 = .ok (.aload_n 0, 1) := by decide +kernel
theorem dX9_offBySteers_39 : decode cX9_offBySteers 39 = .ok (.getfield 51, 3) := by decide +kernel
theorem dX9_offBySteers_42 : decode cX9_offBySteers 42 = .ok (.getfield 196, 3) := by decide +kernel
theorem dX9_offBySteers_45 : decode cX9_offBySteers 45 = .ok (.ireturn, 1) := by decide +kernel
theorem dX9_straightestLean_0 : decode cX9_straightestLean 0 = .ok (.iconst 0, 1) := by decide +kernel
theorem dX9_straightestLean_1 : decode cX9_straightestLean 1 = .ok (.istore_n 1, 1) := by decide +kernel
theorem dX9_straightestLean_2 : decode cX9_straightestLean 2 = .ok (.aload_n 0, 1) := by decide +kernel
theorem dX9_straightestLean_3 : decode cX9_straightestLean 3 = .ok (.iconst 0, 1) := by decide +kernel
theorem dX9_straightestLean_4 : decode cX9_straightestLean 4 = .ok (.invokevirtual 214, 3) := by decide +kernel
theorem dX9_straightestLean_7 : decode cX9_straightestLean 7 = .ok (.istore_n 2, 1) := by decide +kernel
theorem dX9_straightestLean_8 : decode cX9_straightestLean 8 = .ok (.iconst 1, 1) := by decide +kernel
theorem dX9_straightestLean_9 : decode cX9_straightestLean 9 = .ok (.istore_n 3, 1) := by decide +kernel
theorem dX9_straightestLean_10 : decode cX9_straightestLean 10 = .ok (.iload_n 3, 1) := by decide +kernel
theorem dX9_straightestLean_11 : decode cX9_straightestLean 11 = .ok (.bipush 9, 2) := by decide +kernel
theorem dX9_straightestLean_13 : decode cX9_straightestLean 13 = .ok (.if_icmp .gt 48, 3) := by decide +kernel
theorem dX9_straightestLean_16 : decode cX9_straightestLean 16 = .ok (.iconst (-1), 1) := by decide +kernel
theorem dX9_straightestLean_17 : decode cX9_straightestLean 17 = .ok (.istore 4, 2) := by decide +kernel
theorem dX9_straightestLean_19 : decode cX9_straightestLean 19 = .ok (.iload 4, 2) := by decide +kernel
theorem dX9_straightestLean_21 : decode cX9_straightestLean 21 = .ok (.iconst 1, 1) := by decide +kernel
theorem dX9_straightestLean_22 : decode cX9_straightestLean 22 = .ok (.if_icmp .gt 33, 3) := by decide +kernel
theorem dX9_straightestLean_25 : decode cX9_straightestLean 25 = .ok (.aload_n 0, 1) := by decide +kernel
theorem dX9_straightestLean_26 : decode cX9_straightestLean 26 = .ok (.iload 4, 2) := by decide +kernel
theorem dX9_straightestLean_28 : decode cX9_straightestLean 28 = .ok (.iload_n 3, 1) := by decide +kernel
theorem dX9_straightestLean_29 : decode cX9_straightestLean 29 = .ok (.imul, 1) := by decide +kernel
theorem dX9_straightestLean_30 : decode cX9_straightestLean 30 = .ok (.invokevirtual 214, 3) := by decide +kernel
theorem dX9_straightestLean_33 : decode cX9_straightestLean 33 = .ok (.istore 5, 2) := by decide +kernel
theorem dX9_straightestLean_35 : decode cX9_straightestLean 35 = .ok (.iload 5, 2) := by decide +kernel
theorem dX9_straightestLean_37 : decode cX9_straightestLean 37 = .ok (.iload_n 2, 1) := by decide +kernel
theorem dX9_straightestLean_38 : decode cX9_straightestLean 38 = .ok (.if_icmp .ge 11, 3) := by decide +kernel
theorem dX9_straightestLean_41 : decode cX9_straightestLean 41 = .ok (.iload 5, 2) := by decide +kernel
theorem dX9_straightestLean_43 : decode cX9_straightestLean 43 = .ok (.istore_n 2, 1) := by decide +kernel
theorem dX9_straightestLean_44 : decode cX9_straightestLean 44 = .ok (.iload 4, 2) := by decide +kernel
theorem dX9_straightestLean_46 : decode cX9_straightestLean 46 = .ok (.iload_n 3, 1) := by decide +kernel
theorem dX9_straightestLean_47 : decode cX9_straightestLean 47 = .ok (.imul, 1) := by decide +kernel
theorem dX9_straightestLean_48 : decode cX9_straightestLean 48 = .ok (.istore_n 1, 1) := by decide +kernel
theorem dX9_straightestLean_49 : decode cX9_straightestLean 49 = .ok (.iinc 4 2, 3) := by decide +kernel
theorem dX9_straightestLean_52 : decode cX9_straightestLean 52 = .ok (.goto (-33), 3) := by decide +kernel
theorem dX9_straightestLean_55 : decode cX9_straightestLean 55 = .ok (.iinc 3 1, 3) := by decide +kernel
theorem dX9_straightestLean_58 : decode cX9_straightestLean 58 = .ok (.goto (-48), 3) := by decide +kernel
theorem dX9_straightestLean_61 : decode cX9_straightestLean 61 = .ok (.iload_n 1, 1) := by decide +kernel
theorem dX9_straightestLean_62 : decode cX9_straightestLean 62 = .ok (.ireturn, 1) := by decide +kernel
theorem dX9_straightestSteers_0 : decode cX9_straightestSteers 0 = .ok (.iconst 0, 1) := by decide +kernel
theorem dX9_straightestSteers_1 : decode cX9_straightestSteers 1 = .ok (.istore_n 1, 1) := by decide +kernel
theorem dX9_straightestSteers_2 : decode cX9_straightestSteers 2 = .ok (.aload_n 0, 1) := by decide +kernel
theorem dX9_straightestSteers_3 : decode cX9_straightestSteers 3 = .ok (.iconst 0, 1) := by decide +kernel
theorem dX9_straightestSteers_4 : decode cX9_straightestSteers 4 = .ok (.invokevirtual 217, 3) := by decide +kernel
theorem dX9_straightestSteers_7 : decode cX9_straightestSteers 7 = .ok (.istore_n 2, 1) := by decide +kernel
theorem dX9_straightestSteers_8 : decode cX9_straightestSteers 8 = .ok (.iconst 1, 1) := by decide +kernel
theorem dX9_straightestSteers_9 : decode cX9_straightestSteers 9 = .ok (.istore_n 3, 1) := by decide +kernel
theorem dX9_straightestSteers_10 : decode cX9_straightestSteers 10 = .ok (.iload_n 3, 1) := by decide +kernel
theorem dX9_straightestSteers_11 : decode cX9_straightestSteers 11 = .ok (.bipush 9, 2) := by decide +kernel
theorem dX9_straightestSteers_13 : decode cX9_straightestSteers 13 = .ok (.if_icmp .gt 27, 3) := by decide +kernel
theorem dX9_straightestSteers_16 : decode cX9_straightestSteers 16 = .ok (.aload_n 0, 1) := by decide +kernel
theorem dX9_straightestSteers_17 : decode cX9_straightestSteers 17 = .ok (.iload_n 3, 1) := by decide +kernel
theorem dX9_straightestSteers_18 : decode cX9_straightestSteers 18 = .ok (.invokevirtual 217, 3) := by decide +kernel
theorem dX9_straightestSteers_21 : decode cX9_straightestSteers 21 = .ok (.istore 4, 2) := by decide +kernel
theorem dX9_straightestSteers_23 : decode cX9_straightestSteers 23 = .ok (.iload 4, 2) := by decide +kernel
theorem dX9_straightestSteers_25 : decode cX9_straightestSteers 25 = .ok (.iload_n 2, 1) := by decide +kernel
theorem dX9_straightestSteers_26 : decode cX9_straightestSteers 26 = .ok (.if_icmp .ge 8, 3) := by decide +kernel
theorem dX9_straightestSteers_29 : decode cX9_straightestSteers 29 = .ok (.iload 4, 2) := by decide +kernel
theorem dX9_straightestSteers_31 : decode cX9_straightestSteers 31 = .ok (.istore_n 2, 1) := by decide +kernel
theorem dX9_straightestSteers_32 : decode cX9_straightestSteers 32 = .ok (.iload_n 3, 1) := by decide +kernel
theorem dX9_straightestSteers_33 : decode cX9_straightestSteers 33 = .ok (.istore_n 1, 1) := by decide +kernel
theorem dX9_straightestSteers_34 : decode cX9_straightestSteers 34 = .ok (.iinc 3 1, 3) := by decide +kernel
theorem dX9_straightestSteers_37 : decode cX9_straightestSteers 37 = .ok (.goto (-27), 3) := by decide +kernel
theorem dX9_straightestSteers_40 : decode cX9_straightestSteers 40 = .ok (.iload_n 1, 1) := by decide +kernel
theorem dX9_straightestSteers_41 : decode cX9_straightestSteers 41 = .ok (.ireturn, 1) := by decide +kernel
theorem dX9_fits_0 : decode cX9_fits 0 = .ok (.aload_n 0, 1) := by decide +kernel
theorem dX9_fits_1 : decode cX9_fits 1 = .ok (.getfield 25, 3) := by decide +kernel
theorem dX9_fits_4 : decode cX9_fits 4 = .ok (.aload_n 0, 1) := by decide +kernel
theorem dX9_fits_5 : decode cX9_fits 5 = .ok (.getfield 21, 3) := by decide +kernel
theorem dX9_fits_8 : decode cX9_fits 8 = .ok (.invokevirtual 98, 3) := by decide +kernel
theorem dX9_fits_11 : decode cX9_fits 11 = .ok (.aload_n 0, 1) := by decide +kernel
theorem dX9_fits_12 : decode cX9_fits 12 = .ok (.getfield 58, 3) := by decide +kernel
theorem dX9_fits_15 : decode cX9_fits 15 = .ok (.aload_n 0, 1) := by decide +kernel
theorem dX9_fits_16 : decode cX9_fits 16 = .ok (.getfield 25, 3) := by decide +kernel
theorem dX9_fits_19 : decode cX9_fits 19 = .ok (.iload_n 1, 1) := by decide +kernel
theorem dX9_fits_20 : decode cX9_fits 20 = .ok (.invokevirtual 339, 3) := by decide +kernel
theorem dX9_fits_23 : decode cX9_fits 23 = .ok (.aload_n 0, 1) := by decide +kernel
theorem dX9_fits_24 : decode cX9_fits 24 = .ok (.getfield 51, 3) := by decide +kernel
theorem dX9_fits_27 : decode cX9_fits 27 = .ok (.aload_n 0, 1) := by decide +kernel
theorem dX9_fits_28 : decode cX9_fits 28 = .ok (.getfield 25, 3) := by decide +kernel
theorem dX9_fits_31 : decode cX9_fits 31 = .ok (.aload_n 0, 1) := by decide +kernel
theorem dX9_fits_32 : decode cX9_fits 32 = .ok (.getfield 34, 3) := by decide +kernel
theorem dX9_fits_35 : decode cX9_fits 35 = .ok (.aload_n 0, 1) := by decide +kernel
theorem dX9_fits_36 : decode cX9_fits 36 = .ok (.getfield 41, 3) := by decide +kernel
theorem dX9_fits_39 : decode cX9_fits 39 = .ok (.invokevirtual 329, 3) := by decide +kernel
theorem dX9_fits_42 : decode cX9_fits 42 = .ok (.aload_n 0, 1) := by decide +kernel
theorem dX9_fits_43 : decode cX9_fits 43 = .ok (.getfield 65, 3) := by decide +kernel
theorem dX9_fits_46 : decode cX9_fits 46 = .ok (.aload_n 0, 1) := by decide +kernel
theorem dX9_fits_47 : decode cX9_fits 47 = .ok (.getfield 51, 3) := by decide +kernel
theorem dX9_fits_50 : decode cX9_fits 50 = .ok (.invokevirtual 343, 3) := by decide +kernel
theorem dX9_fits_53 : decode cX9_fits 53 = .ok (.ireturn, 1) := by decide +kernel
theorem dX9_countFitting_0 : decode cX9_countFitting 0 = .ok (.iconst 1, 1) := by decide +kernel
theorem dX9_countFitting_1 : decode cX9_countFitting 1 = .ok (.aload_n 0, 1) := by decide +kernel
theorem dX9_countFitting_2 : decode cX9_countFitting 2 = .ok (.getfield 58, 3) := by decide +kernel
theorem dX9_countFitting_5 : decode cX9_countFitting 5 = .ok (.getfield 102, 3) := by decide +kernel
theorem dX9_countFitting_8 : decode cX9_countFitting 8 = .ok (.ishl, 1) := by decide +kernel
theorem dX9_countFitting_9 : decode cX9_countFitting 9 = .ok (.istore_n 2, 1) := by decide +kernel
theorem dX9_countFitting_10 : decode cX9_countFitting 10 = .ok (.iconst 0, 1) := by decide +kernel
theorem dX9_countFitting_11 : decode cX9_countFitting 11 = .ok (.istore_n 3, 1) := by decide +kernel
theorem dX9_countFitting_12 : decode cX9_countFitting 12 = .ok (.iconst 0, 1) := by decide +kernel
theorem dX9_countFitting_13 : decode cX9_countFitting 13 = .ok (.istore 4, 2) := by decide +kernel
theorem dX9_countFitting_15 : decode cX9_countFitting 15 = .ok (.iload 4, 2) := by decide +kernel
theorem dX9_countFitting_17 : decode cX9_countFitting 17 = .ok (.iload_n 2, 1) := by decide +kernel
theorem dX9_countFitting_18 : decode cX9_countFitting 18 = .ok (.if_icmp .ge 50, 3) := by decide +kernel
theorem dX9_countFitting_21 : decode cX9_countFitting 21 = .ok (.iload 4, 2) := by decide +kernel
theorem dX9_countFitting_23 : decode cX9_countFitting 23 = .ok (.invokestatic 347, 3) := by decide +kernel
theorem dX9_countFitting_26 : decode cX9_countFitting 26 = .ok (.iconst 2, 1) := by decide +kernel
theorem dX9_countFitting_27 : decode cX9_countFitting 27 = .ok (.if_icmp .gt 15, 3) := by decide +kernel
theorem dX9_countFitting_30 : decode cX9_countFitting 30 = .ok (.iload 4, 2) := by decide +kernel
theorem dX9_countFitting_32 : decode cX9_countFitting 32 = .ok (.iload_n 1, 1) := by decide +kernel
theorem dX9_countFitting_33 : decode cX9_countFitting 33 = .ok (.iand, 1) := by decide +kernel
theorem dX9_countFitting_34 : decode cX9_countFitting 34 = .ok (.iload_n 1, 1) := by decide +kernel
theorem dX9_countFitting_35 : decode cX9_countFitting 35 = .ok (.if_icmp .ne 7, 3) := by decide +kernel
theorem dX9_countFitting_38 : decode cX9_countFitting 38 = .ok (.iconst 1, 1) := by decide +kernel
theorem dX9_countFitting_39 : decode cX9_countFitting 39 = .ok (.goto 4, 3) := by decide +kernel
theorem dX9_countFitting_42 : decode cX9_countFitting 42 = .ok (.iconst 0, 1) := by decide +kernel
theorem dX9_countFitting_43 : decode cX9_countFitting 43 = .ok (.istore 5, 2) := by decide +kernel
theorem dX9_countFitting_45 : decode cX9_countFitting 45 = .ok (.iload 5, 2) := by decide +kernel
theorem dX9_countFitting_47 : decode cX9_countFitting 47 = .ok (.ifCond .eq 15, 3) := by decide +kernel
theorem dX9_countFitting_50 : decode cX9_countFitting 50 = .ok (.aload_n 0, 1) := by decide +kernel
theorem dX9_countFitting_51 : decode cX9_countFitting 51 = .ok (.iload 4, 2) := by decide +kernel
theorem dX9_countFitting_53 : decode cX9_countFitting 53 = .ok (.invokevirtual 352, 3) := by decide +kernel
theorem dX9_countFitting_56 : decode cX9_countFitting 56 = .ok (.ifCond .eq 6, 3) := by decide +kernel
theorem dX9_countFitting_59 : decode cX9_countFitting 59 = .ok (.iinc 3 1, 3) := by decide +kernel
theorem dX9_countFitting_62 : decode cX9_countFitting 62 = .ok (.iinc 4 1, 3) := by decide +kernel
theorem dX9_countFitting_65 : decode cX9_countFitting 65 = .ok (.goto (-50), 3) := by decide +kernel
theorem dX9_countFitting_68 : decode cX9_countFitting 68 = .ok (.iload_n 3, 1) := by decide +kernel
theorem dX9_countFitting_69 : decode cX9_countFitting 69 = .ok (.ireturn, 1) := by decide +kernel
theorem dX9_firstOfFewest_0 : decode cX9_firstOfFewest 0 = .ok (.iconst 1, 1) := by decide +kernel
theorem dX9_firstOfFewest_1 : decode cX9_firstOfFewest 1 = .ok (.aload_n 0, 1) := by decide +kernel
theorem dX9_firstOfFewest_2 : decode cX9_firstOfFewest 2 = .ok (.getfield 58, 3) := by decide +kernel
theorem dX9_firstOfFewest_5 : decode cX9_firstOfFewest 5 = .ok (.getfield 102, 3) := by decide +kernel
theorem dX9_firstOfFewest_8 : decode cX9_firstOfFewest 8 = .ok (.ishl, 1) := by decide +kernel
theorem dX9_firstOfFewest_9 : decode cX9_firstOfFewest 9 = .ok (.istore_n 1, 1) := by decide +kernel
theorem dX9_firstOfFewest_10 : decode cX9_firstOfFewest 10 = .ok (.iconst 0, 1) := by decide +kernel
theorem dX9_firstOfFewest_11 : decode cX9_firstOfFewest 11 = .ok (.istore_n 2, 1) := by decide +kernel
theorem dX9_firstOfFewest_12 : decode cX9_firstOfFewest 12 = .ok (.iload_n 2, 1) := by decide +kernel
theorem dX9_firstOfFewest_13 : decode cX9_firstOfFewest 13 = .ok (.iconst 2, 1) := by decide +kernel
theorem dX9_firstOfFewest_14 : decode cX9_firstOfFewest 14 = .ok (.if_icmp .gt 40, 3) := by decide +kernel
theorem dX9_firstOfFewest_17 : decode cX9_firstOfFewest 17 = .ok (.iconst 0, 1) := by decide +kernel
theorem dX9_firstOfFewest_18 : decode cX9_firstOfFewest 18 = .ok (.istore_n 3, 1) := by decide +kernel
theorem dX9_firstOfFewest_19 : decode cX9_firstOfFewest 19 = .ok (.iload_n 3, 1) := by decide +kernel
theorem dX9_firstOfFewest_20 : decode cX9_firstOfFewest 20 = .ok (.iload_n 1, 1) := by decide +kernel
theorem dX9_firstOfFewest_21 : decode cX9_firstOfFewest 21 = .ok (.if_icmp .ge 27, 3) := by decide +kernel
theorem dX9_firstOfFewest_24 : decode cX9_firstOfFewest 24 = .ok (.iload_n 3, 1) := by decide +kernel
theorem dX9_firstOfFewest_25 : decode cX9_firstOfFewest 25 = .ok (.invokestatic 347, 3) := by decide +kernel
theorem dX9_firstOfFewest_28 : decode cX9_firstOfFewest 28 = .ok (.iload_n 2, 1) := by decide +kernel
theorem dX9_firstOfFewest_29 : decode cX9_firstOfFewest 29 = .ok (.if_icmp .ne 13, 3) := by decide +kernel
theorem dX9_firstOfFewest_32 : decode cX9_firstOfFewest 32 = .ok (.aload_n 0, 1) := by decide +kernel
theorem dX9_firstOfFewest_33 : decode cX9_firstOfFewest 33 = .ok (.iload_n 3, 1) := by decide +kernel
theorem dX9_firstOfFewest_34 : decode cX9_firstOfFewest 34 = .ok (.invokevirtual 352, 3) := by decide +kernel
theorem dX9_firstOfFewest_37 : decode cX9_firstOfFewest 37 = .ok (.ifCond .eq 5, 3) := by decide +kernel
theorem dX9_firstOfFewest_40 : decode cX9_firstOfFewest 40 = .ok (.iload_n 3, 1) := by decide +kernel
theorem dX9_firstOfFewest_41 : decode cX9_firstOfFewest 41 = .ok (.ireturn, 1) := by decide +kernel
theorem dX9_firstOfFewest_42 : decode cX9_firstOfFewest 42 = .ok (.iinc 3 1, 3) := by decide +kernel
theorem dX9_firstOfFewest_45 : decode cX9_firstOfFewest 45 = .ok (.goto (-26), 3) := by decide +kernel
theorem dX9_firstOfFewest_48 : decode cX9_firstOfFewest 48 = .ok (.iinc 2 1, 3) := by decide +kernel
theorem dX9_firstOfFewest_51 : decode cX9_firstOfFewest 51 = .ok (.goto (-39), 3) := by decide +kernel
theorem dX9_firstOfFewest_54 : decode cX9_firstOfFewest 54 = .ok (.bipush (-9), 2) := by decide +kernel
theorem dX9_firstOfFewest_56 : decode cX9_firstOfFewest 56 = .ok (.ireturn, 1) := by decide +kernel
theorem dX9_goesStraightEnough_0 : decode cX9_goesStraightEnough 0 = .ok (.aload_n 0, 1) := by decide +kernel
theorem dX9_goesStraightEnough_1 : decode cX9_goesStraightEnough 1 = .ok (.getfield 51, 3) := by decide +kernel
theorem dX9_goesStraightEnough_4 : decode cX9_goesStraightEnough 4 = .ok (.aload_n 1, 1) := by decide +kernel
theorem dX9_goesStraightEnough_5 : decode cX9_goesStraightEnough 5 = .ok (.aload_n 0, 1) := by decide +kernel
theorem dX9_goesStraightEnough_6 : decode cX9_goesStraightEnough 6 = .ok (.getfield 34, 3) := by decide +kernel
theorem dX9_goesStraightEnough_9 : decode cX9_goesStraightEnough 9 = .ok (.aload_n 0, 1) := by decide +kernel
theorem dX9_goesStraightEnough_10 : decode cX9_goesStraightEnough 10 = .ok (.getfield 41, 3) := by decide +kernel
theorem dX9_goesStraightEnough_13 : decode cX9_goesStraightEnough 13 = .ok (.invokevirtual 329, 3) := by decide +kernel
theorem dX9_goesStraightEnough_16 : decode cX9_goesStraightEnough 16 = .ok (.aload_n 0, 1) := by decide +kernel
theorem dX9_goesStraightEnough_17 : decode cX9_goesStraightEnough 17 = .ok (.getfield 51, 3) := by decide +kernel
theorem dX9_goesStraightEnough_20 : decode cX9_goesStraightEnough 20 = .ok (.getfield 199, 3) := by decide +kernel
theorem dX9_goesStraightEnough_23 : decode cX9_goesStraightEnough 23 = .ok (.bipush (-9), 2) := by decide +kernel
theorem dX9_goesStraightEnough_25 : decode cX9_goesStraightEnough 25 = .ok (.if_icmp .ne 18, 3) := by decide +kernel
theorem dX9_goesStraightEnough_28 : decode cX9_goesStraightEnough 28 = .ok (.aload_n 0, 1) := by decide +kernel
theorem dX9_goesStraightEnough_29 : decode cX9_goesStraightEnough 29 = .ok (.getfield 51, 3) := by decide +kernel
theorem dX9_goesStraightEnough_32 : decode cX9_goesStraightEnough 32 = .ok (.getfield 196, 3) := by decide +kernel
theorem dX9_goesStraightEnough_35 : decode cX9_goesStraightEnough 35 = .ok (.iload_n 2, 1) := by decide +kernel
theorem dX9_goesStraightEnough_36 : decode cX9_goesStraightEnough 36 = .ok (.if_icmp .gt 7, 3) := by decide +kernel
theorem dX9_goesStraightEnough_39 : decode cX9_goesStraightEnough 39 = .ok (.iconst 1, 1) := by decide +kernel
theorem dX9_goesStraightEnough_40 : decode cX9_goesStraightEnough 40 = .ok (.goto 4, 3) := by decide +kernel
theorem dX9_goesStraightEnough_43 : decode cX9_goesStraightEnough 43 = .ok (.iconst 0, 1) := by decide +kernel
theorem dX9_goesStraightEnough_44 : decode cX9_goesStraightEnough 44 = .ok (.ireturn, 1) := by decide +kernel
theorem dX9_seekMending_0 : decode cX9_seekMending 0 = .ok (.aload_n 0, 1) := by decide +kernel
theorem dX9_seekMending_1 : decode cX9_seekMending 1 = .ok (.getfield 72, 3) := by decide +kernel
theorem dX9_seekMending_4 : decode cX9_seekMending 4 = .ok (.invokevirtual 355, 3) := by decide +kernel
theorem dX9_seekMending_7 : decode cX9_seekMending 7 = .ok (.aload_n 0, 1) := by decide +kernel
theorem dX9_seekMending_8 : decode cX9_seekMending 8 = .ok (.aload_n 0, 1) := by decide +kernel
theorem dX9_seekMending_9 : decode cX9_seekMending 9 = .ok (.getfield 21, 3) := by decide +kernel
theorem dX9_seekMending_12 : decode cX9_seekMending 12 = .ok (.iload_n 1, 1) := by decide +kernel
theorem dX9_seekMending_13 : decode cX9_seekMending 13 = .ok (.invokevirtual 358, 3) := by decide +kernel
theorem dX9_seekMending_16 : decode cX9_seekMending 16 = .ok (.ifCond .eq 11, 3) := by decide +kernel
theorem dX9_seekMending_19 : decode cX9_seekMending 19 = .ok (.aload_n 0, 1) := by decide +kernel
theorem dX9_seekMending_20 : decode cX9_seekMending 20 = .ok (.getfield 72, 3) := by decide +kernel
theorem dX9_seekMending_23 : decode cX9_seekMending 23 = .ok (.invokevirtual 362, 3) := by decide +kernel
theorem dX9_seekMending_26 : decode cX9_seekMending 26 = .ok (.return_, 1) := by decide +kernel
theorem dX9_seekMending_27 : decode cX9_seekMending 27 = .ok (.aload_n 0, 1) := by decide +kernel
theorem dX9_seekMending_28 : decode cX9_seekMending 28 = .ok (.getfield 21, 3) := by decide +kernel
theorem dX9_seekMending_31 : decode cX9_seekMending 31 = .ok (.getfield 106, 3) := by decide +kernel
theorem dX9_seekMending_34 : decode cX9_seekMending 34 = .ok (.iconst 4, 1) := by decide +kernel
theorem dX9_seekMending_35 : decode cX9_seekMending 35 = .ok (.imul, 1) := by decide +kernel
theorem dX9_seekMending_36 : decode cX9_seekMending 36 = .ok (.istore_n 2, 1) := by decide +kernel
theorem dX9_seekMending_37 : decode cX9_seekMending 37 = .ok (.iconst 0, 1) := by decide +kernel
theorem dX9_seekMending_38 : decode cX9_seekMending 38 = .ok (.istore_n 3, 1) := by decide +kernel
theorem dX9_seekMending_39 : decode cX9_seekMending 39 = .ok (.iload_n 3, 1) := by decide +kernel
theorem dX9_seekMending_40 : decode cX9_seekMending 40 = .ok (.iload_n 2, 1) := by decide +kernel
theorem dX9_seekMending_41 : decode cX9_seekMending 41 = .ok (.if_icmp .ge 70, 3) := by decide +kernel
theorem dX9_seekMending_44 : decode cX9_seekMending 44 = .ok (.aload_n 0, 1) := by decide +kernel
theorem dX9_seekMending_45 : decode cX9_seekMending 45 = .ok (.getfield 25, 3) := by decide +kernel
theorem dX9_seekMending_48 : decode cX9_seekMending 48 = .ok (.aload_n 0, 1) := by decide +kernel
theorem dX9_seekMending_49 : decode cX9_seekMending 49 = .ok (.getfield 21, 3) := by decide +kernel
theorem dX9_seekMending_52 : decode cX9_seekMending 52 = .ok (.invokevirtual 98, 3) := by decide +kernel
theorem dX9_seekMending_55 : decode cX9_seekMending 55 = .ok (.aload_n 0, 1) := by decide +kernel
theorem dX9_seekMending_56 : decode cX9_seekMending 56 = .ok (.getfield 72, 3) := by decide +kernel
theorem dX9_seekMending_59 : decode cX9_seekMending 59 = .ok (.iload_n 3, 1) := by decide +kernel
theorem dX9_seekMending_60 : decode cX9_seekMending 60 = .ok (.invokestatic 365, 3) := by decide +kernel
theorem dX9_seekMending_63 : decode cX9_seekMending 63 = .ok (.invokevirtual 368, 3) := by decide +kernel
theorem dX9_seekMending_66 : decode cX9_seekMending 66 = .ok (.ifCond .eq 39, 3) := by decide +kernel
theorem dX9_seekMending_69 : decode cX9_seekMending 69 = .ok (.aload_n 0, 1) := by decide +kernel
theorem dX9_seekMending_70 : decode cX9_seekMending 70 = .ok (.getfield 25, 3) := by decide +kernel
theorem dX9_seekMending_73 : decode cX9_seekMending 73 = .ok (.iload_n 3, 1) := by decide +kernel
theorem dX9_seekMending_74 : decode cX9_seekMending 74 = .ok (.iconst 4, 1) := by decide +kernel
theorem dX9_seekMending_75 : decode cX9_seekMending 75 = .ok (.idiv, 1) := by decide +kernel
theorem dX9_seekMending_76 : decode cX9_seekMending 76 = .ok (.iload_n 3, 1) := by decide +kernel
theorem dX9_seekMending_77 : decode cX9_seekMending 77 = .ok (.iconst 4, 1) := by decide +kernel
theorem dX9_seekMending_78 : decode cX9_seekMending 78 = .ok (.irem, 1) := by decide +kernel
theorem dX9_seekMending_79 : decode cX9_seekMending 79 = .ok (.invokevirtual 242, 3) := by decide +kernel
theorem dX9_seekMending_82 : decode cX9_seekMending 82 = .ok (.ifCond .eq 23, 3) := by decide +kernel
theorem dX9_seekMending_85 : decode cX9_seekMending 85 = .ok (.aload_n 0, 1) := by decide +kernel
theorem dX9_seekMending_86 : decode cX9_seekMending 86 = .ok (.aload_n 0, 1) := by decide +kernel
theorem dX9_seekMending_87 : decode cX9_seekMending 87 = .ok (.getfield 25, 3) := by decide +kernel
theorem dX9_seekMending_90 : decode cX9_seekMending 90 = .ok (.iload_n 1, 1) := by decide +kernel
theorem dX9_seekMending_91 : decode cX9_seekMending 91 = .ok (.invokevirtual 358, 3) := by decide +kernel
theorem dX9_seekMending_94 : decode cX9_seekMending 94 = .ok (.ifCond .eq 11, 3) := by decide +kernel
theorem dX9_seekMending_97 : decode cX9_seekMending 97 = .ok (.aload_n 0, 1) := by decide +kernel
theorem dX9_seekMending_98 : decode cX9_seekMending 98 = .ok (.getfield 72, 3) := by decide +kernel
theorem dX9_seekMending_101 : decode cX9_seekMending 101 = .ok (.iload_n 3, 1) := by decide +kernel
theorem dX9_seekMending_102 : decode cX9_seekMending 102 = .ok (.invokevirtual 371, 3) := by decide +kernel
theorem dX9_seekMending_105 : decode cX9_seekMending 105 = .ok (.iinc 3 1, 3) := by decide +kernel
theorem dX9_seekMending_108 : decode cX9_seekMending 108 = .ok (.goto (-69), 3) := by decide +kernel
theorem dX9_seekMending_111 : decode cX9_seekMending 111 = .ok (.iconst 0, 1) := by decide +kernel
theorem dX9_seekMending_112 : decode cX9_seekMending 112 = .ok (.istore_n 3, 1) := by decide +kernel
theorem dX9_seekMending_113 : decode cX9_seekMending 113 = .ok (.iload_n 3, 1) := by decide +kernel
theorem dX9_seekMending_114 : decode cX9_seekMending 114 = .ok (.iload_n 2, 1) := by decide +kernel
theorem dX9_seekMending_115 : decode cX9_seekMending 115 = .ok (.if_icmp .ge 42, 3) := by decide +kernel
theorem dX9_seekMending_118 : decode cX9_seekMending 118 = .ok (.aload_n 0, 1) := by decide +kernel
theorem dX9_seekMending_119 : decode cX9_seekMending 119 = .ok (.getfield 25, 3) := by decide +kernel
theorem dX9_seekMending_122 : decode cX9_seekMending 122 = .ok (.aload_n 0, 1) := by decide +kernel
theorem dX9_seekMending_123 : decode cX9_seekMending 123 = .ok (.getfield 21, 3) := by decide +kernel
theorem dX9_seekMending_126 : decode cX9_seekMending 126 = .ok (.invokevirtual 98, 3) := by decide +kernel
theorem dX9_seekMending_129 : decode cX9_seekMending 129 = .ok (.aload_n 0, 1) := by decide +kernel
theorem dX9_seekMending_130 : decode cX9_seekMending 130 = .ok (.getfield 25, 3) := by decide +kernel
theorem dX9_seekMending_133 : decode cX9_seekMending 133 = .ok (.iload_n 3, 1) := by decide +kernel
theorem dX9_seekMending_134 : decode cX9_seekMending 134 = .ok (.iconst 4, 1) := by decide +kernel
theorem dX9_seekMending_135 : decode cX9_seekMending 135 = .ok (.idiv, 1) := by decide +kernel
theorem dX9_seekMending_136 : decode cX9_seekMending 136 = .ok (.iload_n 3, 1) := by decide +kernel
theorem dX9_seekMending_137 : decode cX9_seekMending 137 = .ok (.iconst 4, 1) := by decide +kernel
theorem dX9_seekMending_138 : decode cX9_seekMending 138 = .ok (.irem, 1) := by decide +kernel
theorem dX9_seekMending_139 : decode cX9_seekMending 139 = .ok (.invokevirtual 242, 3) := by decide +kernel
theorem dX9_seekMending_142 : decode cX9_seekMending 142 = .ok (.ifCond .eq 9, 3) := by decide +kernel
theorem dX9_seekMending_145 : decode cX9_seekMending 145 = .ok (.aload_n 0, 1) := by decide +kernel
theorem dX9_seekMending_146 : decode cX9_seekMending 146 = .ok (.iload_n 3, 1) := by decide +kernel
theorem dX9_seekMending_147 : decode cX9_seekMending 147 = .ok (.iload_n 1, 1) := by decide +kernel
theorem dX9_seekMending_148 : decode cX9_seekMending 148 = .ok (.invokevirtual 374, 3) := by decide +kernel
theorem dX9_seekMending_151 : decode cX9_seekMending 151 = .ok (.iinc 3 1, 3) := by decide +kernel
theorem dX9_seekMending_154 : decode cX9_seekMending 154 = .ok (.goto (-41), 3) := by decide +kernel
theorem dX9_seekMending_157 : decode cX9_seekMending 157 = .ok (.return_, 1) := by decide +kernel
theorem dX9_seekSecondAct_0 : decode cX9_seekSecondAct 0 = .ok (.aload_n 0, 1) := by decide +kernel
theorem dX9_seekSecondAct_1 : decode cX9_seekSecondAct 1 = .ok (.getfield 21, 3) := by decide +kernel
theorem dX9_seekSecondAct_4 : decode cX9_seekSecondAct 4 = .ok (.getfield 106, 3) := by decide +kernel
theorem dX9_seekSecondAct_7 : decode cX9_seekSecondAct 7 = .ok (.iconst 4, 1) := by decide +kernel
theorem dX9_seekSecondAct_8 : decode cX9_seekSecondAct 8 = .ok (.imul, 1) := by decide +kernel
theorem dX9_seekSecondAct_9 : decode cX9_seekSecondAct 9 = .ok (.istore_n 3, 1) := by decide +kernel
theorem dX9_seekSecondAct_10 : decode cX9_seekSecondAct 10 = .ok (.iload_n 1, 1) := by decide +kernel
theorem dX9_seekSecondAct_11 : decode cX9_seekSecondAct 11 = .ok (.iload_n 1, 1) := by decide +kernel
theorem dX9_seekSecondAct_12 : decode cX9_seekSecondAct 12 = .ok (.iconst 4, 1) := by decide +kernel
theorem dX9_seekSecondAct_13 : decode cX9_seekSecondAct 13 = .ok (.irem, 1) := by decide +kernel
theorem dX9_seekSecondAct_14 : decode cX9_seekSecondAct 14 = .ok (.isub, 1) := by decide +kernel
theorem dX9_seekSecondAct_15 : decode cX9_seekSecondAct 15 = .ok (.istore 4, 2) := by decide +kernel
theorem dX9_seekSecondAct_17 : decode cX9_seekSecondAct 17 = .ok (.iload 4, 2) := by decide +kernel
theorem dX9_seekSecondAct_19 : decode cX9_seekSecondAct 19 = .ok (.iload_n 3, 1) := by decide +kernel
theorem dX9_seekSecondAct_20 : decode cX9_seekSecondAct 20 = .ok (.if_icmp .ge 83, 3) := by decide +kernel
theorem dX9_seekSecondAct_23 : decode cX9_seekSecondAct 23 = .ok (.aload_n 0, 1) := by decide +kernel
theorem dX9_seekSecondAct_24 : decode cX9_seekSecondAct 24 = .ok (.getfield 72, 3) := by decide +kernel
theorem dX9_seekSecondAct_27 : decode cX9_seekSecondAct 27 = .ok (.iload_n 1, 1) := by decide +kernel
theorem dX9_seekSecondAct_28 : decode cX9_seekSecondAct 28 = .ok (.invokestatic 365, 3) := by decide +kernel
theorem dX9_seekSecondAct_31 : decode cX9_seekSecondAct 31 = .ok (.iload 4, 2) := by decide +kernel
theorem dX9_seekSecondAct_33 : decode cX9_seekSecondAct 33 = .ok (.invokestatic 365, 3) := by decide +kernel
theorem dX9_seekSecondAct_36 : decode cX9_seekSecondAct 36 = .ok (.iadd, 1) := by decide +kernel
theorem dX9_seekSecondAct_37 : decode cX9_seekSecondAct 37 = .ok (.invokevirtual 368, 3) := by decide +kernel
theorem dX9_seekSecondAct_40 : decode cX9_seekSecondAct 40 = .ok (.ifCond .ne 6, 3) := by decide +kernel
theorem dX9_seekSecondAct_43 : decode cX9_seekSecondAct 43 = .ok (.goto 54, 3) := by decide +kernel
theorem dX9_seekSecondAct_46 : decode cX9_seekSecondAct 46 = .ok (.aload_n 0, 1) := by decide +kernel
theorem dX9_seekSecondAct_47 : decode cX9_seekSecondAct 47 = .ok (.getfield 28, 3) := by decide +kernel
theorem dX9_seekSecondAct_50 : decode cX9_seekSecondAct 50 = .ok (.aload_n 0, 1) := by decide +kernel
theorem dX9_seekSecondAct_51 : decode cX9_seekSecondAct 51 = .ok (.getfield 25, 3) := by decide +kernel
theorem dX9_seekSecondAct_54 : decode cX9_seekSecondAct 54 = .ok (.invokevirtual 98, 3) := by decide +kernel
theorem dX9_seekSecondAct_57 : decode cX9_seekSecondAct 57 = .ok (.aload_n 0, 1) := by decide +kernel
theorem dX9_seekSecondAct_58 : decode cX9_seekSecondAct 58 = .ok (.getfield 28, 3) := by decide +kernel
theorem dX9_seekSecondAct_61 : decode cX9_seekSecondAct 61 = .ok (.iload 4, 2) := by decide +kernel
theorem dX9_seekSecondAct_63 : decode cX9_seekSecondAct 63 = .ok (.iconst 4, 1) := by decide +kernel
theorem dX9_seekSecondAct_64 : decode cX9_seekSecondAct 64 = .ok (.idiv, 1) := by decide +kernel
theorem dX9_seekSecondAct_65 : decode cX9_seekSecondAct 65 = .ok (.iload 4, 2) := by decide +kernel
theorem dX9_seekSecondAct_67 : decode cX9_seekSecondAct 67 = .ok (.iconst 4, 1) := by decide +kernel
theorem dX9_seekSecondAct_68 : decode cX9_seekSecondAct 68 = .ok (.irem, 1) := by decide +kernel
theorem dX9_seekSecondAct_69 : decode cX9_seekSecondAct 69 = .ok (.invokevirtual 242, 3) := by decide +kernel
theorem dX9_seekSecondAct_72 : decode cX9_seekSecondAct 72 = .ok (.ifCond .eq 25, 3) := by decide +kernel
theorem dX9_seekSecondAct_75 : decode cX9_seekSecondAct 75 = .ok (.aload_n 0, 1) := by decide +kernel
theorem dX9_seekSecondAct_76 : decode cX9_seekSecondAct 76 = .ok (.aload_n 0, 1) := by decide +kernel
theorem dX9_seekSecondAct_77 : decode cX9_seekSecondAct 77 = .ok (.getfield 28, 3) := by decide +kernel
theorem dX9_seekSecondAct_80 : decode cX9_seekSecondAct 80 = .ok (.iload_n 2, 1) := by decide +kernel
theorem dX9_seekSecondAct_81 : decode cX9_seekSecondAct 81 = .ok (.invokevirtual 358, 3) := by decide +kernel
theorem dX9_seekSecondAct_84 : decode cX9_seekSecondAct 84 = .ok (.ifCond .eq 13, 3) := by decide +kernel
theorem dX9_seekSecondAct_87 : decode cX9_seekSecondAct 87 = .ok (.aload_n 0, 1) := by decide +kernel
theorem dX9_seekSecondAct_88 : decode cX9_seekSecondAct 88 = .ok (.getfield 72, 3) := by decide +kernel
theorem dX9_seekSecondAct_91 : decode cX9_seekSecondAct 91 = .ok (.iload_n 1, 1) := by decide +kernel
theorem dX9_seekSecondAct_92 : decode cX9_seekSecondAct 92 = .ok (.iload 4, 2) := by decide +kernel
theorem dX9_seekSecondAct_94 : decode cX9_seekSecondAct 94 = .ok (.invokevirtual 378, 3) := by decide +kernel
theorem dX9_seekSecondAct_97 : decode cX9_seekSecondAct 97 = .ok (.iinc 4 1, 3) := by decide +kernel
theorem dX9_seekSecondAct_100 : decode cX9_seekSecondAct 100 = .ok (.goto (-83), 3) := by decide +kernel
theorem dX9_seekSecondAct_103 : decode cX9_seekSecondAct 103 = .ok (.return_, 1) := by decide +kernel
theorem dX9_leaveInTrail_0 : decode cX9_leaveInTrail 0 = .ok (.aload_n 0, 1) := by decide +kernel
theorem dX9_leaveInTrail_1 : decode cX9_leaveInTrail 1 = .ok (.bipush 31, 2) := by decide +kernel
theorem dX9_leaveInTrail_3 : decode cX9_leaveInTrail 3 = .ok (.aload_n 0, 1) := by decide +kernel
theorem dX9_leaveInTrail_4 : decode cX9_leaveInTrail 4 = .ok (.getfield 83, 3) := by decide +kernel
theorem dX9_leaveInTrail_7 : decode cX9_leaveInTrail 7 = .ok (.imul, 1) := by decide +kernel
theorem dX9_leaveInTrail_8 : decode cX9_leaveInTrail 8 = .ok (.iload_n 1, 1) := by decide +kernel
theorem dX9_leaveInTrail_9 : decode cX9_leaveInTrail 9 = .ok (.iadd, 1) := by decide +kernel
theorem dX9_leaveInTrail_10 : decode cX9_leaveInTrail 10 = .ok (.putfield 83, 3) := by decide +kernel
theorem dX9_leaveInTrail_13 : decode cX9_leaveInTrail 13 = .ok (.return_, 1) := by decide +kernel
theorem dX9_tellAsTooth_0 : decode cX9_tellAsTooth 0 = .ok (.aload_n 0, 1) := by decide +kernel
theorem dX9_tellAsTooth_1 : decode cX9_tellAsTooth 1 = .ok (.iconst 1, 1) := by decide +kernel
theorem dX9_tellAsTooth_2 : decode cX9_tellAsTooth 2 = .ok (.invokevirtual 323, 3) := by decide +kernel
theorem dX9_tellAsTooth_5 : decode cX9_tellAsTooth 5 = .ok (.aload_n 0, 1) := by decide +kernel
theorem dX9_tellAsTooth_6 : decode cX9_tellAsTooth 6 = .ok (.getfield 21, 3) := by decide +kernel
theorem dX9_tellAsTooth_9 : decode cX9_tellAsTooth 9 = .ok (.iload_n 1, 1) := by decide +kernel
theorem dX9_tellAsTooth_10 : decode cX9_tellAsTooth 10 = .ok (.iconst 2, 1) := by decide +kernel
theorem dX9_tellAsTooth_11 : decode cX9_tellAsTooth 11 = .ok (.invokevirtual 118, 3) := by decide +kernel
theorem dX9_tellAsTooth_14 : decode cX9_tellAsTooth 14 = .ok (.ireturn, 1) := by decide +kernel
theorem dX9_tellAsBent_0 : decode cX9_tellAsBent 0 = .ok (.aload_n 0, 1) := by decide +kernel
theorem dX9_tellAsBent_1 : decode cX9_tellAsBent 1 = .ok (.iconst 2, 1) := by decide +kernel
theorem dX9_tellAsBent_2 : decode cX9_tellAsBent 2 = .ok (.invokevirtual 323, 3) := by decide +kernel
theorem dX9_tellAsBent_5 : decode cX9_tellAsBent 5 = .ok (.aload_n 0, 1) := by decide +kernel
theorem dX9_tellAsBent_6 : decode cX9_tellAsBent 6 = .ok (.iload_n 1, 1) := by decide +kernel
theorem dX9_tellAsBent_7 : decode cX9_tellAsBent 7 = .ok (.invokevirtual 320, 3) := by decide +kernel
theorem dX9_tellAsBent_10 : decode cX9_tellAsBent 10 = .ok (.bipush 100, 2) := by decide +kernel
theorem dX9_tellAsBent_12 : decode cX9_tellAsBent 12 = .ok (.iadd, 1) := by decide +kernel
theorem dX9_tellAsBent_13 : decode cX9_tellAsBent 13 = .ok (.ireturn, 1) := by decide +kernel
theorem dX9_tellAsHooked_0 : decode cX9_tellAsHooked 0 = .ok (.aload_n 0, 1) := by decide +kernel
theorem dX9_tellAsHooked_1 : decode cX9_tellAsHooked 1 = .ok (.iconst 3, 1) := by decide +kernel
theorem dX9_tellAsHooked_2 : decode cX9_tellAsHooked 2 = .ok (.invokevirtual 323, 3) := by decide +kernel
theorem dX9_tellAsHooked_5 : decode cX9_tellAsHooked 5 = .ok (.aload_n 0, 1) := by decide +kernel
theorem dX9_tellAsHooked_6 : decode cX9_tellAsHooked 6 = .ok (.iload_n 1, 1) := by decide +kernel
theorem dX9_tellAsHooked_7 : decode cX9_tellAsHooked 7 = .ok (.invokevirtual 317, 3) := by decide +kernel
theorem dX9_tellAsHooked_10 : decode cX9_tellAsHooked 10 = .ok (.istore_n 2, 1) := by decide +kernel
theorem dX9_tellAsHooked_11 : decode cX9_tellAsHooked 11 = .ok (.iload_n 2, 1) := by decide +kernel
theorem dX9_tellAsHooked_12 : decode cX9_tellAsHooked 12 = .ok (.aload_n 0, 1) := by decide +kernel
theorem dX9_tellAsHooked_13 : decode cX9_tellAsHooked 13 = .ok (.iload_n 1, 1) := by decide +kernel
theorem dX9_tellAsHooked_14 : decode cX9_tellAsHooked 14 = .ok (.invokevirtual 320, 3) := by decide +kernel
theorem dX9_tellAsHooked_17 : decode cX9_tellAsHooked 17 = .ok (.iadd, 1) := by decide +kernel
theorem dX9_tellAsHooked_18 : decode cX9_tellAsHooked 18 = .ok (.ireturn, 1) := by decide +kernel
theorem dX10_init_0 : decode cX10_init 0 = .ok (.aload_n 0, 1) := by decide +kernel
theorem dX10_init_1 : decode cX10_init 1 = .ok (.invokespecial 1, 3) := by decide +kernel
theorem dX10_init_4 : decode cX10_init 4 = .ok (.aload_n 0, 1) := by decide +kernel
theorem dX10_init_5 : decode cX10_init 5 = .ok (.bipush 8, 2) := by decide +kernel
theorem dX10_init_7 : decode cX10_init 7 = .ok (.newarray .int, 2) := by decide +kernel
theorem dX10_init_9 : decode cX10_init 9 = .ok (.putfield 7, 3) := by decide +kernel
theorem dX10_init_12 : decode cX10_init 12 = .ok (.aload_n 0, 1) := by decide +kernel
theorem dX10_init_13 : decode cX10_init 13 = .ok (.bipush 8, 2) := by decide +kernel
theorem dX10_init_15 : decode cX10_init 15 = .ok (.newarray .int, 2) := by decide +kernel
theorem dX10_init_17 : decode cX10_init 17 = .ok (.putfield 13, 3) := by decide +kernel
theorem dX10_init_20 : decode cX10_init 20 = .ok (.aload_n 0, 1) := by decide +kernel
theorem dX10_init_21 : decode cX10_init 21 = .ok (.bipush 8, 2) := by decide +kernel
theorem dX10_init_23 : decode cX10_init 23 = .ok (.newarray .int, 2) := by decide +kernel
theorem dX10_init_25 : decode cX10_init 25 = .ok (.putfield 16, 3) := by decide +kernel
theorem dX10_init_28 : decode cX10_init 28 = .ok (.aload_n 0, 1) := by decide +kernel
theorem dX10_init_29 : decode cX10_init 29 = .ok (.bipush 8, 2) := by decide +kernel
theorem dX10_init_31 : decode cX10_init 31 = .ok (.newarray .int, 2) := by decide +kernel
theorem dX10_init_33 : decode cX10_init 33 = .ok (.putfield 19, 3) := by decide +kernel
theorem dX10_init_36 : decode cX10_init 36 = .ok (.aload_n 0, 1) := by decide +kernel
theorem dX10_init_37 : decode cX10_init 37 = .ok (.bipush 8, 2) := by decide +kernel
theorem dX10_init_39 : decode cX10_init 39 = .ok (.newarray .int, 2) := by decide +kernel
theorem dX10_init_41 : decode cX10_init 41 = .ok (.putfield 22, 3) := by decide +kernel
theorem dX10_init_44 : decode cX10_init 44 = .ok (.aload_n 0, 1) := by decide +kernel
theorem dX10_init_45 : decode cX10_init 45 = .ok (.bipush 8, 2) := by decide +kernel
theorem dX10_init_47 : decode cX10_init 47 = .ok (.newarray .int, 2) := by decide +kernel
theorem dX10_init_49 : decode cX10_init 49 = .ok (.putfield 25, 3) := by decide +kernel
theorem dX10_init_52 : decode cX10_init 52 = .ok (.aload_n 0, 1) := by decide +kernel
theorem dX10_init_53 : decode cX10_init 53 = .ok (.bipush 8, 2) := by decide +kernel
theorem dX10_init_55 : decode cX10_init 55 = .ok (.newarray .int, 2) := by decide +kernel
theorem dX10_init_57 : decode cX10_init 57 = .ok (.putfield 28, 3) := by decide +kernel
theorem dX10_init_60 : decode cX10_init 60 = .ok (.aload_n 0, 1) := by decide +kernel
theorem dX10_init_61 : decode cX10_init 61 = .ok (.bipush 72, 2) := by decide +kernel
theorem dX10_init_63 : decode cX10_init 63 = .ok (.newarray .int, 2) := by decide +kernel
theorem dX10_init_65 : decode cX10_init 65 = .ok (.putfield 31, 3) := by decide +kernel
theorem dX10_init_68 : decode cX10_init 68 = .ok (.aload_n 0, 1) := by decide +kernel
theorem dX10_init_69 : decode cX10_init 69 = .ok (.bipush 24, 2) := by decide +kernel
theorem dX10_init_71 : decode cX10_init 71 = .ok (.newarray .int, 2) := by decide +kernel
theorem dX10_init_73 : decode cX10_init 73 = .ok (.putfield 34, 3) := by decide +kernel
theorem dX10_init_76 : decode cX10_init 76 = .ok (.aload_n 0, 1) := by decide +kernel
theorem dX10_init_77 : decode cX10_init 77 = .ok (.bipush 24, 2) := by decide +kernel
theorem dX10_init_79 : decode cX10_init 79 = .ok (.newarray .int, 2) := by decide +kernel
theorem dX10_init_81 : decode cX10_init 81 = .ok (.putfield 37, 3) := by decide +kernel
theorem dX10_init_84 : decode cX10_init 84 = .ok (.aload_n 0, 1) := by decide +kernel
theorem dX10_init_85 : decode cX10_init 85 = .ok (.bipush 24, 2) := by decide +kernel
theorem dX10_init_87 : decode cX10_init 87 = .ok (.newarray .int, 2) := by decide +kernel
theorem dX10_init_89 : decode cX10_init 89 = .ok (.putfield 40, 3) := by decide +kernel
theorem dX10_init_92 : decode cX10_init 92 = .ok (.aload_n 0, 1) := by decide +kernel
theorem dX10_init_93 : decode cX10_init 93 = .ok (.bipush 24, 2) := by decide +kernel
theorem dX10_init_95 : decode cX10_init 95 = .ok (.newarray .int, 2) := by decide +kernel
theorem dX10_init_97 : decode cX10_init 97 = .ok (.putfield 43, 3) := by decide +kernel
theorem dX10_init_100 : decode cX10_init 100 = .ok (.aload_n 0, 1) := by decide +kernel
theorem dX10_init_101 : decode cX10_init 101 = .ok (.bipush 24, 2) := by decide +kernel
theorem dX10_init_103 : decode cX10_init 103 = .ok (.newarray .int, 2) := by decide +kernel
theorem dX10_init_105 : decode cX10_init 105 = .ok (.putfield 46, 3) := by decide +kernel
theorem dX10_init_108 : decode cX10_init 108 = .ok (.aload_n 0, 1) := by decide +kernel
theorem dX10_init_109 : decode cX10_init 109 = .ok (.bipush 6, 2) := by decide +kernel
theorem dX10_init_111 : decode cX10_init 111 = .ok (.newarray .int, 2) := by decide +kernel
theorem dX10_init_113 : decode cX10_init 113 = .ok (.putfield 49, 3) := by decide +kernel
theorem dX10_init_116 : decode cX10_init 116 = .ok (.aload_n 0, 1) := by decide +kernel
theorem dX10_init_117 : decode cX10_init 117 = .ok (.bipush 6, 2) := by decide +kernel
theorem dX10_init_119 : decode cX10_init 119 = .ok (.newarray .int, 2) := by decide +kernel
theorem dX10_init_121 : decode cX10_init 121 = .ok (.putfield 52, 3) := by decide +kernel
theorem dX10_init_124 : decode cX10_init 124 = .ok (.aload_n 0, 1) := by decide +kernel
theorem dX10_init_125 : decode cX10_init 125 = .ok (.bipush 6, 2) := by decide +kernel
theorem dX10_init_127 : decode cX10_init 127 = .ok (.newarray .int, 2) := by decide +kernel
theorem dX10_init_129 : decode cX10_init 129 = .ok (.putfield 55, 3) := by decide +kernel
theorem dX10_init_132 : decode cX10_init 132 = .ok (.aload_n 0, 1) := by decide +kernel
theorem dX10_init_133 : decode cX10_init 133 = .ok (.bipush 8, 2) := by decide +kernel
theorem dX10_init_135 : decode cX10_init 135 = .ok (.newarray .int, 2) := by decide +kernel
theorem dX10_init_137 : decode cX10_init 137 = .ok (.putfield 58, 3) := by decide +kernel
theorem dX10_init_140 : decode cX10_init 140 = .ok (.aload_n 0, 1) := by decide +kernel
theorem dX10_init_141 : decode cX10_init 141 = .ok (.bipush 8, 2) := by decide +kernel
theorem dX10_init_143 : decode cX10_init 143 = .ok (.newarray .int, 2) := by decide +kernel
theorem dX10_init_145 : decode cX10_init 145 = .ok (.putfield 61, 3) := by decide +kernel
theorem dX10_init_148 : decode cX10_init 148 = .ok (.aload_n 0, 1) := by decide +kernel
theorem dX10_init_149 : decode cX10_init 149 = .ok (.bipush 6, 2) := by decide +kernel
theorem dX10_init_151 : decode cX10_init 151 = .ok (.newarray .int, 2) := by decide +kernel
theorem dX10_init_153 : decode cX10_init 153 = .ok (.putfield 64, 3) := by decide +kernel
theorem dX10_init_156 : decode cX10_init 156 = .ok (.aload_n 0, 1) := by decide +kernel
theorem dX10_init_157 : decode cX10_init 157 = .ok (.bipush 6, 2) := by decide +kernel
theorem dX10_init_159 : decode cX10_init 159 = .ok (.newarray .int, 2) := by decide +kernel
theorem dX10_init_161 : decode cX10_init 161 = .ok (.putfield 67, 3) := by decide +kernel
theorem dX10_init_164 : decode cX10_init 164 = .ok (.aload_n 0, 1) := by decide +kernel
theorem dX10_init_165 : decode cX10_init 165 = .ok (.bipush 7, 2) := by decide +kernel
theorem dX10_init_167 : decode cX10_init 167 = .ok (.newarray .int, 2) := by decide +kernel
theorem dX10_init_169 : decode cX10_init 169 = .ok (.putfield 70, 3) := by decide +kernel
theorem dX10_init_172 : decode cX10_init 172 = .ok (.aload_n 0, 1) := by decide +kernel
theorem dX10_init_173 : decode cX10_init 173 = .ok (.iconst 4, 1) := by decide +kernel
theorem dX10_init_174 : decode cX10_init 174 = .ok (.newarray .int, 2) := by decide +kernel
theorem dX10_init_176 : decode cX10_init 176 = .ok (.putfield 73, 3) := by decide +kernel
theorem dX10_init_179 : decode cX10_init 179 = .ok (.aload_n 0, 1) := by decide +kernel
theorem dX10_init_180 : decode cX10_init 180 = .ok (.iconst 4, 1) := by decide +kernel
theorem dX10_init_181 : decode cX10_init 181 = .ok (.newarray .int, 2) := by decide +kernel
theorem dX10_init_183 : decode cX10_init 183 = .ok (.putfield 76, 3) := by decide +kernel
theorem dX10_init_186 : decode cX10_init 186 = .ok (.aload_n 0, 1) := by decide +kernel
theorem dX10_init_187 : decode cX10_init 187 = .ok (.sipush 320, 3) := by decide +kernel
theorem dX10_init_190 : decode cX10_init 190 = .ok (.newarray .int, 2) := by decide +kernel
theorem dX10_init_192 : decode cX10_init 192 = .ok (.putfield 79, 3) := by decide +kernel
theorem dX10_init_195 : decode cX10_init 195 = .ok (.aload_n 0, 1) := by decide +kernel
theorem dX10_init_196 : decode cX10_init 196 = .ok (.bipush 80, 2) := by decide +kernel
theorem dX10_init_198 : decode cX10_init 198 = .ok (.newarray .int, 2) := by decide +kernel
theorem dX10_init_200 : decode cX10_init 200 = .ok (.putfield 82, 3) := by decide +kernel
theorem dX10_init_203 : decode cX10_init 203 = .ok (.iconst 0, 1) := by decide +kernel
theorem dX10_init_204 : decode cX10_init 204 = .ok (.istore_n 1, 1) := by decide +kernel
theorem dX10_init_205 : decode cX10_init 205 = .ok (.iload_n 1, 1) := by decide +kernel
theorem dX10_init_206 : decode cX10_init 206 = .ok (.iconst 4, 1) := by decide +kernel
theorem dX10_init_207 : decode cX10_init 207 = .ok (.if_icmp .ge 16, 3) := by decide +kernel
theorem dX10_init_210 : decode cX10_init 210 = .ok (.aload_n 0, 1) := by decide +kernel
theorem dX10_init_211 : decode cX10_init 211 = .ok (.getfield 73, 3) := by decide +kernel
theorem dX10_init_214 : decode cX10_init 214 = .ok (.iload_n 1, 1) := by decide +kernel
theorem dX10_init_215 : decode cX10_init 215 = .ok (.iconst (-1), 1) := by decide +kernel
theorem dX10_init_216 : decode cX10_init 216 = .ok (.iastore, 1) := by decide +kernel
theorem dX10_init_217 : decode cX10_init 217 = .ok (.iinc 1 1, 3) := by decide +kernel
theorem dX10_init_220 : decode cX10_init 220 = .ok (.goto (-15), 3) := by decide +kernel
theorem dX10_init_223 : decode cX10_init 223 = .ok (.return_, 1) := by decide +kernel
theorem dX10_in_0 : decode cX10_in 0 = .ok (.lload_n 0, 1) := by decide +kernel
theorem dX10_in_1 : decode cX10_in 1 = .ok (.lload_n 2, 1) := by decide +kernel
theorem dX10_in_2 : decode cX10_in 2 = .ok (.lcmp, 1) := by decide +kernel
theorem dX10_in_3 : decode cX10_in 3 = .ok (.ifCond .lt 14, 3) := by decide +kernel
theorem dX10_in_6 : decode cX10_in 6 = .ok (.lload_n 0, 1) := by decide +kernel
theorem dX10_in_7 : decode cX10_in 7 = .ok (.lload 4, 2) := by decide +kernel
theorem dX10_in_9 : decode cX10_in 9 = .ok (.lcmp, 1) := by decide +kernel
theorem dX10_in_10 : decode cX10_in 10 = .ok (.ifCond .gt 7, 3) := by decide +kernel
theorem dX10_in_13 : decode cX10_in 13 = .ok (.iconst 1, 1) := by decide +kernel
theorem dX10_in_14 : decode cX10_in 14 = .ok (.goto 4, 3) := by decide +kernel
theorem dX10_in_17 : decode cX10_in 17 = .ok (.iconst 0, 1) := by decide +kernel
theorem dX10_in_18 : decode cX10_in 18 = .ok (.ireturn, 1) := by decide +kernel
theorem dX10_lost_0 : decode cX10_lost 0 = .ok (.ldc2_w 85, 3) := by decide +kernel
theorem dX10_lost_3 : decode cX10_lost 3 = .ok (.lreturn, 1) := by decide +kernel
theorem dX10_greater_0 : decode cX10_greater 0 = .ok (.iload_n 0, 1) := by decide +kernel
theorem dX10_greater_1 : decode cX10_greater 1 = .ok (.iload_n 1, 1) := by decide +kernel
theorem dX10_greater_2 : decode cX10_greater 2 = .ok (.if_icmp .le 7, 3) := by decide +kernel
theorem dX10_greater_5 : decode cX10_greater 5 = .ok (.iload_n 0, 1) := by decide +kernel
theorem dX10_greater_6 : decode cX10_greater 6 = .ok (.goto 4, 3) := by decide +kernel
theorem dX10_greater_9 : decode cX10_greater 9 = .ok (.iload_n 1, 1) := by decide +kernel
theorem dX10_greater_10 : decode cX10_greater 10 = .ok (.ireturn, 1) := by decide +kernel
theorem dX10_size_0 : decode cX10_size 0 = .ok (.iload_n 0, 1) := by decide +kernel
theorem dX10_size_1 : decode cX10_size 1 = .ok (.ifCond .ge 8, 3) := by decide +kernel
theorem dX10_size_4 : decode cX10_size 4 = .ok (.iload_n 0, 1) := by decide +kernel
theorem dX10_size_5 : decode cX10_size 5 = .ok (.ineg, 1) := by decide +kernel
theorem dX10_size_6 : decode cX10_size 6 = .ok (.goto 4, 3) := by decide +kernel
theorem dX10_size_9 : decode cX10_size 9 = .ok (.iload_n 0, 1) := by decide +kernel
theorem dX10_size_10 : decode cX10_size 10 = .ok (.ireturn, 1) := by decide +kernel
theorem dX10_refused_0 : decode cX10_refused 0 = .ok (.aload_n 0, 1) := by decide +kernel
theorem dX10_refused_1 : decode cX10_refused 1 = .ok (.iconst 0, 1) := by decide +kernel
theorem dX10_refused_2 : decode cX10_refused 2 = .ok (.putfield 87, 3) := by decide +kernel
theorem dX10_refused_5 : decode cX10_refused 5 = .ok (.iload_n 1, 1) := by decide +kernel
theorem dX10_refused_6 : decode cX10_refused 6 = .ok (.ireturn, 1) := by decide +kernel
theorem dX10_failed_0 : decode cX10_failed 0 = .ok (.aload_n 0, 1) := by decide +kernel
theorem dX10_failed_1 : decode cX10_failed 1 = .ok (.iload_n 1, 1) := by decide +kernel
theorem dX10_failed_2 : decode cX10_failed 2 = .ok (.putfield 87, 3) := by decide +kernel
theorem dX10_failed_5 : decode cX10_failed 5 = .ok (.bipush (-10), 2) := by decide +kernel
theorem dX10_failed_7 : decode cX10_failed 7 = .ok (.iload_n 1, 1) := by decide +kernel
theorem dX10_failed_8 : decode cX10_failed 8 = .ok (.isub, 1) := by decide +kernel
theorem dX10_failed_9 : decode cX10_failed 9 = .ok (.ireturn, 1) := by decide +kernel
theorem dX10_failedLong_0 : decode cX10_failedLong 0 = .ok (.aload_n 0, 1) := by decide +kernel
theorem dX10_failedLong_1 : decode cX10_failedLong 1 = .ok (.iload_n 1, 1) := by decide +kernel
theorem dX10_failedLong_2 : decode cX10_failedLong 2 = .ok (.putfield 87, 3) := by decide +kernel
theorem dX10_failedLong_5 : decode cX10_failedLong 5 = .ok (.invokestatic 91, 3) := by decide +kernel
theorem dX10_failedLong_8 : decode cX10_failedLong 8 = .ok (.lreturn, 1) := by decide +kernel
theorem dX10_barred_0 : decode cX10_barred 0 = .ok (.iload_n 1, 1) := by decide +kernel
theorem dX10_barred_1 : decode cX10_barred 1 = .ok (.invokestatic 95, 3) := by decide +kernel
theorem dX10_barred_4 : decode cX10_barred 4 = .ok (.ifCond .eq 9, 3) := by decide +kernel
theorem dX10_barred_7 : decode cX10_barred 7 = .ok (.aload_n 0, 1) := by decide +kernel
theorem dX10_barred_8 : decode cX10_barred 8 = .ok (.iconst (-1), 1) := by decide +kernel
theorem dX10_barred_9 : decode cX10_barred 9 = .ok (.invokevirtual 99, 3) := by decide +kernel
theorem dX10_barred_12 : decode cX10_barred 12 = .ok (.ireturn, 1) := by decide +kernel
theorem dX10_barred_13 : decode cX10_barred 13 = .ok (.iload_n 2, 1) := by decide +kernel
theorem dX10_barred_14 : decode cX10_barred 14 = .ok (.i2l, 1) := by decide +kernel
theorem dX10_barred_15 : decode cX10_barred 15 = .ok (.lconst 0, 1) := by decide +kernel
theorem dX10_barred_16 : decode cX10_barred 16 = .ok (.ldc2_w 103, 3) := by decide +kernel
theorem dX10_barred_19 : decode cX10_barred 19 = .ok (.invokestatic 105, 3) := by decide +kernel
theorem dX10_barred_22 : decode cX10_barred 22 = .ok (.ifCond .ne 10, 3) := by decide +kernel
theorem dX10_barred_25 : decode cX10_barred 25 = .ok (.aload_n 0, 1) := by decide +kernel
theorem dX10_barred_26 : decode cX10_barred 26 = .ok (.bipush (-2), 2) := by decide +kernel
theorem dX10_barred_28 : decode cX10_barred 28 = .ok (.invokevirtual 99, 3) := by decide +kernel
theorem dX10_barred_31 : decode cX10_barred 31 = .ok (.ireturn, 1) := by decide +kernel
theorem dX10_barred_32 : decode cX10_barred 32 = .ok (.aload_n 0, 1) := by decide +kernel
theorem dX10_barred_33 : decode cX10_barred 33 = .ok (.getfield 73, 3) := by decide +kernel
theorem dX10_barred_36 : decode cX10_barred 36 = .ok (.iload_n 1, 1) := by decide +kernel
theorem dX10_barred_37 : decode cX10_barred 37 = .ok (.iaload, 1) := by decide +kernel
theorem dX10_barred_38 : decode cX10_barred 38 = .ok (.ifCond .lt 19, 3) := by decide +kernel
theorem dX10_barred_41 : decode cX10_barred 41 = .ok (.aload_n 0, 1) := by decide +kernel
theorem dX10_barred_42 : decode cX10_barred 42 = .ok (.getfield 76, 3) := by decide +kernel
theorem dX10_barred_45 : decode cX10_barred 45 = .ok (.iload_n 1, 1) := by decide +kernel
theorem dX10_barred_46 : decode cX10_barred 46 = .ok (.iaload, 1) := by decide +kernel
theorem dX10_barred_47 : decode cX10_barred 47 = .ok (.iload_n 2, 1) := by decide +kernel
theorem dX10_barred_48 : decode cX10_barred 48 = .ok (.if_icmp .eq 9, 3) := by decide +kernel
theorem dX10_barred_51 : decode cX10_barred 51 = .ok (.aload_n 0, 1) := by decide +kernel
theorem dX10_barred_52 : decode cX10_barred 52 = .ok (.iconst 2, 1) := by decide +kernel
theorem dX10_barred_53 : decode cX10_barred 53 = .ok (.invokevirtual 109, 3) := by decide +kernel
theorem dX10_barred_56 : decode cX10_barred 56 = .ok (.ireturn, 1) := by decide +kernel
theorem dX10_barred_57 : decode cX10_barred 57 = .ok (.aload_n 0, 1) := by decide +kernel
theorem dX10_barred_58 : decode cX10_barred 58 = .ok (.getfield 73, 3) := by decide +kernel
theorem dX10_barred_61 : decode cX10_barred 61 = .ok (.iload_n 1, 1) := by decide +kernel
theorem dX10_barred_62 : decode cX10_barred 62 = .ok (.iaload, 1) := by decide +kernel
theorem dX10_barred_63 : decode cX10_barred 63 = .ok (.ifCond .ge 9, 3) := by decide +kernel
theorem dX10_barred_66 : decode cX10_barred 66 = .ok (.aload_n 0, 1) := by decide +kernel
theorem dX10_barred_67 : decode cX10_barred 67 = .ok (.iconst 1, 1) := by decide +kernel
theorem dX10_barred_68 : decode cX10_barred 68 = .ok (.invokevirtual 109, 3) := by decide +kernel
theorem dX10_barred_71 : decode cX10_barred 71 = .ok (.ireturn, 1) := by decide +kernel
theorem dX10_barred_72 : decode cX10_barred 72 = .ok (.lload 4, 2) := by decide +kernel
theorem dX10_barred_74 : decode cX10_barred 74 = .ok (.lconst 0, 1) := by decide +kernel
theorem dX10_barred_75 : decode cX10_barred 75 = .ok (.lcmp, 1) := by decide +kernel
theorem dX10_barred_76 : decode cX10_barred 76 = .ok (.ifCond .ge 9, 3) := by decide +kernel
theorem dX10_barred_79 : decode cX10_barred 79 = .ok (.aload_n 0, 1) := by decide +kernel
theorem dX10_barred_80 : decode cX10_barred 80 = .ok (.iconst 4, 1) := by decide +kernel
theorem dX10_barred_81 : decode cX10_barred 81 = .ok (.invokevirtual 109, 3) := by decide +kernel
theorem dX10_barred_84 : decode cX10_barred 84 = .ok (.ireturn, 1) := by decide +kernel
theorem dX10_barred_85 : decode cX10_barred 85 = .ok (.iload_n 3, 1) := by decide +kernel
theorem dX10_barred_86 : decode cX10_barred 86 = .ok (.lload 4, 2) := by decide +kernel
theorem dX10_barred_88 : decode cX10_barred 88 = .ok (.aload_n 0, 1) := by decide +kernel
theorem dX10_barred_89 : decode cX10_barred 89 = .ok (.getfield 73, 3) := by decide +kernel
theorem dX10_barred_92 : decode cX10_barred 92 = .ok (.iload_n 1, 1) := by decide +kernel
theorem dX10_barred_93 : decode cX10_barred 93 = .ok (.iaload, 1) := by decide +kernel
theorem dX10_barred_94 : decode cX10_barred 94 = .ok (.invokestatic 112, 3) := by decide +kernel
theorem dX10_barred_97 : decode cX10_barred 97 = .ok (.ifCond .eq 11, 3) := by decide +kernel
theorem dX10_barred_100 : decode cX10_barred 100 = .ok (.aload_n 0, 1) := by decide +kernel
theorem dX10_barred_101 : decode cX10_barred 101 = .ok (.iconst 3, 1) := by decide +kernel
theorem dX10_barred_102 : decode cX10_barred 102 = .ok (.invokevirtual 109, 3) := by decide +kernel
theorem dX10_barred_105 : decode cX10_barred 105 = .ok (.goto 4, 3) := by decide +kernel
theorem dX10_barred_108 : decode cX10_barred 108 = .ok (.iconst 0, 1) := by decide +kernel
theorem dX10_barred_109 : decode cX10_barred 109 = .ok (.ireturn, 1) := by decide +kernel
theorem dX10_noTooth_0 : decode cX10_noTooth 0 = .ok (.iload_n 1, 1) := by decide +kernel
theorem dX10_noTooth_1 : decode cX10_noTooth 1 = .ok (.i2l, 1) := by decide +kernel
theorem dX10_noTooth_2 : decode cX10_noTooth 2 = .ok (.lconst 0, 1) := by decide +kernel
theorem dX10_noTooth_3 : decode cX10_noTooth 3 = .ok (.aload_n 0, 1) := by decide +kernel
theorem dX10_noTooth_4 : decode cX10_noTooth 4 = .ok (.getfield 116, 3) := by decide +kernel
theorem dX10_noTooth_7 : decode cX10_noTooth 7 = .ok (.i2l, 1) := by decide +kernel
theorem dX10_noTooth_8 : decode cX10_noTooth 8 = .ok (.lconst 1, 1) := by decide +kernel
theorem dX10_noTooth_9 : decode cX10_noTooth 9 = .ok (.lsub, 1) := by decide +kernel
theorem dX10_noTooth_10 : decode cX10_noTooth 10 = .ok (.invokestatic 105, 3) := by decide +kernel
theorem dX10_noTooth_13 : decode cX10_noTooth 13 = .ok (.ifCond .ne 7, 3) := by decide +kernel
theorem dX10_noTooth_16 : decode cX10_noTooth 16 = .ok (.iconst 1, 1) := by decide +kernel
theorem dX10_noTooth_17 : decode cX10_noTooth 17 = .ok (.goto 4, 3) := by decide +kernel
theorem dX10_noTooth_20 : decode cX10_noTooth 20 = .ok (.iconst 0, 1) := by decide +kernel
theorem dX10_noTooth_21 : decode cX10_noTooth 21 = .ok (.ireturn, 1) := by decide +kernel
theorem dX10_sideBy_0 : decode cX10_sideBy 0 = .ok (.iload_n 0, 1) := by decide +kernel
theorem dX10_sideBy_1 : decode cX10_sideBy 1 = .ok (.bipush 108, 2) := by decide +kernel
theorem dX10_sideBy_3 : decode cX10_sideBy 3 = .ok (.if_icmp .ne 7, 3) := by decide +kernel
theorem dX10_sideBy_6 : decode cX10_sideBy 6 = .ok (.iconst (-1), 1) := by decide +kernel
theorem dX10_sideBy_7 : decode cX10_sideBy 7 = .ok (.goto 25, 3) := by decide +kernel
theorem dX10_sideBy_10 : decode cX10_sideBy 10 = .ok (.iload_n 0, 1) := by decide +kernel
theorem dX10_sideBy_11 : decode cX10_sideBy 11 = .ok (.bipush 99, 2) := by decide +kernel
theorem dX10_sideBy_13 : decode cX10_sideBy 13 = .ok (.if_icmp .ne 7, 3) := by decide +kernel
theorem dX10_sideBy_16 : decode cX10_sideBy 16 = .ok (.iconst 0, 1) := by decide +kernel
theorem dX10_sideBy_17 : decode cX10_sideBy 17 = .ok (.goto 15, 3) := by decide +kernel
theorem dX10_sideBy_20 : decode cX10_sideBy 20 = .ok (.iload_n 0, 1) := by decide +kernel
theorem dX10_sideBy_21 : decode cX10_sideBy 21 = .ok (.bipush 114, 2) := by decide +kernel
theorem dX10_sideBy_23 : decode cX10_sideBy 23 = .ok (.if_icmp .ne 7, 3) := by decide +kernel
theorem dX10_sideBy_26 : decode cX10_sideBy 26 = .ok (.iconst 1, 1) := by decide +kernel
theorem dX10_sideBy_27 : decode cX10_sideBy 27 = .ok (.goto 5, 3) := by decide +kernel
theorem dX10_sideBy_30 : decode cX10_sideBy 30 = .ok (.bipush (-9), 2) := by decide +kernel
theorem dX10_sideBy_32 : decode cX10_sideBy 32 = .ok (.ireturn, 1) := by decide +kernel
theorem dX10_readsFigures_0 : decode cX10_readsFigures 0 = .ok (.iconst 0, 1) := by decide +kernel
theorem dX10_readsFigures_1 : decode cX10_readsFigures 1 = .ok (.istore 4, 2) := by decide +kernel
theorem dX10_readsFigures_3 : decode cX10_readsFigures 3 = .ok (.iload 4, 2) := by decide +kernel
theorem dX10_readsFigures_5 : decode cX10_readsFigures 5 = .ok (.iconst 3, 1) := by decide +kernel
theorem dX10_readsFigures_6 : decode cX10_readsFigures 6 = .ok (.if_icmp .ge 76, 3) := by decide +kernel
theorem dX10_readsFigures_9 : decode cX10_readsFigures 9 = .ok (.aload_n 0, 1) := by decide +kernel
theorem dX10_readsFigures_10 : decode cX10_readsFigures 10 = .ok (.getfield 119, 3) := by decide +kernel
theorem dX10_readsFigures_13 : decode cX10_readsFigures 13 = .ok (.iload_n 2, 1) := by decide +kernel
theorem dX10_readsFigures_14 : decode cX10_readsFigures 14 = .ok (.if_icmp .ge 20, 3) := by decide +kernel
theorem dX10_readsFigures_17 : decode cX10_readsFigures 17 = .ok (.aload_n 0, 1) := by decide +kernel
theorem dX10_readsFigures_18 : decode cX10_readsFigures 18 = .ok (.getfield 79, 3) := by decide +kernel
theorem dX10_readsFigures_21 : decode cX10_readsFigures 21 = .ok (.iload_n 1, 1) := by decide +kernel
theorem dX10_readsFigures_22 : decode cX10_readsFigures 22 = .ok (.aload_n 0, 1) := by decide +kernel
theorem dX10_readsFigures_23 : decode cX10_readsFigures 23 = .ok (.getfield 119, 3) := by decide +kernel
theorem dX10_readsFigures_26 : decode cX10_readsFigures 26 = .ok (.iadd, 1) := by decide +kernel
theorem dX10_readsFigures_27 : decode cX10_readsFigures 27 = .ok (.iaload, 1) := by decide +kernel
theorem dX10_readsFigures_28 : decode cX10_readsFigures 28 = .ok (.bipush 48, 2) := by decide +kernel
theorem dX10_readsFigures_30 : decode cX10_readsFigures 30 = .ok (.isub, 1) := by decide +kernel
theorem dX10_readsFigures_31 : decode cX10_readsFigures 31 = .ok (.goto 5, 3) := by decide +kernel
theorem dX10_readsFigures_34 : decode cX10_readsFigures 34 = .ok (.bipush (-9), 2) := by decide +kernel
theorem dX10_readsFigures_36 : decode cX10_readsFigures 36 = .ok (.istore 5, 2) := by decide +kernel
theorem dX10_readsFigures_38 : decode cX10_readsFigures 38 = .ok (.iload 5, 2) := by decide +kernel
theorem dX10_readsFigures_40 : decode cX10_readsFigures 40 = .ok (.i2l, 1) := by decide +kernel
theorem dX10_readsFigures_41 : decode cX10_readsFigures 41 = .ok (.lconst 0, 1) := by decide +kernel
theorem dX10_readsFigures_42 : decode cX10_readsFigures 42 = .ok (.ldc2_w 122, 3) := by decide +kernel
theorem dX10_readsFigures_45 : decode cX10_readsFigures 45 = .ok (.invokestatic 105, 3) := by decide +kernel
theorem dX10_readsFigures_48 : decode cX10_readsFigures 48 = .ok (.ifCond .ne 5, 3) := by decide +kernel
theorem dX10_readsFigures_51 : decode cX10_readsFigures 51 = .ok (.iconst 0, 1) := by decide +kernel
theorem dX10_readsFigures_52 : decode cX10_readsFigures 52 = .ok (.ireturn, 1) := by decide +kernel
theorem dX10_readsFigures_53 : decode cX10_readsFigures 53 = .ok (.aload_n 0, 1) := by decide +kernel
theorem dX10_readsFigures_54 : decode cX10_readsFigures 54 = .ok (.getfield 31, 3) := by decide +kernel
theorem dX10_readsFigures_57 : decode cX10_readsFigures 57 = .ok (.iconst 3, 1) := by decide +kernel
theorem dX10_readsFigures_58 : decode cX10_readsFigures 58 = .ok (.iload_n 3, 1) := by decide +kernel
theorem dX10_readsFigures_59 : decode cX10_readsFigures 59 = .ok (.imul, 1) := by decide +kernel
theorem dX10_readsFigures_60 : decode cX10_readsFigures 60 = .ok (.iload 4, 2) := by decide +kernel
theorem dX10_readsFigures_62 : decode cX10_readsFigures 62 = .ok (.iadd, 1) := by decide +kernel
theorem dX10_readsFigures_63 : decode cX10_readsFigures 63 = .ok (.iload 5, 2) := by decide +kernel
theorem dX10_readsFigures_65 : decode cX10_readsFigures 65 = .ok (.iastore, 1) := by decide +kernel
theorem dX10_readsFigures_66 : decode cX10_readsFigures 66 = .ok (.aload_n 0, 1) := by decide +kernel
theorem dX10_readsFigures_67 : decode cX10_readsFigures 67 = .ok (.dup, 1) := by decide +kernel
theorem dX10_readsFigures_68 : decode cX10_readsFigures 68 = .ok (.getfield 119, 3) := by decide +kernel
theorem dX10_readsFigures_71 : decode cX10_readsFigures 71 = .ok (.iconst 1, 1) := by decide +kernel
theorem dX10_readsFigures_72 : decode cX10_readsFigures 72 = .ok (.iadd, 1) := by decide +kernel
theorem dX10_readsFigures_73 : decode cX10_readsFigures 73 = .ok (.putfield 119, 3) := by decide +kernel
theorem dX10_readsFigures_76 : decode cX10_readsFigures 76 = .ok (.iinc 4 1, 3) := by decide +kernel
theorem dX10_readsFigures_79 : decode cX10_readsFigures 79 = .ok (.goto (-76), 3) := by decide +kernel
theorem dX10_readsFigures_82 : decode cX10_readsFigures 82 = .ok (.iconst 1, 1) := by decide +kernel
theorem dX10_readsFigures_83 : decode cX10_readsFigures 83 = .ok (.ireturn, 1) := by decide +kernel
theorem dX10_readsSaw_0 : decode cX10_readsSaw 0 = .ok (.aload_n 0, 1) := by decide +kernel
theorem dX10_readsSaw_1 : decode cX10_readsSaw 1 = .ok (.iconst 0, 1) := by decide +kernel
theorem dX10_readsSaw_2 : decode cX10_readsSaw 2 = .ok (.putfield 119, 3) := by decide +kernel
theorem dX10_readsSaw_5 : decode cX10_readsSaw 5 = .ok (.aload_n 0, 1) := by decide +kernel
theorem dX10_readsSaw_6 : decode cX10_readsSaw 6 = .ok (.iconst 0, 1) := by decide +kernel
theorem dX10_readsSaw_7 : decode cX10_readsSaw 7 = .ok (.putfield 124, 3) := by decide +kernel
theorem dX10_readsSaw_10 : decode cX10_readsSaw 10 = .ok (.aload_n 0, 1) := by decide +kernel
theorem dX10_readsSaw_11 : decode cX10_readsSaw 11 = .ok (.getfield 124, 3) := by decide +kernel
theorem dX10_readsSaw_14 : decode cX10_readsSaw 14 = .ok (.ifCond .eq 11, 3) := by decide +kernel
theorem dX10_readsSaw_17 : decode cX10_readsSaw 17 = .ok (.aload_n 0, 1) := by decide +kernel
theorem dX10_readsSaw_18 : decode cX10_readsSaw 18 = .ok (.getfield 119, 3) := by decide +kernel
theorem dX10_readsSaw_21 : decode cX10_readsSaw 21 = .ok (.iload_n 2, 1) := by decide +kernel
theorem dX10_readsSaw_22 : decode cX10_readsSaw 22 = .ok (.if_icmp .ge 212, 3) := by decide +kernel
theorem dX10_readsSaw_25 : decode cX10_readsSaw 25 = .ok (.aload_n 0, 1) := by decide +kernel
theorem dX10_readsSaw_26 : decode cX10_readsSaw 26 = .ok (.getfield 124, 3) := by decide +kernel
theorem dX10_readsSaw_29 : decode cX10_readsSaw 29 = .ok (.ifCond .le 40, 3) := by decide +kernel
theorem dX10_readsSaw_32 : decode cX10_readsSaw 32 = .ok (.aload_n 0, 1) := by decide +kernel
theorem dX10_readsSaw_33 : decode cX10_readsSaw 33 = .ok (.getfield 124, 3) := by decide +kernel
theorem dX10_readsSaw_36 : decode cX10_readsSaw 36 = .ok (.bipush 8, 2) := by decide +kernel
theorem dX10_readsSaw_38 : decode cX10_readsSaw 38 = .ok (.if_icmp .eq 19, 3) := by decide +kernel
theorem dX10_readsSaw_41 : decode cX10_readsSaw 41 = .ok (.aload_n 0, 1) := by decide +kernel
theorem dX10_readsSaw_42 : decode cX10_readsSaw 42 = .ok (.getfield 79, 3) := by decide +kernel
theorem dX10_readsSaw_45 : decode cX10_readsSaw 45 = .ok (.iload_n 1, 1) := by decide +kernel
theorem dX10_readsSaw_46 : decode cX10_readsSaw 46 = .ok (.aload_n 0, 1) := by decide +kernel
theorem dX10_readsSaw_47 : decode cX10_readsSaw 47 = .ok (.getfield 119, 3) := by decide +kernel
theorem dX10_readsSaw_50 : decode cX10_readsSaw 50 = .ok (.iadd, 1) := by decide +kernel
theorem dX10_readsSaw_51 : decode cX10_readsSaw 51 = .ok (.iaload, 1) := by decide +kernel
theorem dX10_readsSaw_52 : decode cX10_readsSaw 52 = .ok (.bipush 59, 2) := by decide +kernel
theorem dX10_readsSaw_54 : decode cX10_readsSaw 54 = .ok (.if_icmp .eq 5, 3) := by decide +kernel
theorem dX10_readsSaw_57 : decode cX10_readsSaw 57 = .ok (.iconst 0, 1) := by decide +kernel
theorem dX10_readsSaw_58 : decode cX10_readsSaw 58 = .ok (.ireturn, 1) := by decide +kernel
theorem dX10_readsSaw_59 : decode cX10_readsSaw 59 = .ok (.aload_n 0, 1) := by decide +kernel
theorem dX10_readsSaw_60 : decode cX10_readsSaw 60 = .ok (.dup, 1) := by decide +kernel
theorem dX10_readsSaw_61 : decode cX10_readsSaw 61 = .ok (.getfield 119, 3) := by decide +kernel
theorem dX10_readsSaw_64 : decode cX10_readsSaw 64 = .ok (.iconst 1, 1) := by decide +kernel
theorem dX10_readsSaw_65 : decode cX10_readsSaw 65 = .ok (.iadd, 1) := by decide +kernel
theorem dX10_readsSaw_66 : decode cX10_readsSaw 66 = .ok (.putfield 119, 3) := by decide +kernel
theorem dX10_readsSaw_69 : decode cX10_readsSaw 69 = .ok (.aload_n 0, 1) := by decide +kernel
theorem dX10_readsSaw_70 : decode cX10_readsSaw 70 = .ok (.getfield 119, 3) := by decide +kernel
theorem dX10_readsSaw_73 : decode cX10_readsSaw 73 = .ok (.iload_n 2, 1) := by decide +kernel
theorem dX10_readsSaw_74 : decode cX10_readsSaw 74 = .ok (.if_icmp .ge 20, 3) := by decide +kernel
theorem dX10_readsSaw_77 : decode cX10_readsSaw 77 = .ok (.aload_n 0, 1) := by decide +kernel
theorem dX10_readsSaw_78 : decode cX10_readsSaw 78 = .ok (.getfield 79, 3) := by decide +kernel
theorem dX10_readsSaw_81 : decode cX10_readsSaw 81 = .ok (.iload_n 1, 1) := by decide +kernel
theorem dX10_readsSaw_82 : decode cX10_readsSaw 82 = .ok (.aload_n 0, 1) := by decide +kernel
theorem dX10_readsSaw_83 : decode cX10_readsSaw 83 = .ok (.getfield 119, 3) := by decide +kernel
theorem dX10_readsSaw_86 : decode cX10_readsSaw 86 = .ok (.iadd, 1) := by decide +kernel
theorem dX10_readsSaw_87 : decode cX10_readsSaw 87 = .ok (.iaload, 1) := by decide +kernel
theorem dX10_readsSaw_88 : decode cX10_readsSaw 88 = .ok (.invokestatic 127, 3) := by decide +kernel
theorem dX10_readsSaw_91 : decode cX10_readsSaw 91 = .ok (.goto 5, 3) := by decide +kernel
theorem dX10_readsSaw_94 : decode cX10_readsSaw 94 = .ok (.bipush (-9), 2) := by decide +kernel
theorem dX10_readsSaw_96 : decode cX10_readsSaw 96 = .ok (.istore_n 3, 1) := by decide +kernel
theorem dX10_readsSaw_97 : decode cX10_readsSaw 97 = .ok (.iload_n 3, 1) := by decide +kernel
theorem dX10_readsSaw_98 : decode cX10_readsSaw 98 = .ok (.bipush (-9), 2) := by decide +kernel
theorem dX10_readsSaw_100 : decode cX10_readsSaw 100 = .ok (.if_icmp .ne 5, 3) := by decide +kernel
theorem dX10_readsSaw_103 : decode cX10_readsSaw 103 = .ok (.iconst 0, 1) := by decide +kernel
theorem dX10_readsSaw_104 : decode cX10_readsSaw 104 = .ok (.ireturn, 1) := by decide +kernel
theorem dX10_readsSaw_105 : decode cX10_readsSaw 105 = .ok (.aload_n 0, 1) := by decide +kernel
theorem dX10_readsSaw_106 : decode cX10_readsSaw 106 = .ok (.dup, 1) := by decide +kernel
theorem dX10_readsSaw_107 : decode cX10_readsSaw 107 = .ok (.getfield 119, 3) := by decide +kernel
theorem dX10_readsSaw_110 : decode cX10_readsSaw 110 = .ok (.iconst 1, 1) := by decide +kernel
theorem dX10_readsSaw_111 : decode cX10_readsSaw 111 = .ok (.iadd, 1) := by decide +kernel
theorem dX10_readsSaw_112 : decode cX10_readsSaw 112 = .ok (.putfield 119, 3) := by decide +kernel
theorem dX10_readsSaw_115 : decode cX10_readsSaw 115 = .ok (.aload_n 0, 1) := by decide +kernel
theorem dX10_readsSaw_116 : decode cX10_readsSaw 116 = .ok (.iload_n 1, 1) := by decide +kernel
theorem dX10_readsSaw_117 : decode cX10_readsSaw 117 = .ok (.iload_n 2, 1) := by decide +kernel
theorem dX10_readsSaw_118 : decode cX10_readsSaw 118 = .ok (.aload_n 0, 1) := by decide +kernel
theorem dX10_readsSaw_119 : decode cX10_readsSaw 119 = .ok (.getfield 124, 3) := by decide +kernel
theorem dX10_readsSaw_122 : decode cX10_readsSaw 122 = .ok (.invokevirtual 130, 3) := by decide +kernel
theorem dX10_readsSaw_125 : decode cX10_readsSaw 125 = .ok (.ifCond .ne 5, 3) := by decide +kernel
theorem dX10_readsSaw_128 : decode cX10_readsSaw 128 = .ok (.iconst 0, 1) := by decide +kernel
theorem dX10_readsSaw_129 : decode cX10_readsSaw 129 = .ok (.ireturn, 1) := by decide +kernel
theorem dX10_readsSaw_130 : decode cX10_readsSaw 130 = .ok (.iload_n 3, 1) := by decide +kernel
theorem dX10_readsSaw_131 : decode cX10_readsSaw 131 = .ok (.ifCond .eq 31, 3) := by decide +kernel
theorem dX10_readsSaw_134 : decode cX10_readsSaw 134 = .ok (.aload_n 0, 1) := by decide +kernel
theorem dX10_readsSaw_135 : decode cX10_readsSaw 135 = .ok (.getfield 119, 3) := by decide +kernel
theorem dX10_readsSaw_138 : decode cX10_readsSaw 138 = .ok (.iload_n 2, 1) := by decide +kernel
theorem dX10_readsSaw_139 : decode cX10_readsSaw 139 = .ok (.if_icmp .ge 23, 3) := by decide +kernel
theorem dX10_readsSaw_142 : decode cX10_readsSaw 142 = .ok (.aload_n 0, 1) := by decide +kernel
theorem dX10_readsSaw_143 : decode cX10_readsSaw 143 = .ok (.getfield 79, 3) := by decide +kernel
theorem dX10_readsSaw_146 : decode cX10_readsSaw 146 = .ok (.iload_n 1, 1) := by decide +kernel
theorem dX10_readsSaw_147 : decode cX10_readsSaw 147 = .ok (.aload_n 0, 1) := by decide +kernel
theorem dX10_readsSaw_148 : decode cX10_readsSaw 148 = .ok (.getfield 119, 3) := by decide +kernel
theorem dX10_readsSaw_151 : decode cX10_readsSaw 151 = .ok (.iadd, 1) := by decide +kernel
theorem dX10_readsSaw_152 : decode cX10_readsSaw 152 = .ok (.iaload, 1) := by decide +kernel
theorem dX10_readsSaw_153 : decode cX10_readsSaw 153 = .ok (.bipush 104, 2) := by decide +kernel
theorem dX10_readsSaw_155 : decode cX10_readsSaw 155 = .ok (.if_icmp .ne 7, 3) := by decide +kernel
theorem dX10_readsSaw_158 : decode cX10_readsSaw 158 = .ok (.iconst 1, 1) := by decide +kernel
theorem dX10_readsSaw_159 : decode cX10_readsSaw 159 = .ok (.goto 4, 3) := by decide +kernel
theorem dX10_readsSaw_162 : decode cX10_readsSaw 162 = .ok (.iconst 0, 1) := by decide +kernel
theorem dX10_readsSaw_163 : decode cX10_readsSaw 163 = .ok (.istore 4, 2) := by decide +kernel
theorem dX10_readsSaw_165 : decode cX10_readsSaw 165 = .ok (.aload_n 0, 1) := by decide +kernel
theorem dX10_readsSaw_166 : decode cX10_readsSaw 166 = .ok (.dup, 1) := by decide +kernel
theorem dX10_readsSaw_167 : decode cX10_readsSaw 167 = .ok (.getfield 119, 3) := by decide +kernel
theorem dX10_readsSaw_170 : decode cX10_readsSaw 170 = .ok (.iload 4, 2) := by decide +kernel
theorem dX10_readsSaw_172 : decode cX10_readsSaw 172 = .ok (.ifCond .eq 7, 3) := by decide +kernel
theorem dX10_readsSaw_175 : decode cX10_readsSaw 175 = .ok (.iconst 1, 1) := by decide +kernel
theorem dX10_readsSaw_176 : decode cX10_readsSaw 176 = .ok (.goto 4, 3) := by decide +kernel
theorem dX10_readsSaw_179 : decode cX10_readsSaw 179 = .ok (.iconst 0, 1) := by decide +kernel
theorem dX10_readsSaw_180 : decode cX10_readsSaw 180 = .ok (.iadd, 1) := by decide +kernel
theorem dX10_readsSaw_181 : decode cX10_readsSaw 181 = .ok (.putfield 119, 3) := by decide +kernel
theorem dX10_readsSaw_184 : decode cX10_readsSaw 184 = .ok (.aload_n 0, 1) := by decide +kernel
theorem dX10_readsSaw_185 : decode cX10_readsSaw 185 = .ok (.getfield 28, 3) := by decide +kernel
theorem dX10_readsSaw_188 : decode cX10_readsSaw 188 = .ok (.aload_n 0, 1) := by decide +kernel
theorem dX10_readsSaw_189 : decode cX10_readsSaw 189 = .ok (.getfield 124, 3) := by decide +kernel
theorem dX10_readsSaw_192 : decode cX10_readsSaw 192 = .ok (.iload_n 3, 1) := by decide +kernel
theorem dX10_readsSaw_193 : decode cX10_readsSaw 193 = .ok (.iastore, 1) := by decide +kernel
theorem dX10_readsSaw_194 : decode cX10_readsSaw 194 = .ok (.aload_n 0, 1) := by decide +kernel
theorem dX10_readsSaw_195 : decode cX10_readsSaw 195 = .ok (.getfield 25, 3) := by decide +kernel
theorem dX10_readsSaw_198 : decode cX10_readsSaw 198 = .ok (.aload_n 0, 1) := by decide +kernel
theorem dX10_readsSaw_199 : decode cX10_readsSaw 199 = .ok (.getfield 124, 3) := by decide +kernel
theorem dX10_readsSaw_202 : decode cX10_readsSaw 202 = .ok (.iload_n 3, 1) := by decide +kernel
theorem dX10_readsSaw_203 : decode cX10_readsSaw 203 = .ok (.ifCond .ne 7, 3) := by decide +kernel
theorem dX10_readsSaw_206 : decode cX10_readsSaw 206 = .ok (.iconst 0, 1) := by decide +kernel
theorem dX10_readsSaw_207 : decode cX10_readsSaw 207 = .ok (.goto 13, 3) := by decide +kernel
theorem dX10_readsSaw_210 : decode cX10_readsSaw 210 = .ok (.iload 4, 2) := by decide +kernel
theorem dX10_readsSaw_212 : decode cX10_readsSaw 212 = .ok (.ifCond .eq 7, 3) := by decide +kernel
theorem dX10_readsSaw_215 : decode cX10_readsSaw 215 = .ok (.iconst 2, 1) := by decide +kernel
theorem dX10_readsSaw_216 : decode cX10_readsSaw 216 = .ok (.goto 4, 3) := by decide +kernel
theorem dX10_readsSaw_219 : decode cX10_readsSaw 219 = .ok (.iconst 1, 1) := by decide +kernel
theorem dX10_readsSaw_220 : decode cX10_readsSaw 220 = .ok (.iastore, 1) := by decide +kernel
theorem dX10_readsSaw_221 : decode cX10_readsSaw 221 = .ok (.aload_n 0, 1) := by decide +kernel
theorem dX10_readsSaw_222 : decode cX10_readsSaw 222 = .ok (.dup, 1) := by decide +kernel
theorem dX10_readsSaw_223 : decode cX10_readsSaw 223 = .ok (.getfield 124, 3) := by decide +kernel
theorem dX10_readsSaw_226 : decode cX10_readsSaw 226 = .ok (.iconst 1, 1) := by decide +kernel
theorem dX10_readsSaw_227 : decode cX10_readsSaw 227 = .ok (.iadd, 1) := by decide +kernel
theorem dX10_readsSaw_228 : decode cX10_readsSaw 228 = .ok (.putfield 124, 3) := by decide +kernel
theorem dX10_readsSaw_231 : decode cX10_readsSaw 231 = .ok (.goto (-221), 3) := by decide +kernel
theorem dX10_readsSaw_234 : decode cX10_readsSaw 234 = .ok (.iconst 1, 1) := by decide +kernel
theorem dX10_readsSaw_235 : decode cX10_readsSaw 235 = .ok (.ireturn, 1) := by decide +kernel
theorem dX10_saw_0 : decode cX10_saw 0 = .ok (.aload_n 0, 1) := by decide +kernel
theorem dX10_saw_1 : decode cX10_saw 1 = .ok (.iload_n 1, 1) := by decide +kernel
theorem dX10_saw_2 : decode cX10_saw 2 = .ok (.iload_n 2, 1) := by decide +kernel
theorem dX10_saw_3 : decode cX10_saw 3 = .ok (.iload_n 3, 1) := by decide +kernel
theorem dX10_saw_4 : decode cX10_saw 4 = .ok (.iload 4, 2) := by decide +kernel
theorem dX10_saw_6 : decode cX10_saw 6 = .ok (.i2l, 1) := by decide +kernel
theorem dX10_saw_7 : decode cX10_saw 7 = .ok (.invokevirtual 134, 3) := by decide +kernel
theorem dX10_saw_10 : decode cX10_saw 10 = .ok (.istore 5, 2) := by decide +kernel
theorem dX10_saw_12 : decode cX10_saw 12 = .ok (.iload 5, 2) := by decide +kernel
theorem dX10_saw_14 : decode cX10_saw 14 = .ok (.ifCond .ge 6, 3) := by decide +kernel
theorem dX10_saw_17 : decode cX10_saw 17 = .ok (.iload 5, 2) := by decide +kernel
theorem dX10_saw_19 : decode cX10_saw 19 = .ok (.ireturn, 1) := by decide +kernel
theorem dX10_saw_20 : decode cX10_saw 20 = .ok (.aload_n 0, 1) := by decide +kernel
theorem dX10_saw_21 : decode cX10_saw 21 = .ok (.bipush 80, 2) := by decide +kernel
theorem dX10_saw_23 : decode cX10_saw 23 = .ok (.iload_n 1, 1) := by decide +kernel
theorem dX10_saw_24 : decode cX10_saw 24 = .ok (.imul, 1) := by decide +kernel
theorem dX10_saw_25 : decode cX10_saw 25 = .ok (.iload_n 3, 1) := by decide +kernel
theorem dX10_saw_26 : decode cX10_saw 26 = .ok (.iadd, 1) := by decide +kernel
theorem dX10_saw_27 : decode cX10_saw 27 = .ok (.iload 4, 2) := by decide +kernel
theorem dX10_saw_29 : decode cX10_saw 29 = .ok (.invokevirtual 138, 3) := by decide +kernel
theorem dX10_saw_32 : decode cX10_saw 32 = .ok (.ifCond .ne 15, 3) := by decide +kernel
theorem dX10_saw_35 : decode cX10_saw 35 = .ok (.aload_n 0, 1) := by decide +kernel
theorem dX10_saw_36 : decode cX10_saw 36 = .ok (.bipush (-100), 2) := by decide +kernel
theorem dX10_saw_38 : decode cX10_saw 38 = .ok (.aload_n 0, 1) := by decide +kernel
theorem dX10_saw_39 : decode cX10_saw 39 = .ok (.getfield 119, 3) := by decide +kernel
theorem dX10_saw_42 : decode cX10_saw 42 = .ok (.isub, 1) := by decide +kernel
theorem dX10_saw_43 : decode cX10_saw 43 = .ok (.invokevirtual 99, 3) := by decide +kernel
