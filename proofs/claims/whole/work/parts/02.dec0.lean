theorem dX0_init_0 : decode cX0_init 0 = .ok (.aload_n 0, 1) := by decide +kernel
theorem dX0_init_1 : decode cX0_init 1 = .ok (.invokespecial 3, 3) := by decide +kernel
theorem dX0_init_4 : decode cX0_init 4 = .ok (.aload_n 0, 1) := by decide +kernel
theorem dX0_init_5 : decode cX0_init 5 = .ok (.iconst 0, 1) := by decide +kernel
theorem dX0_init_6 : decode cX0_init 6 = .ok (.putfield 9, 3) := by decide +kernel
theorem dX0_init_9 : decode cX0_init 9 = .ok (.aload_n 0, 1) := by decide +kernel
theorem dX0_init_10 : decode cX0_init 10 = .ok (.bipush 24, 2) := by decide +kernel
theorem dX0_init_12 : decode cX0_init 12 = .ok (.newarray .int, 2) := by decide +kernel
theorem dX0_init_14 : decode cX0_init 14 = .ok (.putfield 15, 3) := by decide +kernel
theorem dX0_init_17 : decode cX0_init 17 = .ok (.aload_n 0, 1) := by decide +kernel
theorem dX0_init_18 : decode cX0_init 18 = .ok (.bipush 24, 2) := by decide +kernel
theorem dX0_init_20 : decode cX0_init 20 = .ok (.newarray .int, 2) := by decide +kernel
theorem dX0_init_22 : decode cX0_init 22 = .ok (.putfield 19, 3) := by decide +kernel
theorem dX0_init_25 : decode cX0_init 25 = .ok (.aload_n 0, 1) := by decide +kernel
theorem dX0_init_26 : decode cX0_init 26 = .ok (.bipush 24, 2) := by decide +kernel
theorem dX0_init_28 : decode cX0_init 28 = .ok (.newarray .int, 2) := by decide +kernel
theorem dX0_init_30 : decode cX0_init 30 = .ok (.putfield 22, 3) := by decide +kernel
theorem dX0_init_33 : decode cX0_init 33 = .ok (.return_, 1) := by decide +kernel
theorem dX0_has_0 : decode cX0_has 0 = .ok (.iload_n 1, 1) := by decide +kernel
theorem dX0_has_1 : decode cX0_has 1 = .ok (.ifCond .lt 21, 3) := by decide +kernel
theorem dX0_has_4 : decode cX0_has 4 = .ok (.iload_n 1, 1) := by decide +kernel
theorem dX0_has_5 : decode cX0_has 5 = .ok (.aload_n 0, 1) := by decide +kernel
theorem dX0_has_6 : decode cX0_has 6 = .ok (.getfield 9, 3) := by decide +kernel
theorem dX0_has_9 : decode cX0_has 9 = .ok (.if_icmp .ge 13, 3) := by decide +kernel
theorem dX0_has_12 : decode cX0_has 12 = .ok (.iload_n 1, 1) := by decide +kernel
theorem dX0_has_13 : decode cX0_has 13 = .ok (.bipush 24, 2) := by decide +kernel
theorem dX0_has_15 : decode cX0_has 15 = .ok (.if_icmp .ge 7, 3) := by decide +kernel
theorem dX0_has_18 : decode cX0_has 18 = .ok (.iconst 1, 1) := by decide +kernel
theorem dX0_has_19 : decode cX0_has 19 = .ok (.goto 4, 3) := by decide +kernel
theorem dX0_has_22 : decode cX0_has 22 = .ok (.iconst 0, 1) := by decide +kernel
theorem dX0_has_23 : decode cX0_has 23 = .ok (.ireturn, 1) := by decide +kernel
theorem dX0_hardOf_0 : decode cX0_hardOf 0 = .ok (.aload_n 0, 1) := by decide +kernel
theorem dX0_hardOf_1 : decode cX0_hardOf 1 = .ok (.iload_n 1, 1) := by decide +kernel
theorem dX0_hardOf_2 : decode cX0_hardOf 2 = .ok (.invokevirtual 25, 3) := by decide +kernel
theorem dX0_hardOf_5 : decode cX0_hardOf 5 = .ok (.ifCond .eq 12, 3) := by decide +kernel
theorem dX0_hardOf_8 : decode cX0_hardOf 8 = .ok (.aload_n 0, 1) := by decide +kernel
theorem dX0_hardOf_9 : decode cX0_hardOf 9 = .ok (.getfield 15, 3) := by decide +kernel
theorem dX0_hardOf_12 : decode cX0_hardOf 12 = .ok (.iload_n 1, 1) := by decide +kernel
theorem dX0_hardOf_13 : decode cX0_hardOf 13 = .ok (.iaload, 1) := by decide +kernel
theorem dX0_hardOf_14 : decode cX0_hardOf 14 = .ok (.goto 4, 3) := by decide +kernel
theorem dX0_hardOf_17 : decode cX0_hardOf 17 = .ok (.iconst 0, 1) := by decide +kernel
theorem dX0_hardOf_18 : decode cX0_hardOf 18 = .ok (.ireturn, 1) := by decide +kernel
theorem dX0_grainOf_0 : decode cX0_grainOf 0 = .ok (.aload_n 0, 1) := by decide +kernel
theorem dX0_grainOf_1 : decode cX0_grainOf 1 = .ok (.iload_n 1, 1) := by decide +kernel
theorem dX0_grainOf_2 : decode cX0_grainOf 2 = .ok (.invokevirtual 25, 3) := by decide +kernel
theorem dX0_grainOf_5 : decode cX0_grainOf 5 = .ok (.ifCond .eq 12, 3) := by decide +kernel
theorem dX0_grainOf_8 : decode cX0_grainOf 8 = .ok (.aload_n 0, 1) := by decide +kernel
theorem dX0_grainOf_9 : decode cX0_grainOf 9 = .ok (.getfield 19, 3) := by decide +kernel
theorem dX0_grainOf_12 : decode cX0_grainOf 12 = .ok (.iload_n 1, 1) := by decide +kernel
theorem dX0_grainOf_13 : decode cX0_grainOf 13 = .ok (.iaload, 1) := by decide +kernel
theorem dX0_grainOf_14 : decode cX0_grainOf 14 = .ok (.goto 4, 3) := by decide +kernel
theorem dX0_grainOf_17 : decode cX0_grainOf 17 = .ok (.iconst 0, 1) := by decide +kernel
theorem dX0_grainOf_18 : decode cX0_grainOf 18 = .ok (.ireturn, 1) := by decide +kernel
theorem dX0_closesOf_0 : decode cX0_closesOf 0 = .ok (.aload_n 0, 1) := by decide +kernel
theorem dX0_closesOf_1 : decode cX0_closesOf 1 = .ok (.iload_n 1, 1) := by decide +kernel
theorem dX0_closesOf_2 : decode cX0_closesOf 2 = .ok (.invokevirtual 25, 3) := by decide +kernel
theorem dX0_closesOf_5 : decode cX0_closesOf 5 = .ok (.ifCond .eq 12, 3) := by decide +kernel
theorem dX0_closesOf_8 : decode cX0_closesOf 8 = .ok (.aload_n 0, 1) := by decide +kernel
theorem dX0_closesOf_9 : decode cX0_closesOf 9 = .ok (.getfield 22, 3) := by decide +kernel
theorem dX0_closesOf_12 : decode cX0_closesOf 12 = .ok (.iload_n 1, 1) := by decide +kernel
theorem dX0_closesOf_13 : decode cX0_closesOf 13 = .ok (.iaload, 1) := by decide +kernel
theorem dX0_closesOf_14 : decode cX0_closesOf 14 = .ok (.goto 4, 3) := by decide +kernel
theorem dX0_closesOf_17 : decode cX0_closesOf 17 = .ok (.iconst 0, 1) := by decide +kernel
theorem dX0_closesOf_18 : decode cX0_closesOf 18 = .ok (.ireturn, 1) := by decide +kernel
theorem dX0_firstFault_0 : decode cX0_firstFault 0 = .ok (.iconst 0, 1) := by decide +kernel
theorem dX0_firstFault_1 : decode cX0_firstFault 1 = .ok (.istore 4, 2) := by decide +kernel
theorem dX0_firstFault_3 : decode cX0_firstFault 3 = .ok (.iload 4, 2) := by decide +kernel
theorem dX0_firstFault_5 : decode cX0_firstFault 5 = .ok (.iload_n 3, 1) := by decide +kernel
theorem dX0_firstFault_6 : decode cX0_firstFault 6 = .ok (.if_icmp .ge 38, 3) := by decide +kernel
theorem dX0_firstFault_9 : decode cX0_firstFault 9 = .ok (.iload 4, 2) := by decide +kernel
theorem dX0_firstFault_11 : decode cX0_firstFault 11 = .ok (.bipush 72, 2) := by decide +kernel
theorem dX0_firstFault_13 : decode cX0_firstFault 13 = .ok (.if_icmp .ge 22, 3) := by decide +kernel
theorem dX0_firstFault_16 : decode cX0_firstFault 16 = .ok (.iload 4, 2) := by decide +kernel
theorem dX0_firstFault_18 : decode cX0_firstFault 18 = .ok (.iconst 3, 1) := by decide +kernel
theorem dX0_firstFault_19 : decode cX0_firstFault 19 = .ok (.irem, 1) := by decide +kernel
theorem dX0_firstFault_20 : decode cX0_firstFault 20 = .ok (.aload_n 0, 1) := by decide +kernel
theorem dX0_firstFault_21 : decode cX0_firstFault 21 = .ok (.iload_n 1, 1) := by decide +kernel
theorem dX0_firstFault_22 : decode cX0_firstFault 22 = .ok (.iload_n 2, 1) := by decide +kernel
theorem dX0_firstFault_23 : decode cX0_firstFault 23 = .ok (.iload 4, 2) := by decide +kernel
theorem dX0_firstFault_25 : decode cX0_firstFault 25 = .ok (.iadd, 1) := by decide +kernel
theorem dX0_firstFault_26 : decode cX0_firstFault 26 = .ok (.invokevirtual 29, 3) := by decide +kernel
theorem dX0_firstFault_29 : decode cX0_firstFault 29 = .ok (.invokestatic 35, 3) := by decide +kernel
theorem dX0_firstFault_32 : decode cX0_firstFault 32 = .ok (.ifCond .ne 6, 3) := by decide +kernel
theorem dX0_firstFault_35 : decode cX0_firstFault 35 = .ok (.iload 4, 2) := by decide +kernel
theorem dX0_firstFault_37 : decode cX0_firstFault 37 = .ok (.ireturn, 1) := by decide +kernel
theorem dX0_firstFault_38 : decode cX0_firstFault 38 = .ok (.iinc 4 1, 3) := by decide +kernel
theorem dX0_firstFault_41 : decode cX0_firstFault 41 = .ok (.goto (-38), 3) := by decide +kernel
theorem dX0_firstFault_44 : decode cX0_firstFault 44 = .ok (.iload_n 3, 1) := by decide +kernel
theorem dX0_firstFault_45 : decode cX0_firstFault 45 = .ok (.ifCond .le 13, 3) := by decide +kernel
theorem dX0_firstFault_48 : decode cX0_firstFault 48 = .ok (.iload_n 3, 1) := by decide +kernel
theorem dX0_firstFault_49 : decode cX0_firstFault 49 = .ok (.iconst 3, 1) := by decide +kernel
theorem dX0_firstFault_50 : decode cX0_firstFault 50 = .ok (.irem, 1) := by decide +kernel
theorem dX0_firstFault_51 : decode cX0_firstFault 51 = .ok (.ifCond .ne 7, 3) := by decide +kernel
theorem dX0_firstFault_54 : decode cX0_firstFault 54 = .ok (.iconst (-1), 1) := by decide +kernel
theorem dX0_firstFault_55 : decode cX0_firstFault 55 = .ok (.goto 4, 3) := by decide +kernel
theorem dX0_firstFault_58 : decode cX0_firstFault 58 = .ok (.iload_n 3, 1) := by decide +kernel
theorem dX0_firstFault_59 : decode cX0_firstFault 59 = .ok (.ireturn, 1) := by decide +kernel
theorem dX0_goesOnWith_0 : decode cX0_goesOnWith 0 = .ok (.iload_n 0, 1) := by decide +kernel
theorem dX0_goesOnWith_1 : decode cX0_goesOnWith 1 = .ok (.lookupswitch 63 #[(0, 27), (1, 45)], 27) := by decide +kernel
theorem dX0_goesOnWith_28 : decode cX0_goesOnWith 28 = .ok (.iload_n 1, 1) := by decide +kernel
theorem dX0_goesOnWith_29 : decode cX0_goesOnWith 29 = .ok (.bipush 49, 2) := by decide +kernel
theorem dX0_goesOnWith_31 : decode cX0_goesOnWith 31 = .ok (.if_icmp .lt 13, 3) := by decide +kernel
theorem dX0_goesOnWith_34 : decode cX0_goesOnWith 34 = .ok (.iload_n 1, 1) := by decide +kernel
theorem dX0_goesOnWith_35 : decode cX0_goesOnWith 35 = .ok (.bipush 57, 2) := by decide +kernel
theorem dX0_goesOnWith_37 : decode cX0_goesOnWith 37 = .ok (.if_icmp .gt 7, 3) := by decide +kernel
theorem dX0_goesOnWith_40 : decode cX0_goesOnWith 40 = .ok (.iconst 1, 1) := by decide +kernel
theorem dX0_goesOnWith_41 : decode cX0_goesOnWith 41 = .ok (.goto 4, 3) := by decide +kernel
theorem dX0_goesOnWith_44 : decode cX0_goesOnWith 44 = .ok (.iconst 0, 1) := by decide +kernel
theorem dX0_goesOnWith_45 : decode cX0_goesOnWith 45 = .ok (.ireturn, 1) := by decide +kernel
theorem dX0_goesOnWith_46 : decode cX0_goesOnWith 46 = .ok (.iload_n 1, 1) := by decide +kernel
theorem dX0_goesOnWith_47 : decode cX0_goesOnWith 47 = .ok (.bipush 48, 2) := by decide +kernel
theorem dX0_goesOnWith_49 : decode cX0_goesOnWith 49 = .ok (.if_icmp .lt 13, 3) := by decide +kernel
theorem dX0_goesOnWith_52 : decode cX0_goesOnWith 52 = .ok (.iload_n 1, 1) := by decide +kernel
theorem dX0_goesOnWith_53 : decode cX0_goesOnWith 53 = .ok (.bipush 56, 2) := by decide +kernel
theorem dX0_goesOnWith_55 : decode cX0_goesOnWith 55 = .ok (.if_icmp .gt 7, 3) := by decide +kernel
theorem dX0_goesOnWith_58 : decode cX0_goesOnWith 58 = .ok (.iconst 1, 1) := by decide +kernel
theorem dX0_goesOnWith_59 : decode cX0_goesOnWith 59 = .ok (.goto 4, 3) := by decide +kernel
theorem dX0_goesOnWith_62 : decode cX0_goesOnWith 62 = .ok (.iconst 0, 1) := by decide +kernel
theorem dX0_goesOnWith_63 : decode cX0_goesOnWith 63 = .ok (.ireturn, 1) := by decide +kernel
theorem dX0_goesOnWith_64 : decode cX0_goesOnWith 64 = .ok (.iload_n 1, 1) := by decide +kernel
theorem dX0_goesOnWith_65 : decode cX0_goesOnWith 65 = .ok (.bipush 48, 2) := by decide +kernel
theorem dX0_goesOnWith_67 : decode cX0_goesOnWith 67 = .ok (.if_icmp .lt 13, 3) := by decide +kernel
theorem dX0_goesOnWith_70 : decode cX0_goesOnWith 70 = .ok (.iload_n 1, 1) := by decide +kernel
theorem dX0_goesOnWith_71 : decode cX0_goesOnWith 71 = .ok (.bipush 57, 2) := by decide +kernel
theorem dX0_goesOnWith_73 : decode cX0_goesOnWith 73 = .ok (.if_icmp .gt 7, 3) := by decide +kernel
theorem dX0_goesOnWith_76 : decode cX0_goesOnWith 76 = .ok (.iconst 1, 1) := by decide +kernel
theorem dX0_goesOnWith_77 : decode cX0_goesOnWith 77 = .ok (.goto 4, 3) := by decide +kernel
theorem dX0_goesOnWith_80 : decode cX0_goesOnWith 80 = .ok (.iconst 0, 1) := by decide +kernel
theorem dX0_goesOnWith_81 : decode cX0_goesOnWith 81 = .ok (.ireturn, 1) := by decide +kernel
theorem dX0_read_0 : decode cX0_read 0 = .ok (.aload_n 0, 1) := by decide +kernel
theorem dX0_read_1 : decode cX0_read 1 = .ok (.iload 4, 2) := by decide +kernel
theorem dX0_read_3 : decode cX0_read 3 = .ok (.iconst 3, 1) := by decide +kernel
theorem dX0_read_4 : decode cX0_read 4 = .ok (.idiv, 1) := by decide +kernel
theorem dX0_read_5 : decode cX0_read 5 = .ok (.bipush 24, 2) := by decide +kernel
theorem dX0_read_7 : decode cX0_read 7 = .ok (.invokestatic 39, 3) := by decide +kernel
theorem dX0_read_10 : decode cX0_read 10 = .ok (.putfield 9, 3) := by decide +kernel
theorem dX0_read_13 : decode cX0_read 13 = .ok (.iconst 0, 1) := by decide +kernel
theorem dX0_read_14 : decode cX0_read 14 = .ok (.istore 5, 2) := by decide +kernel
theorem dX0_read_16 : decode cX0_read 16 = .ok (.iload 5, 2) := by decide +kernel
theorem dX0_read_18 : decode cX0_read 18 = .ok (.aload_n 0, 1) := by decide +kernel
theorem dX0_read_19 : decode cX0_read 19 = .ok (.getfield 9, 3) := by decide +kernel
theorem dX0_read_22 : decode cX0_read 22 = .ok (.if_icmp .ge 74, 3) := by decide +kernel
theorem dX0_read_25 : decode cX0_read 25 = .ok (.iload_n 3, 1) := by decide +kernel
theorem dX0_read_26 : decode cX0_read 26 = .ok (.iload 5, 2) := by decide +kernel
theorem dX0_read_28 : decode cX0_read 28 = .ok (.iconst 3, 1) := by decide +kernel
theorem dX0_read_29 : decode cX0_read 29 = .ok (.imul, 1) := by decide +kernel
theorem dX0_read_30 : decode cX0_read 30 = .ok (.iadd, 1) := by decide +kernel
theorem dX0_read_31 : decode cX0_read 31 = .ok (.istore 6, 2) := by decide +kernel
theorem dX0_read_33 : decode cX0_read 33 = .ok (.aload_n 0, 1) := by decide +kernel
theorem dX0_read_34 : decode cX0_read 34 = .ok (.getfield 15, 3) := by decide +kernel
theorem dX0_read_37 : decode cX0_read 37 = .ok (.iload 5, 2) := by decide +kernel
theorem dX0_read_39 : decode cX0_read 39 = .ok (.aload_n 1, 1) := by decide +kernel
theorem dX0_read_40 : decode cX0_read 40 = .ok (.iload_n 2, 1) := by decide +kernel
theorem dX0_read_41 : decode cX0_read 41 = .ok (.iload 6, 2) := by decide +kernel
theorem dX0_read_43 : decode cX0_read 43 = .ok (.invokevirtual 29, 3) := by decide +kernel
theorem dX0_read_46 : decode cX0_read 46 = .ok (.bipush 48, 2) := by decide +kernel
theorem dX0_read_48 : decode cX0_read 48 = .ok (.isub, 1) := by decide +kernel
theorem dX0_read_49 : decode cX0_read 49 = .ok (.iastore, 1) := by decide +kernel
theorem dX0_read_50 : decode cX0_read 50 = .ok (.aload_n 0, 1) := by decide +kernel
theorem dX0_read_51 : decode cX0_read 51 = .ok (.getfield 19, 3) := by decide +kernel
theorem dX0_read_54 : decode cX0_read 54 = .ok (.iload 5, 2) := by decide +kernel
theorem dX0_read_56 : decode cX0_read 56 = .ok (.aload_n 1, 1) := by decide +kernel
theorem dX0_read_57 : decode cX0_read 57 = .ok (.iload_n 2, 1) := by decide +kernel
theorem dX0_read_58 : decode cX0_read 58 = .ok (.iload 6, 2) := by decide +kernel
theorem dX0_read_60 : decode cX0_read 60 = .ok (.iconst 1, 1) := by decide +kernel
theorem dX0_read_61 : decode cX0_read 61 = .ok (.iadd, 1) := by decide +kernel
theorem dX0_read_62 : decode cX0_read 62 = .ok (.invokevirtual 29, 3) := by decide +kernel
theorem dX0_read_65 : decode cX0_read 65 = .ok (.bipush 48, 2) := by decide +kernel
theorem dX0_read_67 : decode cX0_read 67 = .ok (.isub, 1) := by decide +kernel
theorem dX0_read_68 : decode cX0_read 68 = .ok (.iconst 4, 1) := by decide +kernel
theorem dX0_read_69 : decode cX0_read 69 = .ok (.isub, 1) := by decide +kernel
theorem dX0_read_70 : decode cX0_read 70 = .ok (.iastore, 1) := by decide +kernel
theorem dX0_read_71 : decode cX0_read 71 = .ok (.aload_n 0, 1) := by decide +kernel
theorem dX0_read_72 : decode cX0_read 72 = .ok (.getfield 22, 3) := by decide +kernel
theorem dX0_read_75 : decode cX0_read 75 = .ok (.iload 5, 2) := by decide +kernel
theorem dX0_read_77 : decode cX0_read 77 = .ok (.aload_n 1, 1) := by decide +kernel
theorem dX0_read_78 : decode cX0_read 78 = .ok (.iload_n 2, 1) := by decide +kernel
theorem dX0_read_79 : decode cX0_read 79 = .ok (.iload 6, 2) := by decide +kernel
theorem dX0_read_81 : decode cX0_read 81 = .ok (.iconst 2, 1) := by decide +kernel
theorem dX0_read_82 : decode cX0_read 82 = .ok (.iadd, 1) := by decide +kernel
theorem dX0_read_83 : decode cX0_read 83 = .ok (.invokevirtual 29, 3) := by decide +kernel
theorem dX0_read_86 : decode cX0_read 86 = .ok (.bipush 48, 2) := by decide +kernel
theorem dX0_read_88 : decode cX0_read 88 = .ok (.isub, 1) := by decide +kernel
theorem dX0_read_89 : decode cX0_read 89 = .ok (.iastore, 1) := by decide +kernel
theorem dX0_read_90 : decode cX0_read 90 = .ok (.iinc 5 1, 3) := by decide +kernel
theorem dX0_read_93 : decode cX0_read 93 = .ok (.goto (-77), 3) := by decide +kernel
theorem dX0_read_96 : decode cX0_read 96 = .ok (.return_, 1) := by decide +kernel
theorem dX1_init_0 : decode cX1_init 0 = .ok (.aload_n 0, 1) := by decide +kernel
theorem dX1_init_1 : decode cX1_init 1 = .ok (.invokespecial 3, 3) := by decide +kernel
theorem dX1_init_4 : decode cX1_init 4 = .ok (.aload_n 0, 1) := by decide +kernel
theorem dX1_init_5 : decode cX1_init 5 = .ok (.iconst 0, 1) := by decide +kernel
theorem dX1_init_6 : decode cX1_init 6 = .ok (.putfield 9, 3) := by decide +kernel
theorem dX1_init_9 : decode cX1_init 9 = .ok (.aload_n 0, 1) := by decide +kernel
theorem dX1_init_10 : decode cX1_init 10 = .ok (.bipush (-9), 2) := by decide +kernel
theorem dX1_init_12 : decode cX1_init 12 = .ok (.putfield 15, 3) := by decide +kernel
theorem dX1_init_15 : decode cX1_init 15 = .ok (.aload_n 0, 1) := by decide +kernel
theorem dX1_init_16 : decode cX1_init 16 = .ok (.iconst 0, 1) := by decide +kernel
theorem dX1_init_17 : decode cX1_init 17 = .ok (.putfield 18, 3) := by decide +kernel
theorem dX1_init_20 : decode cX1_init 20 = .ok (.aload_n 0, 1) := by decide +kernel
theorem dX1_init_21 : decode cX1_init 21 = .ok (.bipush 24, 2) := by decide +kernel
theorem dX1_init_23 : decode cX1_init 23 = .ok (.newarray .int, 2) := by decide +kernel
theorem dX1_init_25 : decode cX1_init 25 = .ok (.putfield 23, 3) := by decide +kernel
theorem dX1_init_28 : decode cX1_init 28 = .ok (.aload_n 0, 1) := by decide +kernel
theorem dX1_init_29 : decode cX1_init 29 = .ok (.bipush 24, 2) := by decide +kernel
theorem dX1_init_31 : decode cX1_init 31 = .ok (.newarray .int, 2) := by decide +kernel
theorem dX1_init_33 : decode cX1_init 33 = .ok (.putfield 27, 3) := by decide +kernel
theorem dX1_init_36 : decode cX1_init 36 = .ok (.return_, 1) := by decide +kernel
theorem dX1_placeBehind_0 : decode cX1_placeBehind 0 = .ok (.iload_n 1, 1) := by decide +kernel
theorem dX1_placeBehind_1 : decode cX1_placeBehind 1 = .ok (.ifCond .lt 26, 3) := by decide +kernel
theorem dX1_placeBehind_4 : decode cX1_placeBehind 4 = .ok (.iload_n 1, 1) := by decide +kernel
theorem dX1_placeBehind_5 : decode cX1_placeBehind 5 = .ok (.aload_n 0, 1) := by decide +kernel
theorem dX1_placeBehind_6 : decode cX1_placeBehind 6 = .ok (.getfield 9, 3) := by decide +kernel
theorem dX1_placeBehind_9 : decode cX1_placeBehind 9 = .ok (.if_icmp .ge 18, 3) := by decide +kernel
theorem dX1_placeBehind_12 : decode cX1_placeBehind 12 = .ok (.iload_n 1, 1) := by decide +kernel
theorem dX1_placeBehind_13 : decode cX1_placeBehind 13 = .ok (.bipush 24, 2) := by decide +kernel
theorem dX1_placeBehind_15 : decode cX1_placeBehind 15 = .ok (.if_icmp .ge 12, 3) := by decide +kernel
theorem dX1_placeBehind_18 : decode cX1_placeBehind 18 = .ok (.aload_n 0, 1) := by decide +kernel
theorem dX1_placeBehind_19 : decode cX1_placeBehind 19 = .ok (.getfield 23, 3) := by decide +kernel
theorem dX1_placeBehind_22 : decode cX1_placeBehind 22 = .ok (.iload_n 1, 1) := by decide +kernel
theorem dX1_placeBehind_23 : decode cX1_placeBehind 23 = .ok (.iaload, 1) := by decide +kernel
theorem dX1_placeBehind_24 : decode cX1_placeBehind 24 = .ok (.goto 4, 3) := by decide +kernel
theorem dX1_placeBehind_27 : decode cX1_placeBehind 27 = .ok (.iconst 0, 1) := by decide +kernel
theorem dX1_placeBehind_28 : decode cX1_placeBehind 28 = .ok (.ireturn, 1) := by decide +kernel
theorem dX1_headingBehind_0 : decode cX1_headingBehind 0 = .ok (.iload_n 1, 1) := by decide +kernel
theorem dX1_headingBehind_1 : decode cX1_headingBehind 1 = .ok (.ifCond .lt 26, 3) := by decide +kernel
theorem dX1_headingBehind_4 : decode cX1_headingBehind 4 = .ok (.iload_n 1, 1) := by decide +kernel
theorem dX1_headingBehind_5 : decode cX1_headingBehind 5 = .ok (.aload_n 0, 1) := by decide +kernel
theorem dX1_headingBehind_6 : decode cX1_headingBehind 6 = .ok (.getfield 9, 3) := by decide +kernel
theorem dX1_headingBehind_9 : decode cX1_headingBehind 9 = .ok (.if_icmp .ge 18, 3) := by decide +kernel
theorem dX1_headingBehind_12 : decode cX1_headingBehind 12 = .ok (.iload_n 1, 1) := by decide +kernel
theorem dX1_headingBehind_13 : decode cX1_headingBehind 13 = .ok (.bipush 24, 2) := by decide +kernel
theorem dX1_headingBehind_15 : decode cX1_headingBehind 15 = .ok (.if_icmp .ge 12, 3) := by decide +kernel
theorem dX1_headingBehind_18 : decode cX1_headingBehind 18 = .ok (.aload_n 0, 1) := by decide +kernel
theorem dX1_headingBehind_19 : decode cX1_headingBehind 19 = .ok (.getfield 27, 3) := by decide +kernel
theorem dX1_headingBehind_22 : decode cX1_headingBehind 22 = .ok (.iload_n 1, 1) := by decide +kernel
theorem dX1_headingBehind_23 : decode cX1_headingBehind 23 = .ok (.iaload, 1) := by decide +kernel
theorem dX1_headingBehind_24 : decode cX1_headingBehind 24 = .ok (.goto 4, 3) := by decide +kernel
theorem dX1_headingBehind_27 : decode cX1_headingBehind 27 = .ok (.iconst 0, 1) := by decide +kernel
theorem dX1_headingBehind_28 : decode cX1_headingBehind 28 = .ok (.ireturn, 1) := by decide +kernel
theorem dX1_go_0 : decode cX1_go 0 = .ok (.aload_n 0, 1) := by decide +kernel
theorem dX1_go_1 : decode cX1_go 1 = .ok (.iconst 0, 1) := by decide +kernel
theorem dX1_go_2 : decode cX1_go 2 = .ok (.putfield 9, 3) := by decide +kernel
theorem dX1_go_5 : decode cX1_go 5 = .ok (.aload_n 0, 1) := by decide +kernel
theorem dX1_go_6 : decode cX1_go 6 = .ok (.bipush (-9), 2) := by decide +kernel
theorem dX1_go_8 : decode cX1_go 8 = .ok (.putfield 15, 3) := by decide +kernel
theorem dX1_go_11 : decode cX1_go 11 = .ok (.aload_n 0, 1) := by decide +kernel
theorem dX1_go_12 : decode cX1_go 12 = .ok (.iconst 0, 1) := by decide +kernel
theorem dX1_go_13 : decode cX1_go 13 = .ok (.putfield 18, 3) := by decide +kernel
theorem dX1_go_16 : decode cX1_go 16 = .ok (.aload_n 1, 1) := by decide +kernel
theorem dX1_go_17 : decode cX1_go 17 = .ok (.invokevirtual 30, 3) := by decide +kernel
theorem dX1_go_20 : decode cX1_go 20 = .ok (.istore 4, 2) := by decide +kernel
theorem dX1_go_22 : decode cX1_go 22 = .ok (.aload_n 1, 1) := by decide +kernel
theorem dX1_go_23 : decode cX1_go 23 = .ok (.invokevirtual 36, 3) := by decide +kernel
theorem dX1_go_26 : decode cX1_go 26 = .ok (.istore 5, 2) := by decide +kernel
theorem dX1_go_28 : decode cX1_go 28 = .ok (.iconst 0, 1) := by decide +kernel
theorem dX1_go_29 : decode cX1_go 29 = .ok (.istore 6, 2) := by decide +kernel
theorem dX1_go_31 : decode cX1_go 31 = .ok (.iload 6, 2) := by decide +kernel
theorem dX1_go_33 : decode cX1_go 33 = .ok (.aload_n 2, 1) := by decide +kernel
theorem dX1_go_34 : decode cX1_go 34 = .ok (.getfield 39, 3) := by decide +kernel
theorem dX1_go_37 : decode cX1_go 37 = .ok (.if_icmp .ge 113, 3) := by decide +kernel
theorem dX1_go_40 : decode cX1_go 40 = .ok (.iload 6, 2) := by decide +kernel
theorem dX1_go_42 : decode cX1_go 42 = .ok (.bipush 24, 2) := by decide +kernel
theorem dX1_go_44 : decode cX1_go 44 = .ok (.if_icmp .ge 106, 3) := by decide +kernel
theorem dX1_go_47 : decode cX1_go 47 = .ok (.aload_n 2, 1) := by decide +kernel
theorem dX1_go_48 : decode cX1_go 48 = .ok (.iload 6, 2) := by decide +kernel
theorem dX1_go_50 : decode cX1_go 50 = .ok (.invokevirtual 42, 3) := by decide +kernel
theorem dX1_go_53 : decode cX1_go 53 = .ok (.iload 5, 2) := by decide +kernel
theorem dX1_go_55 : decode cX1_go 55 = .ok (.if_icmp .le 10, 3) := by decide +kernel
theorem dX1_go_58 : decode cX1_go 58 = .ok (.aload_n 0, 1) := by decide +kernel
theorem dX1_go_59 : decode cX1_go 59 = .ok (.iload 6, 2) := by decide +kernel
theorem dX1_go_61 : decode cX1_go 61 = .ok (.putfield 15, 3) := by decide +kernel
theorem dX1_go_64 : decode cX1_go 64 = .ok (.return_, 1) := by decide +kernel
theorem dX1_go_65 : decode cX1_go 65 = .ok (.bipush 10, 2) := by decide +kernel
theorem dX1_go_67 : decode cX1_go 67 = .ok (.aload_n 2, 1) := by decide +kernel
theorem dX1_go_68 : decode cX1_go 68 = .ok (.iload 6, 2) := by decide +kernel
theorem dX1_go_70 : decode cX1_go 70 = .ok (.invokevirtual 46, 3) := by decide +kernel
theorem dX1_go_73 : decode cX1_go 73 = .ok (.imul, 1) := by decide +kernel
theorem dX1_go_74 : decode cX1_go 74 = .ok (.istore 7, 2) := by decide +kernel
theorem dX1_go_76 : decode cX1_go 76 = .ok (.iload 7, 2) := by decide +kernel
theorem dX1_go_78 : decode cX1_go 78 = .ok (.ifCond .le 11, 3) := by decide +kernel
theorem dX1_go_81 : decode cX1_go 81 = .ok (.iload 4, 2) := by decide +kernel
theorem dX1_go_83 : decode cX1_go 83 = .ok (.iload 7, 2) := by decide +kernel
theorem dX1_go_85 : decode cX1_go 85 = .ok (.idiv, 1) := by decide +kernel
theorem dX1_go_86 : decode cX1_go 86 = .ok (.goto 4, 3) := by decide +kernel
theorem dX1_go_89 : decode cX1_go 89 = .ok (.iconst 0, 1) := by decide +kernel
theorem dX1_go_90 : decode cX1_go 90 = .ok (.istore 8, 2) := by decide +kernel
theorem dX1_go_92 : decode cX1_go 92 = .ok (.aload_n 3, 1) := by decide +kernel
theorem dX1_go_93 : decode cX1_go 93 = .ok (.getfield 49, 3) := by decide +kernel
theorem dX1_go_96 : decode cX1_go 96 = .ok (.aload_n 0, 1) := by decide +kernel
theorem dX1_go_97 : decode cX1_go 97 = .ok (.iload 6, 2) := by decide +kernel
theorem dX1_go_99 : decode cX1_go 99 = .ok (.iconst 1, 1) := by decide +kernel
theorem dX1_go_100 : decode cX1_go 100 = .ok (.isub, 1) := by decide +kernel
theorem dX1_go_101 : decode cX1_go 101 = .ok (.aload_n 3, 1) := by decide +kernel
theorem dX1_go_102 : decode cX1_go 102 = .ok (.getfield 54, 3) := by decide +kernel
theorem dX1_go_105 : decode cX1_go 105 = .ok (.isub, 1) := by decide +kernel
theorem dX1_go_106 : decode cX1_go 106 = .ok (.invokevirtual 57, 3) := by decide +kernel
theorem dX1_go_109 : decode cX1_go 109 = .ok (.imul, 1) := by decide +kernel
theorem dX1_go_110 : decode cX1_go 110 = .ok (.bipush 8, 2) := by decide +kernel
theorem dX1_go_112 : decode cX1_go 112 = .ok (.idiv, 1) := by decide +kernel
theorem dX1_go_113 : decode cX1_go 113 = .ok (.istore 9, 2) := by decide +kernel
theorem dX1_go_115 : decode cX1_go 115 = .ok (.iload 8, 2) := by decide +kernel
theorem dX1_go_117 : decode cX1_go 117 = .ok (.aload_n 2, 1) := by decide +kernel
theorem dX1_go_118 : decode cX1_go 118 = .ok (.iload 6, 2) := by decide +kernel
theorem dX1_go_120 : decode cX1_go 120 = .ok (.invokevirtual 60, 3) := by decide +kernel
theorem dX1_go_123 : decode cX1_go 123 = .ok (.iadd, 1) := by decide +kernel
theorem dX1_go_124 : decode cX1_go 124 = .ok (.aload_n 3, 1) := by decide +kernel
theorem dX1_go_125 : decode cX1_go 125 = .ok (.getfield 63, 3) := by decide +kernel
theorem dX1_go_128 : decode cX1_go 128 = .ok (.iadd, 1) := by decide +kernel
theorem dX1_go_129 : decode cX1_go 129 = .ok (.iload 9, 2) := by decide +kernel
theorem dX1_go_131 : decode cX1_go 131 = .ok (.isub, 1) := by decide +kernel
theorem dX1_go_132 : decode cX1_go 132 = .ok (.istore 10, 2) := by decide +kernel
theorem dX1_go_134 : decode cX1_go 134 = .ok (.aload_n 0, 1) := by decide +kernel
theorem dX1_go_135 : decode cX1_go 135 = .ok (.iload 10, 2) := by decide +kernel
theorem dX1_go_137 : decode cX1_go 137 = .ok (.aload_n 3, 1) := by decide +kernel
theorem dX1_go_138 : decode cX1_go 138 = .ok (.getfield 66, 3) := by decide +kernel
theorem dX1_go_141 : decode cX1_go 141 = .ok (.invokevirtual 69, 3) := by decide +kernel
theorem dX1_go_144 : decode cX1_go 144 = .ok (.iinc 6 1, 3) := by decide +kernel
theorem dX1_go_147 : decode cX1_go 147 = .ok (.goto (-116), 3) := by decide +kernel
theorem dX1_go_150 : decode cX1_go 150 = .ok (.return_, 1) := by decide +kernel
theorem dX1_stroke_0 : decode cX1_stroke 0 = .ok (.aload_n 0, 1) := by decide +kernel
theorem dX1_stroke_1 : decode cX1_stroke 1 = .ok (.getfield 9, 3) := by decide +kernel
theorem dX1_stroke_4 : decode cX1_stroke 4 = .ok (.istore_n 3, 1) := by decide +kernel
theorem dX1_stroke_5 : decode cX1_stroke 5 = .ok (.iload_n 3, 1) := by decide +kernel
theorem dX1_stroke_6 : decode cX1_stroke 6 = .ok (.ifCond .lt 9, 3) := by decide +kernel
theorem dX1_stroke_9 : decode cX1_stroke 9 = .ok (.iload_n 3, 1) := by decide +kernel
theorem dX1_stroke_10 : decode cX1_stroke 10 = .ok (.bipush 24, 2) := by decide +kernel
theorem dX1_stroke_12 : decode cX1_stroke 12 = .ok (.if_icmp .lt 4, 3) := by decide +kernel
theorem dX1_stroke_15 : decode cX1_stroke 15 = .ok (.return_, 1) := by decide +kernel
theorem dX1_stroke_16 : decode cX1_stroke 16 = .ok (.aload_n 0, 1) := by decide +kernel
theorem dX1_stroke_17 : decode cX1_stroke 17 = .ok (.iload_n 3, 1) := by decide +kernel
theorem dX1_stroke_18 : decode cX1_stroke 18 = .ok (.iconst 1, 1) := by decide +kernel
theorem dX1_stroke_19 : decode cX1_stroke 19 = .ok (.isub, 1) := by decide +kernel
theorem dX1_stroke_20 : decode cX1_stroke 20 = .ok (.invokevirtual 73, 3) := by decide +kernel
theorem dX1_stroke_23 : decode cX1_stroke 23 = .ok (.iload_n 1, 1) := by decide +kernel
theorem dX1_stroke_24 : decode cX1_stroke 24 = .ok (.iadd, 1) := by decide +kernel
theorem dX1_stroke_25 : decode cX1_stroke 25 = .ok (.istore 4, 2) := by decide +kernel
theorem dX1_stroke_27 : decode cX1_stroke 27 = .ok (.bipush (-99), 2) := by decide +kernel
theorem dX1_stroke_29 : decode cX1_stroke 29 = .ok (.bipush 99, 2) := by decide +kernel
theorem dX1_stroke_31 : decode cX1_stroke 31 = .ok (.iload 4, 2) := by decide +kernel
theorem dX1_stroke_33 : decode cX1_stroke 33 = .ok (.invokestatic 76, 3) := by decide +kernel
theorem dX1_stroke_36 : decode cX1_stroke 36 = .ok (.invokestatic 82, 3) := by decide +kernel
theorem dX1_stroke_39 : decode cX1_stroke 39 = .ok (.istore 4, 2) := by decide +kernel
theorem dX1_stroke_41 : decode cX1_stroke 41 = .ok (.aload_n 0, 1) := by decide +kernel
theorem dX1_stroke_42 : decode cX1_stroke 42 = .ok (.iload_n 3, 1) := by decide +kernel
theorem dX1_stroke_43 : decode cX1_stroke 43 = .ok (.iconst 1, 1) := by decide +kernel
theorem dX1_stroke_44 : decode cX1_stroke 44 = .ok (.isub, 1) := by decide +kernel
theorem dX1_stroke_45 : decode cX1_stroke 45 = .ok (.invokevirtual 57, 3) := by decide +kernel
theorem dX1_stroke_48 : decode cX1_stroke 48 = .ok (.iload 4, 2) := by decide +kernel
theorem dX1_stroke_50 : decode cX1_stroke 50 = .ok (.iadd, 1) := by decide +kernel
theorem dX1_stroke_51 : decode cX1_stroke 51 = .ok (.istore 5, 2) := by decide +kernel
theorem dX1_stroke_53 : decode cX1_stroke 53 = .ok (.iload_n 2, 1) := by decide +kernel
theorem dX1_stroke_54 : decode cX1_stroke 54 = .ok (.ifCond .le 28, 3) := by decide +kernel
theorem dX1_stroke_57 : decode cX1_stroke 57 = .ok (.iload 5, 2) := by decide +kernel
theorem dX1_stroke_59 : decode cX1_stroke 59 = .ok (.invokestatic 85, 3) := by decide +kernel
theorem dX1_stroke_62 : decode cX1_stroke 62 = .ok (.iload_n 2, 1) := by decide +kernel
theorem dX1_stroke_63 : decode cX1_stroke 63 = .ok (.if_icmp .le 19, 3) := by decide +kernel
theorem dX1_stroke_66 : decode cX1_stroke 66 = .ok (.iload 5, 2) := by decide +kernel
theorem dX1_stroke_68 : decode cX1_stroke 68 = .ok (.ifCond .le 7, 3) := by decide +kernel
theorem dX1_stroke_71 : decode cX1_stroke 71 = .ok (.iload_n 2, 1) := by decide +kernel
theorem dX1_stroke_72 : decode cX1_stroke 72 = .ok (.goto 5, 3) := by decide +kernel
theorem dX1_stroke_75 : decode cX1_stroke 75 = .ok (.iload_n 2, 1) := by decide +kernel
theorem dX1_stroke_76 : decode cX1_stroke 76 = .ok (.ineg, 1) := by decide +kernel
theorem dX1_stroke_77 : decode cX1_stroke 77 = .ok (.istore 5, 2) := by decide +kernel
theorem dX1_stroke_79 : decode cX1_stroke 79 = .ok (.iconst 0, 1) := by decide +kernel
theorem dX1_stroke_80 : decode cX1_stroke 80 = .ok (.istore 4, 2) := by decide +kernel
theorem dX1_stroke_82 : decode cX1_stroke 82 = .ok (.aload_n 0, 1) := by decide +kernel
theorem dX1_stroke_83 : decode cX1_stroke 83 = .ok (.getfield 23, 3) := by decide +kernel
theorem dX1_stroke_86 : decode cX1_stroke 86 = .ok (.iload_n 3, 1) := by decide +kernel
theorem dX1_stroke_87 : decode cX1_stroke 87 = .ok (.iload 5, 2) := by decide +kernel
theorem dX1_stroke_89 : decode cX1_stroke 89 = .ok (.iastore, 1) := by decide +kernel
theorem dX1_stroke_90 : decode cX1_stroke 90 = .ok (.aload_n 0, 1) := by decide +kernel
theorem dX1_stroke_91 : decode cX1_stroke 91 = .ok (.getfield 27, 3) := by decide +kernel
theorem dX1_stroke_94 : decode cX1_stroke 94 = .ok (.iload_n 3, 1) := by decide +kernel
theorem dX1_stroke_95 : decode cX1_stroke 95 = .ok (.iload 4, 2) := by decide +kernel
theorem dX1_stroke_97 : decode cX1_stroke 97 = .ok (.iastore, 1) := by decide +kernel
theorem dX1_stroke_98 : decode cX1_stroke 98 = .ok (.aload_n 0, 1) := by decide +kernel
theorem dX1_stroke_99 : decode cX1_stroke 99 = .ok (.iload_n 3, 1) := by decide +kernel
theorem dX1_stroke_100 : decode cX1_stroke 100 = .ok (.iconst 1, 1) := by decide +kernel
theorem dX1_stroke_101 : decode cX1_stroke 101 = .ok (.iadd, 1) := by decide +kernel
theorem dX1_stroke_102 : decode cX1_stroke 102 = .ok (.putfield 9, 3) := by decide +kernel
theorem dX1_stroke_105 : decode cX1_stroke 105 = .ok (.aload_n 0, 1) := by decide +kernel
theorem dX1_stroke_106 : decode cX1_stroke 106 = .ok (.aload_n 0, 1) := by decide +kernel
theorem dX1_stroke_107 : decode cX1_stroke 107 = .ok (.getfield 18, 3) := by decide +kernel
theorem dX1_stroke_110 : decode cX1_stroke 110 = .ok (.iload 5, 2) := by decide +kernel
theorem dX1_stroke_112 : decode cX1_stroke 112 = .ok (.invokestatic 85, 3) := by decide +kernel
theorem dX1_stroke_115 : decode cX1_stroke 115 = .ok (.invokestatic 82, 3) := by decide +kernel
theorem dX1_stroke_118 : decode cX1_stroke 118 = .ok (.putfield 18, 3) := by decide +kernel
theorem dX1_stroke_121 : decode cX1_stroke 121 = .ok (.return_, 1) := by decide +kernel
theorem dX2_init_0 : decode cX2_init 0 = .ok (.aload_n 0, 1) := by decide +kernel
theorem dX2_init_1 : decode cX2_init 1 = .ok (.invokespecial 3, 3) := by decide +kernel
theorem dX2_init_4 : decode cX2_init 4 = .ok (.aload_n 0, 1) := by decide +kernel
theorem dX2_init_5 : decode cX2_init 5 = .ok (.iconst 0, 1) := by decide +kernel
theorem dX2_init_6 : decode cX2_init 6 = .ok (.putfield 9, 3) := by decide +kernel
theorem dX2_init_9 : decode cX2_init 9 = .ok (.aload_n 0, 1) := by decide +kernel
theorem dX2_init_10 : decode cX2_init 10 = .ok (.bipush 6, 2) := by decide +kernel
theorem dX2_init_12 : decode cX2_init 12 = .ok (.newarray .int, 2) := by decide +kernel
theorem dX2_init_14 : decode cX2_init 14 = .ok (.putfield 15, 3) := by decide +kernel
theorem dX2_init_17 : decode cX2_init 17 = .ok (.aload_n 0, 1) := by decide +kernel
theorem dX2_init_18 : decode cX2_init 18 = .ok (.bipush 6, 2) := by decide +kernel
theorem dX2_init_20 : decode cX2_init 20 = .ok (.newarray .int, 2) := by decide +kernel
theorem dX2_init_22 : decode cX2_init 22 = .ok (.putfield 19, 3) := by decide +kernel
theorem dX2_init_25 : decode cX2_init 25 = .ok (.aload_n 0, 1) := by decide +kernel
theorem dX2_init_26 : decode cX2_init 26 = .ok (.bipush 6, 2) := by decide +kernel
theorem dX2_init_28 : decode cX2_init 28 = .ok (.newarray .int, 2) := by decide +kernel
theorem dX2_init_30 : decode cX2_init 30 = .ok (.putfield 22, 3) := by decide +kernel
theorem dX2_init_33 : decode cX2_init 33 = .ok (.return_, 1) := by decide +kernel
theorem dX2_has_0 : decode cX2_has 0 = .ok (.iload_n 1, 1) := by decide +kernel
theorem dX2_has_1 : decode cX2_has 1 = .ok (.ifCond .lt 21, 3) := by decide +kernel
theorem dX2_has_4 : decode cX2_has 4 = .ok (.iload_n 1, 1) := by decide +kernel
theorem dX2_has_5 : decode cX2_has 5 = .ok (.aload_n 0, 1) := by decide +kernel
theorem dX2_has_6 : decode cX2_has 6 = .ok (.getfield 9, 3) := by decide +kernel
theorem dX2_has_9 : decode cX2_has 9 = .ok (.if_icmp .ge 13, 3) := by decide +kernel
theorem dX2_has_12 : decode cX2_has 12 = .ok (.iload_n 1, 1) := by decide +kernel
theorem dX2_has_13 : decode cX2_has 13 = .ok (.bipush 6, 2) := by decide +kernel
theorem dX2_has_15 : decode cX2_has 15 = .ok (.if_icmp .ge 7, 3) := by decide +kernel
theorem dX2_has_18 : decode cX2_has 18 = .ok (.iconst 1, 1) := by decide +kernel
theorem dX2_has_19 : decode cX2_has 19 = .ok (.goto 4, 3) := by decide +kernel
theorem dX2_has_22 : decode cX2_has 22 = .ok (.iconst 0, 1) := by decide +kernel
theorem dX2_has_23 : decode cX2_has 23 = .ok (.ireturn, 1) := by decide +kernel
theorem dX2_toothOf_0 : decode cX2_toothOf 0 = .ok (.aload_n 0, 1) := by decide +kernel
theorem dX2_toothOf_1 : decode cX2_toothOf 1 = .ok (.iload_n 1, 1) := by decide +kernel
theorem dX2_toothOf_2 : decode cX2_toothOf 2 = .ok (.invokevirtual 25, 3) := by decide +kernel
theorem dX2_toothOf_5 : decode cX2_toothOf 5 = .ok (.ifCond .eq 12, 3) := by decide +kernel
theorem dX2_toothOf_8 : decode cX2_toothOf 8 = .ok (.aload_n 0, 1) := by decide +kernel
theorem dX2_toothOf_9 : decode cX2_toothOf 9 = .ok (.getfield 15, 3) := by decide +kernel
theorem dX2_toothOf_12 : decode cX2_toothOf 12 = .ok (.iload_n 1, 1) := by decide +kernel
theorem dX2_toothOf_13 : decode cX2_toothOf 13 = .ok (.iaload, 1) := by decide +kernel
theorem dX2_toothOf_14 : decode cX2_toothOf 14 = .ok (.goto 4, 3) := by decide +kernel
theorem dX2_toothOf_17 : decode cX2_toothOf 17 = .ok (.iconst 0, 1) := by decide +kernel
theorem dX2_toothOf_18 : decode cX2_toothOf 18 = .ok (.ireturn, 1) := by decide +kernel
theorem dX2_whatOf_0 : decode cX2_whatOf 0 = .ok (.aload_n 0, 1) := by decide +kernel
theorem dX2_whatOf_1 : decode cX2_whatOf 1 = .ok (.iload_n 1, 1) := by decide +kernel
theorem dX2_whatOf_2 : decode cX2_whatOf 2 = .ok (.invokevirtual 25, 3) := by decide +kernel
theorem dX2_whatOf_5 : decode cX2_whatOf 5 = .ok (.ifCond .eq 12, 3) := by decide +kernel
theorem dX2_whatOf_8 : decode cX2_whatOf 8 = .ok (.aload_n 0, 1) := by decide +kernel
theorem dX2_whatOf_9 : decode cX2_whatOf 9 = .ok (.getfield 19, 3) := by decide +kernel
theorem dX2_whatOf_12 : decode cX2_whatOf 12 = .ok (.iload_n 1, 1) := by decide +kernel
theorem dX2_whatOf_13 : decode cX2_whatOf 13 = .ok (.iaload, 1) := by decide +kernel
theorem dX2_whatOf_14 : decode cX2_whatOf 14 = .ok (.goto 4, 3) := by decide +kernel
theorem dX2_whatOf_17 : decode cX2_whatOf 17 = .ok (.iconst 0, 1) := by decide +kernel
theorem dX2_whatOf_18 : decode cX2_whatOf 18 = .ok (.ireturn, 1) := by decide +kernel
theorem dX2_valueOf_0 : decode cX2_valueOf 0 = .ok (.aload_n 0, 1) := by decide +kernel
theorem dX2_valueOf_1 : decode cX2_valueOf 1 = .ok (.iload_n 1, 1) := by decide +kernel
theorem dX2_valueOf_2 : decode cX2_valueOf 2 = .ok (.invokevirtual 25, 3) := by decide +kernel
theorem dX2_valueOf_5 : decode cX2_valueOf 5 = .ok (.ifCond .eq 12, 3) := by decide +kernel
theorem dX2_valueOf_8 : decode cX2_valueOf 8 = .ok (.aload_n 0, 1) := by decide +kernel
theorem dX2_valueOf_9 : decode cX2_valueOf 9 = .ok (.getfield 22, 3) := by decide +kernel
theorem dX2_valueOf_12 : decode cX2_valueOf 12 = .ok (.iload_n 1, 1) := by decide +kernel
theorem dX2_valueOf_13 : decode cX2_valueOf 13 = .ok (.iaload, 1) := by decide +kernel
theorem dX2_valueOf_14 : decode cX2_valueOf 14 = .ok (.goto 4, 3) := by decide +kernel
theorem dX2_valueOf_17 : decode cX2_valueOf 17 = .ok (.iconst 0, 1) := by decide +kernel
theorem dX2_valueOf_18 : decode cX2_valueOf 18 = .ok (.ireturn, 1) := by decide +kernel
theorem dX2_add_0 : decode cX2_add 0 = .ok (.aload_n 0, 1) := by decide +kernel
theorem dX2_add_1 : decode cX2_add 1 = .ok (.getfield 9, 3) := by decide +kernel
theorem dX2_add_4 : decode cX2_add 4 = .ok (.ifCond .lt 12, 3) := by decide +kernel
theorem dX2_add_7 : decode cX2_add 7 = .ok (.aload_n 0, 1) := by decide +kernel
theorem dX2_add_8 : decode cX2_add 8 = .ok (.getfield 9, 3) := by decide +kernel
theorem dX2_add_11 : decode cX2_add 11 = .ok (.bipush 6, 2) := by decide +kernel
theorem dX2_add_13 : decode cX2_add 13 = .ok (.if_icmp .lt 6, 3) := by decide +kernel
theorem dX2_add_16 : decode cX2_add 16 = .ok (.bipush (-4), 2) := by decide +kernel
theorem dX2_add_18 : decode cX2_add 18 = .ok (.ireturn, 1) := by decide +kernel
theorem dX2_add_19 : decode cX2_add 19 = .ok (.aload_n 0, 1) := by decide +kernel
theorem dX2_add_20 : decode cX2_add 20 = .ok (.getfield 15, 3) := by decide +kernel
theorem dX2_add_23 : decode cX2_add 23 = .ok (.aload_n 0, 1) := by decide +kernel
theorem dX2_add_24 : decode cX2_add 24 = .ok (.getfield 9, 3) := by decide +kernel
theorem dX2_add_27 : decode cX2_add 27 = .ok (.iload_n 1, 1) := by decide +kernel
theorem dX2_add_28 : decode cX2_add 28 = .ok (.iastore, 1) := by decide +kernel
theorem dX2_add_29 : decode cX2_add 29 = .ok (.aload_n 0, 1) := by decide +kernel
theorem dX2_add_30 : decode cX2_add 30 = .ok (.getfield 19, 3) := by decide +kernel
theorem dX2_add_33 : decode cX2_add 33 = .ok (.aload_n 0, 1) := by decide +kernel
theorem dX2_add_34 : decode cX2_add 34 = .ok (.getfield 9, 3) := by decide +kernel
theorem dX2_add_37 : decode cX2_add 37 = .ok (.iload_n 2, 1) := by decide +kernel
theorem dX2_add_38 : decode cX2_add 38 = .ok (.iastore, 1) := by decide +kernel
theorem dX2_add_39 : decode cX2_add 39 = .ok (.aload_n 0, 1) := by decide +kernel
theorem dX2_add_40 : decode cX2_add 40 = .ok (.getfield 22, 3) := by decide +kernel
theorem dX2_add_43 : decode cX2_add 43 = .ok (.aload_n 0, 1) := by decide +kernel
theorem dX2_add_44 : decode cX2_add 44 = .ok (.getfield 9, 3) := by decide +kernel
theorem dX2_add_47 : decode cX2_add 47 = .ok (.iload_n 3, 1) := by decide +kernel
theorem dX2_add_48 : decode cX2_add 48 = .ok (.iastore, 1) := by decide +kernel
theorem dX2_add_49 : decode cX2_add 49 = .ok (.aload_n 0, 1) := by decide +kernel
theorem dX2_add_50 : decode cX2_add 50 = .ok (.dup, 1) := by decide +kernel
theorem dX2_add_51 : decode cX2_add 51 = .ok (.getfield 9, 3) := by decide +kernel
theorem dX2_add_54 : decode cX2_add 54 = .ok (.iconst 1, 1) := by decide +kernel
theorem dX2_add_55 : decode cX2_add 55 = .ok (.iadd, 1) := by decide +kernel
theorem dX2_add_56 : decode cX2_add 56 = .ok (.putfield 9, 3) := by decide +kernel
theorem dX2_add_59 : decode cX2_add 59 = .ok (.aload_n 0, 1) := by decide +kernel
theorem dX2_add_60 : decode cX2_add 60 = .ok (.getfield 9, 3) := by decide +kernel
theorem dX2_add_63 : decode cX2_add 63 = .ok (.iconst 1, 1) := by decide +kernel
theorem dX2_add_64 : decode cX2_add 64 = .ok (.isub, 1) := by decide +kernel
theorem dX2_add_65 : decode cX2_add 65 = .ok (.ireturn, 1) := by decide +kernel
theorem dX2_applyTo_0 : decode cX2_applyTo 0 = .ok (.iconst 0, 1) := by decide +kernel
theorem dX2_applyTo_1 : decode cX2_applyTo 1 = .ok (.istore_n 3, 1) := by decide +kernel
theorem dX2_applyTo_2 : decode cX2_applyTo 2 = .ok (.iload_n 3, 1) := by decide +kernel
theorem dX2_applyTo_3 : decode cX2_applyTo 3 = .ok (.aload_n 0, 1) := by decide +kernel
theorem dX2_applyTo_4 : decode cX2_applyTo 4 = .ok (.getfield 9, 3) := by decide +kernel
theorem dX2_applyTo_7 : decode cX2_applyTo 7 = .ok (.if_icmp .ge 37, 3) := by decide +kernel
theorem dX2_applyTo_10 : decode cX2_applyTo 10 = .ok (.iload_n 2, 1) := by decide +kernel
theorem dX2_applyTo_11 : decode cX2_applyTo 11 = .ok (.iload_n 3, 1) := by decide +kernel
theorem dX2_applyTo_12 : decode cX2_applyTo 12 = .ok (.ishr, 1) := by decide +kernel
theorem dX2_applyTo_13 : decode cX2_applyTo 13 = .ok (.iconst 1, 1) := by decide +kernel
theorem dX2_applyTo_14 : decode cX2_applyTo 14 = .ok (.iand, 1) := by decide +kernel
theorem dX2_applyTo_15 : decode cX2_applyTo 15 = .ok (.iconst 1, 1) := by decide +kernel
theorem dX2_applyTo_16 : decode cX2_applyTo 16 = .ok (.if_icmp .ne 22, 3) := by decide +kernel
theorem dX2_applyTo_19 : decode cX2_applyTo 19 = .ok (.aload_n 1, 1) := by decide +kernel
theorem dX2_applyTo_20 : decode cX2_applyTo 20 = .ok (.aload_n 0, 1) := by decide +kernel
theorem dX2_applyTo_21 : decode cX2_applyTo 21 = .ok (.iload_n 3, 1) := by decide +kernel
theorem dX2_applyTo_22 : decode cX2_applyTo 22 = .ok (.invokevirtual 29, 3) := by decide +kernel
theorem dX2_applyTo_25 : decode cX2_applyTo 25 = .ok (.aload_n 0, 1) := by decide +kernel
theorem dX2_applyTo_26 : decode cX2_applyTo 26 = .ok (.iload_n 3, 1) := by decide +kernel
theorem dX2_applyTo_27 : decode cX2_applyTo 27 = .ok (.invokevirtual 33, 3) := by decide +kernel
theorem dX2_applyTo_30 : decode cX2_applyTo 30 = .ok (.aload_n 0, 1) := by decide +kernel
theorem dX2_applyTo_31 : decode cX2_applyTo 31 = .ok (.iload_n 3, 1) := by decide +kernel
theorem dX2_applyTo_32 : decode cX2_applyTo 32 = .ok (.invokevirtual 36, 3) := by decide +kernel
theorem dX2_applyTo_35 : decode cX2_applyTo 35 = .ok (.invokevirtual 39, 3) := by decide +kernel
theorem dX2_applyTo_38 : decode cX2_applyTo 38 = .ok (.iinc 3 1, 3) := by decide +kernel
theorem dX2_applyTo_41 : decode cX2_applyTo 41 = .ok (.goto (-39), 3) := by decide +kernel
theorem dX2_applyTo_44 : decode cX2_applyTo 44 = .ok (.return_, 1) := by decide +kernel
theorem dX3_init_0 : decode cX3_init 0 = .ok (.aload_n 0, 1) := by decide +kernel
theorem dX3_init_1 : decode cX3_init 1 = .ok (.invokespecial 1, 3) := by decide +kernel
theorem dX3_init_4 : decode cX3_init 4 = .ok (.aload_n 0, 1) := by decide +kernel
theorem dX3_init_5 : decode cX3_init 5 = .ok (.iconst 0, 1) := by decide +kernel
theorem dX3_init_6 : decode cX3_init 6 = .ok (.putfield 7, 3) := by decide +kernel
theorem dX3_init_9 : decode cX3_init 9 = .ok (.aload_n 0, 1) := by decide +kernel
theorem dX3_init_10 : decode cX3_init 10 = .ok (.iconst 0, 1) := by decide +kernel
theorem dX3_init_11 : decode cX3_init 11 = .ok (.putfield 13, 3) := by decide +kernel
theorem dX3_init_14 : decode cX3_init 14 = .ok (.aload_n 0, 1) := by decide +kernel
theorem dX3_init_15 : decode cX3_init 15 = .ok (.iconst 0, 1) := by decide +kernel
theorem dX3_init_16 : decode cX3_init 16 = .ok (.putfield 16, 3) := by decide +kernel
theorem dX3_init_19 : decode cX3_init 19 = .ok (.aload_n 0, 1) := by decide +kernel
theorem dX3_init_20 : decode cX3_init 20 = .ok (.iconst 0, 1) := by decide +kernel
theorem dX3_init_21 : decode cX3_init 21 = .ok (.putfield 19, 3) := by decide +kernel
theorem dX3_init_24 : decode cX3_init 24 = .ok (.return_, 1) := by decide +kernel
theorem dX3_become_0 : decode cX3_become 0 = .ok (.aload_n 0, 1) := by decide +kernel
theorem dX3_become_1 : decode cX3_become 1 = .ok (.aload_n 1, 1) := by decide +kernel
theorem dX3_become_2 : decode cX3_become 2 = .ok (.getfield 7, 3) := by decide +kernel
theorem dX3_become_5 : decode cX3_become 5 = .ok (.putfield 7, 3) := by decide +kernel
theorem dX3_become_8 : decode cX3_become 8 = .ok (.aload_n 0, 1) := by decide +kernel
theorem dX3_become_9 : decode cX3_become 9 = .ok (.aload_n 1, 1) := by decide +kernel
theorem dX3_become_10 : decode cX3_become 10 = .ok (.getfield 13, 3) := by decide +kernel
theorem dX3_become_13 : decode cX3_become 13 = .ok (.putfield 13, 3) := by decide +kernel
theorem dX3_become_16 : decode cX3_become 16 = .ok (.aload_n 0, 1) := by decide +kernel
theorem dX3_become_17 : decode cX3_become 17 = .ok (.aload_n 1, 1) := by decide +kernel
theorem dX3_become_18 : decode cX3_become 18 = .ok (.getfield 16, 3) := by decide +kernel
theorem dX3_become_21 : decode cX3_become 21 = .ok (.putfield 16, 3) := by decide +kernel
theorem dX3_become_24 : decode cX3_become 24 = .ok (.aload_n 0, 1) := by decide +kernel
theorem dX3_become_25 : decode cX3_become 25 = .ok (.aload_n 1, 1) := by decide +kernel
theorem dX3_become_26 : decode cX3_become 26 = .ok (.getfield 19, 3) := by decide +kernel
theorem dX3_become_29 : decode cX3_become 29 = .ok (.putfield 19, 3) := by decide +kernel
theorem dX3_become_32 : decode cX3_become 32 = .ok (.return_, 1) := by decide +kernel
theorem dX4_init_0 : decode cX4_init 0 = .ok (.aload_n 0, 1) := by decide +kernel
theorem dX4_init_1 : decode cX4_init 1 = .ok (.invokespecial 3, 3) := by decide +kernel
theorem dX4_init_4 : decode cX4_init 4 = .ok (.aload_n 0, 1) := by decide +kernel
theorem dX4_init_5 : decode cX4_init 5 = .ok (.bipush (-9), 2) := by decide +kernel
theorem dX4_init_7 : decode cX4_init 7 = .ok (.putfield 9, 3) := by decide +kernel
theorem dX4_init_10 : decode cX4_init 10 = .ok (.aload_n 0, 1) := by decide +kernel
theorem dX4_init_11 : decode cX4_init 11 = .ok (.bipush (-9), 2) := by decide +kernel
theorem dX4_init_13 : decode cX4_init 13 = .ok (.putfield 15, 3) := by decide +kernel
theorem dX4_init_16 : decode cX4_init 16 = .ok (.aload_n 0, 1) := by decide +kernel
theorem dX4_init_17 : decode cX4_init 17 = .ok (.bipush (-9), 2) := by decide +kernel
theorem dX4_init_19 : decode cX4_init 19 = .ok (.putfield 18, 3) := by decide +kernel
theorem dX4_init_22 : decode cX4_init 22 = .ok (.aload_n 0, 1) := by decide +kernel
theorem dX4_init_23 : decode cX4_init 23 = .ok (.bipush (-9), 2) := by decide +kernel
theorem dX4_init_25 : decode cX4_init 25 = .ok (.putfield 21, 3) := by decide +kernel
theorem dX4_init_28 : decode cX4_init 28 = .ok (.return_, 1) := by decide +kernel
theorem dX4_costOf_0 : decode cX4_costOf 0 = .ok (.iload_n 0, 1) := by decide +kernel
theorem dX4_costOf_1 : decode cX4_costOf 1 = .ok (.iconst 4, 1) := by decide +kernel
theorem dX4_costOf_2 : decode cX4_costOf 2 = .ok (.irem, 1) := by decide +kernel
theorem dX4_costOf_3 : decode cX4_costOf 3 = .ok (.lookupswitch 29 #[(0, 25), (3, 27)], 25) := by decide +kernel
theorem dX4_costOf_28 : decode cX4_costOf 28 = .ok (.iconst 2, 1) := by decide +kernel
theorem dX4_costOf_29 : decode cX4_costOf 29 = .ok (.ireturn, 1) := by decide +kernel
theorem dX4_costOf_30 : decode cX4_costOf 30 = .ok (.iconst 4, 1) := by decide +kernel
theorem dX4_costOf_31 : decode cX4_costOf 31 = .ok (.ireturn, 1) := by decide +kernel
theorem dX4_costOf_32 : decode cX4_costOf 32 = .ok (.iconst 1, 1) := by decide +kernel
theorem dX4_costOf_33 : decode cX4_costOf 33 = .ok (.ireturn, 1) := by decide +kernel
theorem dX4_toldNumber_0 : decode cX4_toldNumber 0 = .ok (.bipush 10, 2) := by decide +kernel
theorem dX4_toldNumber_2 : decode cX4_toldNumber 2 = .ok (.iload_n 0, 1) := by decide +kernel
theorem dX4_toldNumber_3 : decode cX4_toldNumber 3 = .ok (.iconst 4, 1) := by decide +kernel
theorem dX4_toldNumber_4 : decode cX4_toldNumber 4 = .ok (.idiv, 1) := by decide +kernel
theorem dX4_toldNumber_5 : decode cX4_toldNumber 5 = .ok (.imul, 1) := by decide +kernel
theorem dX4_toldNumber_6 : decode cX4_toldNumber 6 = .ok (.iload_n 0, 1) := by decide +kernel
theorem dX4_toldNumber_7 : decode cX4_toldNumber 7 = .ok (.iconst 4, 1) := by decide +kernel
theorem dX4_toldNumber_8 : decode cX4_toldNumber 8 = .ok (.irem, 1) := by decide +kernel
theorem dX4_toldNumber_9 : decode cX4_toldNumber 9 = .ok (.iadd, 1) := by decide +kernel
theorem dX4_toldNumber_10 : decode cX4_toldNumber 10 = .ok (.ireturn, 1) := by decide +kernel
theorem dX4_forget_0 : decode cX4_forget 0 = .ok (.aload_n 0, 1) := by decide +kernel
theorem dX4_forget_1 : decode cX4_forget 1 = .ok (.bipush (-9), 2) := by decide +kernel
theorem dX4_forget_3 : decode cX4_forget 3 = .ok (.putfield 9, 3) := by decide +kernel
theorem dX4_forget_6 : decode cX4_forget 6 = .ok (.aload_n 0, 1) := by decide +kernel
theorem dX4_forget_7 : decode cX4_forget 7 = .ok (.bipush (-9), 2) := by decide +kernel
theorem dX4_forget_9 : decode cX4_forget 9 = .ok (.putfield 15, 3) := by decide +kernel
theorem dX4_forget_12 : decode cX4_forget 12 = .ok (.aload_n 0, 1) := by decide +kernel
theorem dX4_forget_13 : decode cX4_forget 13 = .ok (.bipush (-9), 2) := by decide +kernel
theorem dX4_forget_15 : decode cX4_forget 15 = .ok (.putfield 18, 3) := by decide +kernel
theorem dX4_forget_18 : decode cX4_forget 18 = .ok (.aload_n 0, 1) := by decide +kernel
theorem dX4_forget_19 : decode cX4_forget 19 = .ok (.bipush (-9), 2) := by decide +kernel
theorem dX4_forget_21 : decode cX4_forget 21 = .ok (.putfield 21, 3) := by decide +kernel
theorem dX4_forget_24 : decode cX4_forget 24 = .ok (.return_, 1) := by decide +kernel
theorem dX4_isCheaper_0 : decode cX4_isCheaper 0 = .ok (.aload_n 0, 1) := by decide +kernel
theorem dX4_isCheaper_1 : decode cX4_isCheaper 1 = .ok (.getfield 15, 3) := by decide +kernel
theorem dX4_isCheaper_4 : decode cX4_isCheaper 4 = .ok (.bipush (-9), 2) := by decide +kernel
theorem dX4_isCheaper_6 : decode cX4_isCheaper 6 = .ok (.if_icmp .eq 11, 3) := by decide +kernel
theorem dX4_isCheaper_9 : decode cX4_isCheaper 9 = .ok (.iload_n 1, 1) := by decide +kernel
theorem dX4_isCheaper_10 : decode cX4_isCheaper 10 = .ok (.aload_n 0, 1) := by decide +kernel
theorem dX4_isCheaper_11 : decode cX4_isCheaper 11 = .ok (.getfield 15, 3) := by decide +kernel
theorem dX4_isCheaper_14 : decode cX4_isCheaper 14 = .ok (.if_icmp .ge 7, 3) := by decide +kernel
theorem dX4_isCheaper_17 : decode cX4_isCheaper 17 = .ok (.iconst 1, 1) := by decide +kernel
theorem dX4_isCheaper_18 : decode cX4_isCheaper 18 = .ok (.goto 4, 3) := by decide +kernel
theorem dX4_isCheaper_21 : decode cX4_isCheaper 21 = .ok (.iconst 0, 1) := by decide +kernel
theorem dX4_isCheaper_22 : decode cX4_isCheaper 22 = .ok (.ireturn, 1) := by decide +kernel
theorem dX4_keepNoAct_0 : decode cX4_keepNoAct 0 = .ok (.aload_n 0, 1) := by decide +kernel
theorem dX4_keepNoAct_1 : decode cX4_keepNoAct 1 = .ok (.iconst 0, 1) := by decide +kernel
theorem dX4_keepNoAct_2 : decode cX4_keepNoAct 2 = .ok (.putfield 9, 3) := by decide +kernel
theorem dX4_keepNoAct_5 : decode cX4_keepNoAct 5 = .ok (.aload_n 0, 1) := by decide +kernel
theorem dX4_keepNoAct_6 : decode cX4_keepNoAct 6 = .ok (.iconst 0, 1) := by decide +kernel
theorem dX4_keepNoAct_7 : decode cX4_keepNoAct 7 = .ok (.putfield 15, 3) := by decide +kernel
theorem dX4_keepNoAct_10 : decode cX4_keepNoAct 10 = .ok (.return_, 1) := by decide +kernel
theorem dX4_keepOneAct_0 : decode cX4_keepOneAct 0 = .ok (.aload_n 0, 1) := by decide +kernel
theorem dX4_keepOneAct_1 : decode cX4_keepOneAct 1 = .ok (.iconst 1, 1) := by decide +kernel
theorem dX4_keepOneAct_2 : decode cX4_keepOneAct 2 = .ok (.putfield 9, 3) := by decide +kernel
theorem dX4_keepOneAct_5 : decode cX4_keepOneAct 5 = .ok (.aload_n 0, 1) := by decide +kernel
theorem dX4_keepOneAct_6 : decode cX4_keepOneAct 6 = .ok (.iload_n 1, 1) := by decide +kernel
theorem dX4_keepOneAct_7 : decode cX4_keepOneAct 7 = .ok (.invokestatic 24, 3) := by decide +kernel
theorem dX4_keepOneAct_10 : decode cX4_keepOneAct 10 = .ok (.putfield 15, 3) := by decide +kernel
theorem dX4_keepOneAct_13 : decode cX4_keepOneAct 13 = .ok (.aload_n 0, 1) := by decide +kernel
theorem dX4_keepOneAct_14 : decode cX4_keepOneAct 14 = .ok (.iload_n 1, 1) := by decide +kernel
theorem dX4_keepOneAct_15 : decode cX4_keepOneAct 15 = .ok (.invokestatic 28, 3) := by decide +kernel
theorem dX4_keepOneAct_18 : decode cX4_keepOneAct 18 = .ok (.putfield 18, 3) := by decide +kernel
theorem dX4_keepOneAct_21 : decode cX4_keepOneAct 21 = .ok (.return_, 1) := by decide +kernel
theorem dX4_keepTwoActs_0 : decode cX4_keepTwoActs 0 = .ok (.aload_n 0, 1) := by decide +kernel
theorem dX4_keepTwoActs_1 : decode cX4_keepTwoActs 1 = .ok (.iconst 2, 1) := by decide +kernel
theorem dX4_keepTwoActs_2 : decode cX4_keepTwoActs 2 = .ok (.putfield 9, 3) := by decide +kernel
theorem dX4_keepTwoActs_5 : decode cX4_keepTwoActs 5 = .ok (.aload_n 0, 1) := by decide +kernel
theorem dX4_keepTwoActs_6 : decode cX4_keepTwoActs 6 = .ok (.iload_n 1, 1) := by decide +kernel
theorem dX4_keepTwoActs_7 : decode cX4_keepTwoActs 7 = .ok (.invokestatic 24, 3) := by decide +kernel
theorem dX4_keepTwoActs_10 : decode cX4_keepTwoActs 10 = .ok (.iload_n 2, 1) := by decide +kernel
theorem dX4_keepTwoActs_11 : decode cX4_keepTwoActs 11 = .ok (.invokestatic 24, 3) := by decide +kernel
theorem dX4_keepTwoActs_14 : decode cX4_keepTwoActs 14 = .ok (.iadd, 1) := by decide +kernel
theorem dX4_keepTwoActs_15 : decode cX4_keepTwoActs 15 = .ok (.putfield 15, 3) := by decide +kernel
theorem dX4_keepTwoActs_18 : decode cX4_keepTwoActs 18 = .ok (.aload_n 0, 1) := by decide +kernel
theorem dX4_keepTwoActs_19 : decode cX4_keepTwoActs 19 = .ok (.iload_n 1, 1) := by decide +kernel
theorem dX4_keepTwoActs_20 : decode cX4_keepTwoActs 20 = .ok (.invokestatic 28, 3) := by decide +kernel
theorem dX4_keepTwoActs_23 : decode cX4_keepTwoActs 23 = .ok (.putfield 18, 3) := by decide +kernel
theorem dX4_keepTwoActs_26 : decode cX4_keepTwoActs 26 = .ok (.aload_n 0, 1) := by decide +kernel
theorem dX4_keepTwoActs_27 : decode cX4_keepTwoActs 27 = .ok (.iload_n 2, 1) := by decide +kernel
theorem dX4_keepTwoActs_28 : decode cX4_keepTwoActs 28 = .ok (.invokestatic 28, 3) := by decide +kernel
theorem dX4_keepTwoActs_31 : decode cX4_keepTwoActs 31 = .ok (.putfield 21, 3) := by decide +kernel
theorem dX4_keepTwoActs_34 : decode cX4_keepTwoActs 34 = .ok (.return_, 1) := by decide +kernel
theorem dX5_init_0 : decode cX5_init 0 = .ok (.aload_n 0, 1) := by decide +kernel
theorem dX5_init_1 : decode cX5_init 1 = .ok (.invokespecial 3, 3) := by decide +kernel
theorem dX5_init_4 : decode cX5_init 4 = .ok (.aload_n 0, 1) := by decide +kernel
theorem dX5_init_5 : decode cX5_init 5 = .ok (.iconst 0, 1) := by decide +kernel
theorem dX5_init_6 : decode cX5_init 6 = .ok (.putfield 9, 3) := by decide +kernel
theorem dX5_init_9 : decode cX5_init 9 = .ok (.aload_n 0, 1) := by decide +kernel
theorem dX5_init_10 : decode cX5_init 10 = .ok (.bipush 8, 2) := by decide +kernel
theorem dX5_init_12 : decode cX5_init 12 = .ok (.newarray .int, 2) := by decide +kernel
theorem dX5_init_14 : decode cX5_init 14 = .ok (.putfield 15, 3) := by decide +kernel
theorem dX5_init_17 : decode cX5_init 17 = .ok (.aload_n 0, 1) := by decide +kernel
theorem dX5_init_18 : decode cX5_init 18 = .ok (.bipush 8, 2) := by decide +kernel
theorem dX5_init_20 : decode cX5_init 20 = .ok (.newarray .int, 2) := by decide +kernel
theorem dX5_init_22 : decode cX5_init 22 = .ok (.putfield 19, 3) := by decide +kernel
theorem dX5_init_25 : decode cX5_init 25 = .ok (.return_, 1) := by decide +kernel
theorem dX5_add_0 : decode cX5_add 0 = .ok (.aload_n 0, 1) := by decide +kernel
theorem dX5_add_1 : decode cX5_add 1 = .ok (.getfield 9, 3) := by decide +kernel
theorem dX5_add_4 : decode cX5_add 4 = .ok (.ifCond .lt 12, 3) := by decide +kernel
theorem dX5_add_7 : decode cX5_add 7 = .ok (.aload_n 0, 1) := by decide +kernel
theorem dX5_add_8 : decode cX5_add 8 = .ok (.getfield 9, 3) := by decide +kernel
theorem dX5_add_11 : decode cX5_add 11 = .ok (.bipush 8, 2) := by decide +kernel
theorem dX5_add_13 : decode cX5_add 13 = .ok (.if_icmp .lt 6, 3) := by decide +kernel
theorem dX5_add_16 : decode cX5_add 16 = .ok (.bipush (-4), 2) := by decide +kernel
theorem dX5_add_18 : decode cX5_add 18 = .ok (.ireturn, 1) := by decide +kernel
theorem dX5_add_19 : decode cX5_add 19 = .ok (.aload_n 0, 1) := by decide +kernel
theorem dX5_add_20 : decode cX5_add 20 = .ok (.getfield 15, 3) := by decide +kernel
theorem dX5_add_23 : decode cX5_add 23 = .ok (.aload_n 0, 1) := by decide +kernel
theorem dX5_add_24 : decode cX5_add 24 = .ok (.getfield 9, 3) := by decide +kernel
theorem dX5_add_27 : decode cX5_add 27 = .ok (.iload_n 1, 1) := by decide +kernel
theorem dX5_add_28 : decode cX5_add 28 = .ok (.iastore, 1) := by decide +kernel
theorem dX5_add_29 : decode cX5_add 29 = .ok (.aload_n 0, 1) := by decide +kernel
theorem dX5_add_30 : decode cX5_add 30 = .ok (.getfield 19, 3) := by decide +kernel
theorem dX5_add_33 : decode cX5_add 33 = .ok (.aload_n 0, 1) := by decide +kernel
theorem dX5_add_34 : decode cX5_add 34 = .ok (.getfield 9, 3) := by decide +kernel
theorem dX5_add_37 : decode cX5_add 37 = .ok (.iload_n 2, 1) := by decide +kernel
theorem dX5_add_38 : decode cX5_add 38 = .ok (.iastore, 1) := by decide +kernel
theorem dX5_add_39 : decode cX5_add 39 = .ok (.aload_n 0, 1) := by decide +kernel
theorem dX5_add_40 : decode cX5_add 40 = .ok (.dup, 1) := by decide +kernel
theorem dX5_add_41 : decode cX5_add 41 = .ok (.getfield 9, 3) := by decide +kernel
theorem dX5_add_44 : decode cX5_add 44 = .ok (.iconst 1, 1) := by decide +kernel
theorem dX5_add_45 : decode cX5_add 45 = .ok (.iadd, 1) := by decide +kernel
theorem dX5_add_46 : decode cX5_add 46 = .ok (.putfield 9, 3) := by decide +kernel
theorem dX5_add_49 : decode cX5_add 49 = .ok (.aload_n 0, 1) := by decide +kernel
theorem dX5_add_50 : decode cX5_add 50 = .ok (.getfield 9, 3) := by decide +kernel
theorem dX5_add_53 : decode cX5_add 53 = .ok (.iconst 1, 1) := by decide +kernel
theorem dX5_add_54 : decode cX5_add 54 = .ok (.isub, 1) := by decide +kernel
theorem dX5_add_55 : decode cX5_add 55 = .ok (.ireturn, 1) := by decide +kernel
theorem dX5_areSo_0 : decode cX5_areSo 0 = .ok (.iconst 0, 1) := by decide +kernel
theorem dX5_areSo_1 : decode cX5_areSo 1 = .ok (.istore_n 2, 1) := by decide +kernel
theorem dX5_areSo_2 : decode cX5_areSo 2 = .ok (.iload_n 2, 1) := by decide +kernel
theorem dX5_areSo_3 : decode cX5_areSo 3 = .ok (.aload_n 0, 1) := by decide +kernel
theorem dX5_areSo_4 : decode cX5_areSo 4 = .ok (.getfield 9, 3) := by decide +kernel
theorem dX5_areSo_7 : decode cX5_areSo 7 = .ok (.if_icmp .ge 46, 3) := by decide +kernel
theorem dX5_areSo_10 : decode cX5_areSo 10 = .ok (.iload_n 2, 1) := by decide +kernel
theorem dX5_areSo_11 : decode cX5_areSo 11 = .ok (.bipush 8, 2) := by decide +kernel
theorem dX5_areSo_13 : decode cX5_areSo 13 = .ok (.if_icmp .ge 40, 3) := by decide +kernel
theorem dX5_areSo_16 : decode cX5_areSo 16 = .ok (.aload_n 0, 1) := by decide +kernel
theorem dX5_areSo_17 : decode cX5_areSo 17 = .ok (.getfield 15, 3) := by decide +kernel
theorem dX5_areSo_20 : decode cX5_areSo 20 = .ok (.iload_n 2, 1) := by decide +kernel
theorem dX5_areSo_21 : decode cX5_areSo 21 = .ok (.iaload, 1) := by decide +kernel
theorem dX5_areSo_22 : decode cX5_areSo 22 = .ok (.istore_n 3, 1) := by decide +kernel
theorem dX5_areSo_23 : decode cX5_areSo 23 = .ok (.iload_n 3, 1) := by decide +kernel
theorem dX5_areSo_24 : decode cX5_areSo 24 = .ok (.aload_n 1, 1) := by decide +kernel
theorem dX5_areSo_25 : decode cX5_areSo 25 = .ok (.getfield 22, 3) := by decide +kernel
theorem dX5_areSo_28 : decode cX5_areSo 28 = .ok (.if_icmp .ge 17, 3) := by decide +kernel
theorem dX5_areSo_31 : decode cX5_areSo 31 = .ok (.aload_n 1, 1) := by decide +kernel
theorem dX5_areSo_32 : decode cX5_areSo 32 = .ok (.iload_n 3, 1) := by decide +kernel
theorem dX5_areSo_33 : decode cX5_areSo 33 = .ok (.invokevirtual 27, 3) := by decide +kernel
theorem dX5_areSo_36 : decode cX5_areSo 36 = .ok (.aload_n 0, 1) := by decide +kernel
theorem dX5_areSo_37 : decode cX5_areSo 37 = .ok (.getfield 19, 3) := by decide +kernel
theorem dX5_areSo_40 : decode cX5_areSo 40 = .ok (.iload_n 2, 1) := by decide +kernel
theorem dX5_areSo_41 : decode cX5_areSo 41 = .ok (.iaload, 1) := by decide +kernel
theorem dX5_areSo_42 : decode cX5_areSo 42 = .ok (.if_icmp .eq 5, 3) := by decide +kernel
theorem dX5_areSo_45 : decode cX5_areSo 45 = .ok (.iconst 0, 1) := by decide +kernel
theorem dX5_areSo_46 : decode cX5_areSo 46 = .ok (.ireturn, 1) := by decide +kernel
theorem dX5_areSo_47 : decode cX5_areSo 47 = .ok (.iinc 2 1, 3) := by decide +kernel
theorem dX5_areSo_50 : decode cX5_areSo 50 = .ok (.goto (-48), 3) := by decide +kernel
theorem dX5_areSo_53 : decode cX5_areSo 53 = .ok (.iconst 1, 1) := by decide +kernel
theorem dX5_areSo_54 : decode cX5_areSo 54 = .ok (.ireturn, 1) := by decide +kernel
theorem dX6_init_0 : decode cX6_init 0 = .ok (.aload_n 0, 1) := by decide +kernel
theorem dX6_init_1 : decode cX6_init 1 = .ok (.invokespecial 3, 3) := by decide +kernel
theorem dX6_init_4 : decode cX6_init 4 = .ok (.aload_n 0, 1) := by decide +kernel
theorem dX6_init_5 : decode cX6_init 5 = .ok (.iconst 0, 1) := by decide +kernel
theorem dX6_init_6 : decode cX6_init 6 = .ok (.putfield 9, 3) := by decide +kernel
theorem dX6_init_9 : decode cX6_init 9 = .ok (.aload_n 0, 1) := by decide +kernel
theorem dX6_init_10 : decode cX6_init 10 = .ok (.bipush 8, 2) := by decide +kernel
theorem dX6_init_12 : decode cX6_init 12 = .ok (.newarray .int, 2) := by decide +kernel
theorem dX6_init_14 : decode cX6_init 14 = .ok (.putfield 15, 3) := by decide +kernel
theorem dX6_init_17 : decode cX6_init 17 = .ok (.aload_n 0, 1) := by decide +kernel
theorem dX6_init_18 : decode cX6_init 18 = .ok (.bipush 8, 2) := by decide +kernel
theorem dX6_init_20 : decode cX6_init 20 = .ok (.newarray .int, 2) := by decide +kernel
theorem dX6_init_22 : decode cX6_init 22 = .ok (.putfield 19, 3) := by decide +kernel
theorem dX6_init_25 : decode cX6_init 25 = .ok (.aload_n 0, 1) := by decide +kernel
theorem dX6_init_26 : decode cX6_init 26 = .ok (.bipush 24, 2) := by decide +kernel
theorem dX6_init_28 : decode cX6_init 28 = .ok (.newarray .int, 2) := by decide +kernel
theorem dX6_init_30 : decode cX6_init 30 = .ok (.putfield 22, 3) := by decide +kernel
theorem dX6_init_33 : decode cX6_init 33 = .ok (.return_, 1) := by decide +kernel
theorem dX6_isSize_0 : decode cX6_isSize 0 = .ok (.iload_n 0, 1) := by decide +kernel
theorem dX6_isSize_1 : decode cX6_isSize 1 = .ok (.ifCond .lt 12, 3) := by decide +kernel
theorem dX6_isSize_4 : decode cX6_isSize 4 = .ok (.iload_n 0, 1) := by decide +kernel
theorem dX6_isSize_5 : decode cX6_isSize 5 = .ok (.iconst 2, 1) := by decide +kernel
theorem dX6_isSize_6 : decode cX6_isSize 6 = .ok (.if_icmp .gt 7, 3) := by decide +kernel
theorem dX6_isSize_9 : decode cX6_isSize 9 = .ok (.iconst 1, 1) := by decide +kernel
theorem dX6_isSize_10 : decode cX6_isSize 10 = .ok (.goto 4, 3) := by decide +kernel
theorem dX6_isSize_13 : decode cX6_isSize 13 = .ok (.iconst 0, 1) := by decide +kernel
theorem dX6_isSize_14 : decode cX6_isSize 14 = .ok (.ireturn, 1) := by decide +kernel
theorem dX6_has_0 : decode cX6_has 0 = .ok (.iload_n 1, 1) := by decide +kernel
theorem dX6_has_1 : decode cX6_has 1 = .ok (.ifCond .lt 21, 3) := by decide +kernel
theorem dX6_has_4 : decode cX6_has 4 = .ok (.iload_n 1, 1) := by decide +kernel
theorem dX6_has_5 : decode cX6_has 5 = .ok (.aload_n 0, 1) := by decide +kernel
theorem dX6_has_6 : decode cX6_has 6 = .ok (.getfield 9, 3) := by decide +kernel
theorem dX6_has_9 : decode cX6_has 9 = .ok (.if_icmp .ge 13, 3) := by decide +kernel
theorem dX6_has_12 : decode cX6_has 12 = .ok (.iload_n 1, 1) := by decide +kernel
theorem dX6_has_13 : decode cX6_has 13 = .ok (.bipush 8, 2) := by decide +kernel
theorem dX6_has_15 : decode cX6_has 15 = .ok (.if_icmp .ge 7, 3) := by decide +kernel
theorem dX6_has_18 : decode cX6_has 18 = .ok (.iconst 1, 1) := by decide +kernel
theorem dX6_has_19 : decode cX6_has 19 = .ok (.goto 4, 3) := by decide +kernel
theorem dX6_has_22 : decode cX6_has 22 = .ok (.iconst 0, 1) := by decide +kernel
theorem dX6_has_23 : decode cX6_has 23 = .ok (.ireturn, 1) := by decide +kernel
theorem dX6_kindOf_0 : decode cX6_kindOf 0 = .ok (.aload_n 0, 1) := by decide +kernel
theorem dX6_kindOf_1 : decode cX6_kindOf 1 = .ok (.iload_n 1, 1) := by decide +kernel
theorem dX6_kindOf_2 : decode cX6_kindOf 2 = .ok (.invokevirtual 25, 3) := by decide +kernel
theorem dX6_kindOf_5 : decode cX6_kindOf 5 = .ok (.ifCond .eq 12, 3) := by decide +kernel
theorem dX6_kindOf_8 : decode cX6_kindOf 8 = .ok (.aload_n 0, 1) := by decide +kernel
theorem dX6_kindOf_9 : decode cX6_kindOf 9 = .ok (.getfield 15, 3) := by decide +kernel
theorem dX6_kindOf_12 : decode cX6_kindOf 12 = .ok (.iload_n 1, 1) := by decide +kernel
theorem dX6_kindOf_13 : decode cX6_kindOf 13 = .ok (.iaload, 1) := by decide +kernel
theorem dX6_kindOf_14 : decode cX6_kindOf 14 = .ok (.goto 4, 3) := by decide +kernel
theorem dX6_kindOf_17 : decode cX6_kindOf 17 = .ok (.iconst 0, 1) := by decide +kernel
theorem dX6_kindOf_18 : decode cX6_kindOf 18 = .ok (.ireturn, 1) := by decide +kernel
theorem dX6_sideOf_0 : decode cX6_sideOf 0 = .ok (.aload_n 0, 1) := by decide +kernel
theorem dX6_sideOf_1 : decode cX6_sideOf 1 = .ok (.iload_n 1, 1) := by decide +kernel
theorem dX6_sideOf_2 : decode cX6_sideOf 2 = .ok (.invokevirtual 25, 3) := by decide +kernel
theorem dX6_sideOf_5 : decode cX6_sideOf 5 = .ok (.ifCond .eq 12, 3) := by decide +kernel
theorem dX6_sideOf_8 : decode cX6_sideOf 8 = .ok (.aload_n 0, 1) := by decide +kernel
theorem dX6_sideOf_9 : decode cX6_sideOf 9 = .ok (.getfield 19, 3) := by decide +kernel
theorem dX6_sideOf_12 : decode cX6_sideOf 12 = .ok (.iload_n 1, 1) := by decide +kernel
theorem dX6_sideOf_13 : decode cX6_sideOf 13 = .ok (.iaload, 1) := by decide +kernel
theorem dX6_sideOf_14 : decode cX6_sideOf 14 = .ok (.goto 4, 3) := by decide +kernel
theorem dX6_sideOf_17 : decode cX6_sideOf 17 = .ok (.iconst 0, 1) := by decide +kernel
theorem dX6_sideOf_18 : decode cX6_sideOf 18 = .ok (.ireturn, 1) := by decide +kernel
theorem dX6_sizeOf_0 : decode cX6_sizeOf 0 = .ok (.aload_n 0, 1) := by decide +kernel
theorem dX6_sizeOf_1 : decode cX6_sizeOf 1 = .ok (.iload_n 1, 1) := by decide +kernel
theorem dX6_sizeOf_2 : decode cX6_sizeOf 2 = .ok (.invokevirtual 25, 3) := by decide +kernel
theorem dX6_sizeOf_5 : decode cX6_sizeOf 5 = .ok (.ifCond .eq 23, 3) := by decide +kernel
theorem dX6_sizeOf_8 : decode cX6_sizeOf 8 = .ok (.iload_n 2, 1) := by decide +kernel
theorem dX6_sizeOf_9 : decode cX6_sizeOf 9 = .ok (.invokestatic 29, 3) := by decide +kernel
theorem dX6_sizeOf_12 : decode cX6_sizeOf 12 = .ok (.ifCond .eq 16, 3) := by decide +kernel
theorem dX6_sizeOf_15 : decode cX6_sizeOf 15 = .ok (.aload_n 0, 1) := by decide +kernel
theorem dX6_sizeOf_16 : decode cX6_sizeOf 16 = .ok (.getfield 22, 3) := by decide +kernel
theorem dX6_sizeOf_19 : decode cX6_sizeOf 19 = .ok (.iload_n 1, 1) := by decide +kernel
theorem dX6_sizeOf_20 : decode cX6_sizeOf 20 = .ok (.iconst 3, 1) := by decide +kernel
theorem dX6_sizeOf_21 : decode cX6_sizeOf 21 = .ok (.imul, 1) := by decide +kernel
theorem dX6_sizeOf_22 : decode cX6_sizeOf 22 = .ok (.iload_n 2, 1) := by decide +kernel
theorem dX6_sizeOf_23 : decode cX6_sizeOf 23 = .ok (.iadd, 1) := by decide +kernel
theorem dX6_sizeOf_24 : decode cX6_sizeOf 24 = .ok (.iaload, 1) := by decide +kernel
theorem dX6_sizeOf_25 : decode cX6_sizeOf 25 = .ok (.goto 4, 3) := by decide +kernel
theorem dX6_sizeOf_28 : decode cX6_sizeOf 28 = .ok (.iconst 0, 1) := by decide +kernel
theorem dX6_sizeOf_29 : decode cX6_sizeOf 29 = .ok (.ireturn, 1) := by decide +kernel
theorem dX6_change_0 : decode cX6_change 0 = .ok (.aload_n 0, 1) := by decide +kernel
theorem dX6_change_1 : decode cX6_change 1 = .ok (.iload_n 1, 1) := by decide +kernel
theorem dX6_change_2 : decode cX6_change 2 = .ok (.invokevirtual 25, 3) := by decide +kernel
theorem dX6_change_5 : decode cX6_change 5 = .ok (.ifCond .eq 21, 3) := by decide +kernel
theorem dX6_change_8 : decode cX6_change 8 = .ok (.iload_n 2, 1) := by decide +kernel
theorem dX6_change_9 : decode cX6_change 9 = .ok (.invokestatic 29, 3) := by decide +kernel
theorem dX6_change_12 : decode cX6_change 12 = .ok (.ifCond .eq 14, 3) := by decide +kernel
theorem dX6_change_15 : decode cX6_change 15 = .ok (.aload_n 0, 1) := by decide +kernel
theorem dX6_change_16 : decode cX6_change 16 = .ok (.getfield 22, 3) := by decide +kernel
theorem dX6_change_19 : decode cX6_change 19 = .ok (.iload_n 1, 1) := by decide +kernel
theorem dX6_change_20 : decode cX6_change 20 = .ok (.iconst 3, 1) := by decide +kernel
theorem dX6_change_21 : decode cX6_change 21 = .ok (.imul, 1) := by decide +kernel
theorem dX6_change_22 : decode cX6_change 22 = .ok (.iload_n 2, 1) := by decide +kernel
theorem dX6_change_23 : decode cX6_change 23 = .ok (.iadd, 1) := by decide +kernel
theorem dX6_change_24 : decode cX6_change 24 = .ok (.iload_n 3, 1) := by decide +kernel
theorem dX6_change_25 : decode cX6_change 25 = .ok (.iastore, 1) := by decide +kernel
theorem dX6_change_26 : decode cX6_change 26 = .ok (.return_, 1) := by decide +kernel
theorem dX6_become_0 : decode cX6_become 0 = .ok (.aload_n 0, 1) := by decide +kernel
theorem dX6_become_1 : decode cX6_become 1 = .ok (.aload_n 1, 1) := by decide +kernel
theorem dX6_become_2 : decode cX6_become 2 = .ok (.getfield 9, 3) := by decide +kernel
theorem dX6_become_5 : decode cX6_become 5 = .ok (.putfield 9, 3) := by decide +kernel
theorem dX6_become_8 : decode cX6_become 8 = .ok (.aload_n 1, 1) := by decide +kernel
theorem dX6_become_9 : decode cX6_become 9 = .ok (.getfield 15, 3) := by decide +kernel
theorem dX6_become_12 : decode cX6_become 12 = .ok (.iconst 0, 1) := by decide +kernel
theorem dX6_become_13 : decode cX6_become 13 = .ok (.aload_n 0, 1) := by decide +kernel
theorem dX6_become_14 : decode cX6_become 14 = .ok (.getfield 15, 3) := by decide +kernel
theorem dX6_become_17 : decode cX6_become 17 = .ok (.iconst 0, 1) := by decide +kernel
theorem dX6_become_18 : decode cX6_become 18 = .ok (.bipush 8, 2) := by decide +kernel
theorem dX6_become_20 : decode cX6_become 20 = .ok (.invokestatic 32, 3) := by decide +kernel
theorem dX6_become_23 : decode cX6_become 23 = .ok (.aload_n 1, 1) := by decide +kernel
theorem dX6_become_24 : decode cX6_become 24 = .ok (.getfield 19, 3) := by decide +kernel
theorem dX6_become_27 : decode cX6_become 27 = .ok (.iconst 0, 1) := by decide +kernel
theorem dX6_become_28 : decode cX6_become 28 = .ok (.aload_n 0, 1) := by decide +kernel
theorem dX6_become_29 : decode cX6_become 29 = .ok (.getfield 19, 3) := by decide +kernel
theorem dX6_become_32 : decode cX6_become 32 = .ok (.iconst 0, 1) := by decide +kernel
theorem dX6_become_33 : decode cX6_become 33 = .ok (.bipush 8, 2) := by decide +kernel
theorem dX6_become_35 : decode cX6_become 35 = .ok (.invokestatic 32, 3) := by decide +kernel
theorem dX6_become_38 : decode cX6_become 38 = .ok (.aload_n 1, 1) := by decide +kernel
theorem dX6_become_39 : decode cX6_become 39 = .ok (.getfield 22, 3) := by decide +kernel
theorem dX6_become_42 : decode cX6_become 42 = .ok (.iconst 0, 1) := by decide +kernel
theorem dX6_become_43 : decode cX6_become 43 = .ok (.aload_n 0, 1) := by decide +kernel
theorem dX6_become_44 : decode cX6_become 44 = .ok (.getfield 22, 3) := by decide +kernel
theorem dX6_become_47 : decode cX6_become 47 = .ok (.iconst 0, 1) := by decide +kernel
theorem dX6_become_48 : decode cX6_become 48 = .ok (.bipush 24, 2) := by decide +kernel
theorem dX6_become_50 : decode cX6_become 50 = .ok (.invokestatic 32, 3) := by decide +kernel
theorem dX6_become_53 : decode cX6_become 53 = .ok (.return_, 1) := by decide +kernel
theorem dX6_read_0 : decode cX6_read 0 = .ok (.aload_n 0, 1) := by decide +kernel
theorem dX6_read_1 : decode cX6_read 1 = .ok (.iconst 0, 1) := by decide +kernel
theorem dX6_read_2 : decode cX6_read 2 = .ok (.putfield 9, 3) := by decide +kernel
theorem dX6_read_5 : decode cX6_read 5 = .ok (.iconst 0, 1) := by decide +kernel
theorem dX6_read_6 : decode cX6_read 6 = .ok (.istore 5, 2) := by decide +kernel
theorem dX6_read_8 : decode cX6_read 8 = .ok (.iconst 0, 1) := by decide +kernel
theorem dX6_read_9 : decode cX6_read 9 = .ok (.istore 6, 2) := by decide +kernel
theorem dX6_read_11 : decode cX6_read 11 = .ok (.iload 6, 2) := by decide +kernel
theorem dX6_read_13 : decode cX6_read 13 = .ok (.iload 4, 2) := by decide +kernel
theorem dX6_read_15 : decode cX6_read 15 = .ok (.if_icmp .ge 35, 3) := by decide +kernel
theorem dX6_read_18 : decode cX6_read 18 = .ok (.aload_n 0, 1) := by decide +kernel
theorem dX6_read_19 : decode cX6_read 19 = .ok (.iload 5, 2) := by decide +kernel
theorem dX6_read_21 : decode cX6_read 21 = .ok (.aload_n 1, 1) := by decide +kernel
theorem dX6_read_22 : decode cX6_read 22 = .ok (.iload_n 2, 1) := by decide +kernel
theorem dX6_read_23 : decode cX6_read 23 = .ok (.iload_n 3, 1) := by decide +kernel
theorem dX6_read_24 : decode cX6_read 24 = .ok (.iload 6, 2) := by decide +kernel
theorem dX6_read_26 : decode cX6_read 26 = .ok (.iadd, 1) := by decide +kernel
theorem dX6_read_27 : decode cX6_read 27 = .ok (.invokevirtual 38, 3) := by decide +kernel
theorem dX6_read_30 : decode cX6_read 30 = .ok (.invokevirtual 44, 3) := by decide +kernel
theorem dX6_read_33 : decode cX6_read 33 = .ok (.istore 5, 2) := by decide +kernel
theorem dX6_read_35 : decode cX6_read 35 = .ok (.iload 5, 2) := by decide +kernel
theorem dX6_read_37 : decode cX6_read 37 = .ok (.iconst (-1), 1) := by decide +kernel
theorem dX6_read_38 : decode cX6_read 38 = .ok (.if_icmp .ne 6, 3) := by decide +kernel
theorem dX6_read_41 : decode cX6_read 41 = .ok (.iload 6, 2) := by decide +kernel
theorem dX6_read_43 : decode cX6_read 43 = .ok (.ireturn, 1) := by decide +kernel
theorem dX6_read_44 : decode cX6_read 44 = .ok (.iinc 6 1, 3) := by decide +kernel
theorem dX6_read_47 : decode cX6_read 47 = .ok (.goto (-36), 3) := by decide +kernel
theorem dX6_read_50 : decode cX6_read 50 = .ok (.iload 5, 2) := by decide +kernel
theorem dX6_read_52 : decode cX6_read 52 = .ok (.iconst 4, 1) := by decide +kernel
theorem dX6_read_53 : decode cX6_read 53 = .ok (.if_icmp .eq 9, 3) := by decide +kernel
theorem dX6_read_56 : decode cX6_read 56 = .ok (.iload 5, 2) := by decide +kernel
theorem dX6_read_58 : decode cX6_read 58 = .ok (.iconst 5, 1) := by decide +kernel
theorem dX6_read_59 : decode cX6_read 59 = .ok (.if_icmp .ne 7, 3) := by decide +kernel
theorem dX6_read_62 : decode cX6_read 62 = .ok (.iconst (-1), 1) := by decide +kernel
theorem dX6_read_63 : decode cX6_read 63 = .ok (.goto 5, 3) := by decide +kernel
theorem dX6_read_66 : decode cX6_read 66 = .ok (.iload 4, 2) := by decide +kernel
theorem dX6_read_68 : decode cX6_read 68 = .ok (.ireturn, 1) := by decide +kernel
theorem dX6_readCode_0 : decode cX6_readCode 0 = .ok (.iload_n 1, 1) := by decide +kernel
theorem dX6_readCode_1 : decode cX6_readCode 1 = .ok (.ifCond .ne 19, 3) := by decide +kernel
theorem dX6_readCode_4 : decode cX6_readCode 4 = .ok (.aload_n 0, 1) := by decide +kernel
theorem dX6_readCode_5 : decode cX6_readCode 5 = .ok (.iload_n 2, 1) := by decide +kernel
theorem dX6_readCode_6 : decode cX6_readCode 6 = .ok (.invokevirtual 47, 3) := by decide +kernel
theorem dX6_readCode_9 : decode cX6_readCode 9 = .ok (.ifCond .eq 9, 3) := by decide +kernel
theorem dX6_readCode_12 : decode cX6_readCode 12 = .ok (.iload_n 1, 1) := by decide +kernel
theorem dX6_readCode_13 : decode cX6_readCode 13 = .ok (.iconst 1, 1) := by decide +kernel
theorem dX6_readCode_14 : decode cX6_readCode 14 = .ok (.iadd, 1) := by decide +kernel
theorem dX6_readCode_15 : decode cX6_readCode 15 = .ok (.goto 4, 3) := by decide +kernel
theorem dX6_readCode_18 : decode cX6_readCode 18 = .ok (.iconst (-1), 1) := by decide +kernel
theorem dX6_readCode_19 : decode cX6_readCode 19 = .ok (.ireturn, 1) := by decide +kernel
theorem dX6_readCode_20 : decode cX6_readCode 20 = .ok (.iload_n 1, 1) := by decide +kernel
theorem dX6_readCode_21 : decode cX6_readCode 21 = .ok (.iconst 3, 1) := by decide +kernel
theorem dX6_readCode_22 : decode cX6_readCode 22 = .ok (.if_icmp .gt 38, 3) := by decide +kernel
theorem dX6_readCode_25 : decode cX6_readCode 25 = .ok (.iload_n 2, 1) := by decide +kernel
theorem dX6_readCode_26 : decode cX6_readCode 26 = .ok (.bipush 48, 2) := by decide +kernel
theorem dX6_readCode_28 : decode cX6_readCode 28 = .ok (.if_icmp .lt 9, 3) := by decide +kernel
theorem dX6_readCode_31 : decode cX6_readCode 31 = .ok (.iload_n 2, 1) := by decide +kernel
theorem dX6_readCode_32 : decode cX6_readCode 32 = .ok (.bipush 57, 2) := by decide +kernel
theorem dX6_readCode_34 : decode cX6_readCode 34 = .ok (.if_icmp .le 5, 3) := by decide +kernel
theorem dX6_readCode_37 : decode cX6_readCode 37 = .ok (.iconst (-1), 1) := by decide +kernel
theorem dX6_readCode_38 : decode cX6_readCode 38 = .ok (.ireturn, 1) := by decide +kernel
theorem dX6_readCode_39 : decode cX6_readCode 39 = .ok (.aload_n 0, 1) := by decide +kernel
theorem dX6_readCode_40 : decode cX6_readCode 40 = .ok (.aload_n 0, 1) := by decide +kernel
theorem dX6_readCode_41 : decode cX6_readCode 41 = .ok (.getfield 9, 3) := by decide +kernel
theorem dX6_readCode_44 : decode cX6_readCode 44 = .ok (.iconst 1, 1) := by decide +kernel
theorem dX6_readCode_45 : decode cX6_readCode 45 = .ok (.isub, 1) := by decide +kernel
theorem dX6_readCode_46 : decode cX6_readCode 46 = .ok (.iload_n 1, 1) := by decide +kernel
theorem dX6_readCode_47 : decode cX6_readCode 47 = .ok (.iconst 1, 1) := by decide +kernel
theorem dX6_readCode_48 : decode cX6_readCode 48 = .ok (.isub, 1) := by decide +kernel
theorem dX6_readCode_49 : decode cX6_readCode 49 = .ok (.iload_n 2, 1) := by decide +kernel
theorem dX6_readCode_50 : decode cX6_readCode 50 = .ok (.bipush 48, 2) := by decide +kernel
theorem dX6_readCode_52 : decode cX6_readCode 52 = .ok (.isub, 1) := by decide +kernel
theorem dX6_readCode_53 : decode cX6_readCode 53 = .ok (.invokevirtual 50, 3) := by decide +kernel
theorem dX6_readCode_56 : decode cX6_readCode 56 = .ok (.iload_n 1, 1) := by decide +kernel
theorem dX6_readCode_57 : decode cX6_readCode 57 = .ok (.iconst 1, 1) := by decide +kernel
theorem dX6_readCode_58 : decode cX6_readCode 58 = .ok (.iadd, 1) := by decide +kernel
theorem dX6_readCode_59 : decode cX6_readCode 59 = .ok (.ireturn, 1) := by decide +kernel
theorem dX6_readCode_60 : decode cX6_readCode 60 = .ok (.iload_n 2, 1) := by decide +kernel
theorem dX6_readCode_61 : decode cX6_readCode 61 = .ok (.bipush 59, 2) := by decide +kernel
theorem dX6_readCode_63 : decode cX6_readCode 63 = .ok (.if_icmp .ne 18, 3) := by decide +kernel
theorem dX6_readCode_66 : decode cX6_readCode 66 = .ok (.aload_n 0, 1) := by decide +kernel
theorem dX6_readCode_67 : decode cX6_readCode 67 = .ok (.getfield 9, 3) := by decide +kernel
theorem dX6_readCode_70 : decode cX6_readCode 70 = .ok (.bipush 8, 2) := by decide +kernel
theorem dX6_readCode_72 : decode cX6_readCode 72 = .ok (.if_icmp .ge 7, 3) := by decide +kernel
theorem dX6_readCode_75 : decode cX6_readCode 75 = .ok (.iconst 0, 1) := by decide +kernel
theorem dX6_readCode_76 : decode cX6_readCode 76 = .ok (.goto 4, 3) := by decide +kernel
theorem dX6_readCode_79 : decode cX6_readCode 79 = .ok (.iconst (-1), 1) := by decide +kernel
theorem dX6_readCode_80 : decode cX6_readCode 80 = .ok (.ireturn, 1) := by decide +kernel
theorem dX6_readCode_81 : decode cX6_readCode 81 = .ok (.iload_n 2, 1) := by decide +kernel
theorem dX6_readCode_82 : decode cX6_readCode 82 = .ok (.bipush 104, 2) := by decide +kernel
theorem dX6_readCode_84 : decode cX6_readCode 84 = .ok (.if_icmp .ne 36, 3) := by decide +kernel
theorem dX6_readCode_87 : decode cX6_readCode 87 = .ok (.iload_n 1, 1) := by decide +kernel
theorem dX6_readCode_88 : decode cX6_readCode 88 = .ok (.iconst 4, 1) := by decide +kernel
theorem dX6_readCode_89 : decode cX6_readCode 89 = .ok (.if_icmp .ne 31, 3) := by decide +kernel
theorem dX6_readCode_92 : decode cX6_readCode 92 = .ok (.aload_n 0, 1) := by decide +kernel
theorem dX6_readCode_93 : decode cX6_readCode 93 = .ok (.aload_n 0, 1) := by decide +kernel
theorem dX6_readCode_94 : decode cX6_readCode 94 = .ok (.getfield 9, 3) := by decide +kernel
theorem dX6_readCode_97 : decode cX6_readCode 97 = .ok (.iconst 1, 1) := by decide +kernel
theorem dX6_readCode_98 : decode cX6_readCode 98 = .ok (.isub, 1) := by decide +kernel
theorem dX6_readCode_99 : decode cX6_readCode 99 = .ok (.invokevirtual 54, 3) := by decide +kernel
theorem dX6_readCode_102 : decode cX6_readCode 102 = .ok (.iconst 1, 1) := by decide +kernel
theorem dX6_readCode_103 : decode cX6_readCode 103 = .ok (.if_icmp .ne 17, 3) := by decide +kernel
theorem dX6_readCode_106 : decode cX6_readCode 106 = .ok (.aload_n 0, 1) := by decide +kernel
theorem dX6_readCode_107 : decode cX6_readCode 107 = .ok (.getfield 15, 3) := by decide +kernel
theorem dX6_readCode_110 : decode cX6_readCode 110 = .ok (.aload_n 0, 1) := by decide +kernel
theorem dX6_readCode_111 : decode cX6_readCode 111 = .ok (.getfield 9, 3) := by decide +kernel
theorem dX6_readCode_114 : decode cX6_readCode 114 = .ok (.iconst 1, 1) := by decide +kernel
theorem dX6_readCode_115 : decode cX6_readCode 115 = .ok (.isub, 1) := by decide +kernel
theorem dX6_readCode_116 : decode cX6_readCode 116 = .ok (.iconst 2, 1) := by decide +kernel
theorem dX6_readCode_117 : decode cX6_readCode 117 = .ok (.iastore, 1) := by decide +kernel
theorem dX6_readCode_118 : decode cX6_readCode 118 = .ok (.iconst 5, 1) := by decide +kernel
theorem dX6_readCode_119 : decode cX6_readCode 119 = .ok (.ireturn, 1) := by decide +kernel
theorem dX6_readCode_120 : decode cX6_readCode 120 = .ok (.iconst (-1), 1) := by decide +kernel
theorem dX6_readCode_121 : decode cX6_readCode 121 = .ok (.ireturn, 1) := by decide +kernel
theorem dX6_beginTooth_0 : decode cX6_beginTooth 0 = .ok (.aload_n 0, 1) := by decide +kernel
theorem dX6_beginTooth_1 : decode cX6_beginTooth 1 = .ok (.getfield 9, 3) := by decide +kernel
theorem dX6_beginTooth_4 : decode cX6_beginTooth 4 = .ok (.bipush 8, 2) := by decide +kernel
theorem dX6_beginTooth_6 : decode cX6_beginTooth 6 = .ok (.if_icmp .ge 21, 3) := by decide +kernel
theorem dX6_beginTooth_9 : decode cX6_beginTooth 9 = .ok (.iload_n 1, 1) := by decide +kernel
theorem dX6_beginTooth_10 : decode cX6_beginTooth 10 = .ok (.bipush 108, 2) := by decide +kernel
theorem dX6_beginTooth_12 : decode cX6_beginTooth 12 = .ok (.if_icmp .eq 17, 3) := by decide +kernel
theorem dX6_beginTooth_15 : decode cX6_beginTooth 15 = .ok (.iload_n 1, 1) := by decide +kernel
theorem dX6_beginTooth_16 : decode cX6_beginTooth 16 = .ok (.bipush 99, 2) := by decide +kernel
theorem dX6_beginTooth_18 : decode cX6_beginTooth 18 = .ok (.if_icmp .eq 11, 3) := by decide +kernel
theorem dX6_beginTooth_21 : decode cX6_beginTooth 21 = .ok (.iload_n 1, 1) := by decide +kernel
theorem dX6_beginTooth_22 : decode cX6_beginTooth 22 = .ok (.bipush 114, 2) := by decide +kernel
theorem dX6_beginTooth_24 : decode cX6_beginTooth 24 = .ok (.if_icmp .eq 5, 3) := by decide +kernel
theorem dX6_beginTooth_27 : decode cX6_beginTooth 27 = .ok (.iconst 0, 1) := by decide +kernel
theorem dX6_beginTooth_28 : decode cX6_beginTooth 28 = .ok (.ireturn, 1) := by decide +kernel
theorem dX6_beginTooth_29 : decode cX6_beginTooth 29 = .ok (.aload_n 0, 1) := by decide +kernel
theorem dX6_beginTooth_30 : decode cX6_beginTooth 30 = .ok (.getfield 15, 3) := by decide +kernel
theorem dX6_beginTooth_33 : decode cX6_beginTooth 33 = .ok (.aload_n 0, 1) := by decide +kernel
theorem dX6_beginTooth_34 : decode cX6_beginTooth 34 = .ok (.getfield 9, 3) := by decide +kernel
theorem dX6_beginTooth_37 : decode cX6_beginTooth 37 = .ok (.iload_n 1, 1) := by decide +kernel
theorem dX6_beginTooth_38 : decode cX6_beginTooth 38 = .ok (.bipush 99, 2) := by decide +kernel
theorem dX6_beginTooth_40 : decode cX6_beginTooth 40 = .ok (.if_icmp .ne 7, 3) := by decide +kernel
theorem dX6_beginTooth_43 : decode cX6_beginTooth 43 = .ok (.iconst 0, 1) := by decide +kernel
theorem dX6_beginTooth_44 : decode cX6_beginTooth 44 = .ok (.goto 4, 3) := by decide +kernel
theorem dX6_beginTooth_47 : decode cX6_beginTooth 47 = .ok (.iconst 1, 1) := by decide +kernel
theorem dX6_beginTooth_48 : decode cX6_beginTooth 48 = .ok (.iastore, 1) := by decide +kernel
theorem dX6_beginTooth_49 : decode cX6_beginTooth 49 = .ok (.aload_n 0, 1) := by decide +kernel
theorem dX6_beginTooth_50 : decode cX6_beginTooth 50 = .ok (.getfield 19, 3) := by decide +kernel
theorem dX6_beginTooth_53 : decode cX6_beginTooth 53 = .ok (.aload_n 0, 1) := by decide +kernel
theorem dX6_beginTooth_54 : decode cX6_beginTooth 54 = .ok (.getfield 9, 3) := by decide +kernel
theorem dX6_beginTooth_57 : decode cX6_beginTooth 57 = .ok (.iload_n 1, 1) := by decide +kernel
theorem dX6_beginTooth_58 : decode cX6_beginTooth 58 = .ok (.bipush 108, 2) := by decide +kernel
theorem dX6_beginTooth_60 : decode cX6_beginTooth 60 = .ok (.if_icmp .ne 7, 3) := by decide +kernel
theorem dX6_beginTooth_63 : decode cX6_beginTooth 63 = .ok (.iconst (-1), 1) := by decide +kernel
theorem dX6_beginTooth_64 : decode cX6_beginTooth 64 = .ok (.goto 14, 3) := by decide +kernel
theorem dX6_beginTooth_67 : decode cX6_beginTooth 67 = .ok (.iload_n 1, 1) := by decide +kernel
theorem dX6_beginTooth_68 : decode cX6_beginTooth 68 = .ok (.bipush 114, 2) := by decide +kernel
theorem dX6_beginTooth_70 : decode cX6_beginTooth 70 = .ok (.if_icmp .ne 7, 3) := by decide +kernel
theorem dX6_beginTooth_73 : decode cX6_beginTooth 73 = .ok (.iconst 1, 1) := by decide +kernel
theorem dX6_beginTooth_74 : decode cX6_beginTooth 74 = .ok (.goto 4, 3) := by decide +kernel
theorem dX6_beginTooth_77 : decode cX6_beginTooth 77 = .ok (.iconst 0, 1) := by decide +kernel
theorem dX6_beginTooth_78 : decode cX6_beginTooth 78 = .ok (.iastore, 1) := by decide +kernel
theorem dX6_beginTooth_79 : decode cX6_beginTooth 79 = .ok (.aload_n 0, 1) := by decide +kernel
theorem dX6_beginTooth_80 : decode cX6_beginTooth 80 = .ok (.dup, 1) := by decide +kernel
theorem dX6_beginTooth_81 : decode cX6_beginTooth 81 = .ok (.getfield 9, 3) := by decide +kernel
theorem dX6_beginTooth_84 : decode cX6_beginTooth 84 = .ok (.iconst 1, 1) := by decide +kernel
theorem dX6_beginTooth_85 : decode cX6_beginTooth 85 = .ok (.iadd, 1) := by decide +kernel
theorem dX6_beginTooth_86 : decode cX6_beginTooth 86 = .ok (.putfield 9, 3) := by decide +kernel
theorem dX6_beginTooth_89 : decode cX6_beginTooth 89 = .ok (.iconst 1, 1) := by decide +kernel
theorem dX6_beginTooth_90 : decode cX6_beginTooth 90 = .ok (.ireturn, 1) := by decide +kernel
theorem dX6_takes_0 : decode cX6_takes 0 = .ok (.iload_n 1, 1) := by decide +kernel
theorem dX6_takes_1 : decode cX6_takes 1 = .ok (.ifCond .lt 9, 3) := by decide +kernel
theorem dX6_takes_4 : decode cX6_takes 4 = .ok (.iload_n 1, 1) := by decide +kernel
theorem dX6_takes_5 : decode cX6_takes 5 = .ok (.bipush 8, 2) := by decide +kernel
theorem dX6_takes_7 : decode cX6_takes 7 = .ok (.if_icmp .lt 5, 3) := by decide +kernel
theorem dX6_takes_10 : decode cX6_takes 10 = .ok (.iconst 0, 1) := by decide +kernel
theorem dX6_takes_11 : decode cX6_takes 11 = .ok (.ireturn, 1) := by decide +kernel
theorem dX6_takes_12 : decode cX6_takes 12 = .ok (.aload_n 0, 1) := by decide +kernel
theorem dX6_takes_13 : decode cX6_takes 13 = .ok (.getfield 22, 3) := by decide +kernel
theorem dX6_takes_16 : decode cX6_takes 16 = .ok (.iload_n 1, 1) := by decide +kernel
theorem dX6_takes_17 : decode cX6_takes 17 = .ok (.iconst 3, 1) := by decide +kernel
theorem dX6_takes_18 : decode cX6_takes 18 = .ok (.imul, 1) := by decide +kernel
theorem dX6_takes_19 : decode cX6_takes 19 = .ok (.iconst 1, 1) := by decide +kernel
theorem dX6_takes_20 : decode cX6_takes 20 = .ok (.iadd, 1) := by decide +kernel
theorem dX6_takes_21 : decode cX6_takes 21 = .ok (.iaload, 1) := by decide +kernel
theorem dX6_takes_22 : decode cX6_takes 22 = .ok (.aload_n 0, 1) := by decide +kernel
theorem dX6_takes_23 : decode cX6_takes 23 = .ok (.getfield 22, 3) := by decide +kernel
theorem dX6_takes_26 : decode cX6_takes 26 = .ok (.iload_n 1, 1) := by decide +kernel
theorem dX6_takes_27 : decode cX6_takes 27 = .ok (.iconst 3, 1) := by decide +kernel
theorem dX6_takes_28 : decode cX6_takes 28 = .ok (.imul, 1) := by decide +kernel
theorem dX6_takes_29 : decode cX6_takes 29 = .ok (.iconst 2, 1) := by decide +kernel
theorem dX6_takes_30 : decode cX6_takes 30 = .ok (.iadd, 1) := by decide +kernel
theorem dX6_takes_31 : decode cX6_takes 31 = .ok (.iaload, 1) := by decide +kernel
theorem dX6_takes_32 : decode cX6_takes 32 = .ok (.imul, 1) := by decide +kernel
theorem dX6_takes_33 : decode cX6_takes 33 = .ok (.istore_n 2, 1) := by decide +kernel
theorem dX6_takes_34 : decode cX6_takes 34 = .ok (.iload_n 2, 1) := by decide +kernel
theorem dX6_takes_35 : decode cX6_takes 35 = .ok (.ifCond .le 19, 3) := by decide +kernel
theorem dX6_takes_38 : decode cX6_takes 38 = .ok (.aload_n 0, 1) := by decide +kernel
theorem dX6_takes_39 : decode cX6_takes 39 = .ok (.getfield 15, 3) := by decide +kernel
theorem dX6_takes_42 : decode cX6_takes 42 = .ok (.iload_n 1, 1) := by decide +kernel
theorem dX6_takes_43 : decode cX6_takes 43 = .ok (.iaload, 1) := by decide +kernel
theorem dX6_takes_44 : decode cX6_takes 44 = .ok (.iconst 2, 1) := by decide +kernel
theorem dX6_takes_45 : decode cX6_takes 45 = .ok (.if_icmp .ne 9, 3) := by decide +kernel
theorem dX6_takes_48 : decode cX6_takes 48 = .ok (.iload_n 2, 1) := by decide +kernel
theorem dX6_takes_49 : decode cX6_takes 49 = .ok (.iconst 2, 1) := by decide +kernel
theorem dX6_takes_50 : decode cX6_takes 50 = .ok (.iadd, 1) := by decide +kernel
theorem dX6_takes_51 : decode cX6_takes 51 = .ok (.goto 4, 3) := by decide +kernel
theorem dX6_takes_54 : decode cX6_takes 54 = .ok (.iload_n 2, 1) := by decide +kernel
theorem dX6_takes_55 : decode cX6_takes 55 = .ok (.ireturn, 1) := by decide +kernel
theorem dX6_leaning_0 : decode cX6_leaning 0 = .ok (.iload_n 1, 1) := by decide +kernel
theorem dX6_leaning_1 : decode cX6_leaning 1 = .ok (.ifCond .lt 9, 3) := by decide +kernel
theorem dX6_leaning_4 : decode cX6_leaning 4 = .ok (.iload_n 1, 1) := by decide +kernel
theorem dX6_leaning_5 : decode cX6_leaning 5 = .ok (.bipush 8, 2) := by decide +kernel
theorem dX6_leaning_7 : decode cX6_leaning 7 = .ok (.if_icmp .lt 5, 3) := by decide +kernel
theorem dX6_leaning_10 : decode cX6_leaning 10 = .ok (.iconst 0, 1) := by decide +kernel
theorem dX6_leaning_11 : decode cX6_leaning 11 = .ok (.ireturn, 1) := by decide +kernel
theorem dX6_leaning_12 : decode cX6_leaning 12 = .ok (.aload_n 0, 1) := by decide +kernel
theorem dX6_leaning_13 : decode cX6_leaning 13 = .ok (.getfield 19, 3) := by decide +kernel
theorem dX6_leaning_16 : decode cX6_leaning 16 = .ok (.iload_n 1, 1) := by decide +kernel
theorem dX6_leaning_17 : decode cX6_leaning 17 = .ok (.iaload, 1) := by decide +kernel
theorem dX6_leaning_18 : decode cX6_leaning 18 = .ok (.aload_n 0, 1) := by decide +kernel
theorem dX6_leaning_19 : decode cX6_leaning 19 = .ok (.getfield 22, 3) := by decide +kernel
theorem dX6_leaning_22 : decode cX6_leaning 22 = .ok (.iload_n 1, 1) := by decide +kernel
theorem dX6_leaning_23 : decode cX6_leaning 23 = .ok (.iconst 3, 1) := by decide +kernel
theorem dX6_leaning_24 : decode cX6_leaning 24 = .ok (.imul, 1) := by decide +kernel
theorem dX6_leaning_25 : decode cX6_leaning 25 = .ok (.iconst 0, 1) := by decide +kernel
theorem dX6_leaning_26 : decode cX6_leaning 26 = .ok (.iadd, 1) := by decide +kernel
theorem dX6_leaning_27 : decode cX6_leaning 27 = .ok (.iaload, 1) := by decide +kernel
theorem dX6_leaning_28 : decode cX6_leaning 28 = .ok (.imul, 1) := by decide +kernel
theorem dX6_leaning_29 : decode cX6_leaning 29 = .ok (.ireturn, 1) := by decide +kernel
theorem dX6_pushes_0 : decode cX6_pushes 0 = .ok (.aload_n 0, 1) := by decide +kernel
theorem dX6_pushes_1 : decode cX6_pushes 1 = .ok (.iload_n 1, 1) := by decide +kernel
theorem dX6_pushes_2 : decode cX6_pushes 2 = .ok (.invokevirtual 58, 3) := by decide +kernel
theorem dX6_pushes_5 : decode cX6_pushes 5 = .ok (.aload_n 0, 1) := by decide +kernel
theorem dX6_pushes_6 : decode cX6_pushes 6 = .ok (.iload_n 1, 1) := by decide +kernel
theorem dX6_pushes_7 : decode cX6_pushes 7 = .ok (.invokevirtual 61, 3) := by decide +kernel
theorem dX6_pushes_10 : decode cX6_pushes 10 = .ok (.imul, 1) := by decide +kernel
theorem dX6_pushes_11 : decode cX6_pushes 11 = .ok (.ireturn, 1) := by decide +kernel
theorem dX6_push_0 : decode cX6_push 0 = .ok (.iconst 0, 1) := by decide +kernel
theorem dX6_push_1 : decode cX6_push 1 = .ok (.istore_n 1, 1) := by decide +kernel
theorem dX6_push_2 : decode cX6_push 2 = .ok (.iconst 0, 1) := by decide +kernel
theorem dX6_push_3 : decode cX6_push 3 = .ok (.istore_n 2, 1) := by decide +kernel
theorem dX6_push_4 : decode cX6_push 4 = .ok (.iload_n 2, 1) := by decide +kernel
theorem dX6_push_5 : decode cX6_push 5 = .ok (.aload_n 0, 1) := by decide +kernel
theorem dX6_push_6 : decode cX6_push 6 = .ok (.getfield 9, 3) := by decide +kernel
theorem dX6_push_9 : decode cX6_push 9 = .ok (.if_icmp .ge 23, 3) := by decide +kernel
theorem dX6_push_12 : decode cX6_push 12 = .ok (.iload_n 1, 1) := by decide +kernel
theorem dX6_push_13 : decode cX6_push 13 = .ok (.aload_n 0, 1) := by decide +kernel
theorem dX6_push_14 : decode cX6_push 14 = .ok (.iload_n 2, 1) := by decide +kernel
theorem dX6_push_15 : decode cX6_push 15 = .ok (.invokevirtual 58, 3) := by decide +kernel
theorem dX6_push_18 : decode cX6_push 18 = .ok (.aload_n 0, 1) := by decide +kernel
theorem dX6_push_19 : decode cX6_push 19 = .ok (.iload_n 2, 1) := by decide +kernel
theorem dX6_push_20 : decode cX6_push 20 = .ok (.invokevirtual 61, 3) := by decide +kernel
theorem dX6_push_23 : decode cX6_push 23 = .ok (.imul, 1) := by decide +kernel
theorem dX6_push_24 : decode cX6_push 24 = .ok (.iadd, 1) := by decide +kernel
theorem dX6_push_25 : decode cX6_push 25 = .ok (.istore_n 1, 1) := by decide +kernel
theorem dX6_push_26 : decode cX6_push 26 = .ok (.iinc 2 1, 3) := by decide +kernel
theorem dX6_push_29 : decode cX6_push 29 = .ok (.goto (-25), 3) := by decide +kernel
theorem dX6_push_32 : decode cX6_push 32 = .ok (.iload_n 1, 1) := by decide +kernel
theorem dX6_push_33 : decode cX6_push 33 = .ok (.ireturn, 1) := by decide +kernel
theorem dX6_taken_0 : decode cX6_taken 0 = .ok (.iconst 0, 1) := by decide +kernel
theorem dX6_taken_1 : decode cX6_taken 1 = .ok (.istore_n 1, 1) := by decide +kernel
theorem dX6_taken_2 : decode cX6_taken 2 = .ok (.iconst 0, 1) := by decide +kernel
theorem dX6_taken_3 : decode cX6_taken 3 = .ok (.istore_n 2, 1) := by decide +kernel
theorem dX6_taken_4 : decode cX6_taken 4 = .ok (.iload_n 2, 1) := by decide +kernel
theorem dX6_taken_5 : decode cX6_taken 5 = .ok (.aload_n 0, 1) := by decide +kernel
theorem dX6_taken_6 : decode cX6_taken 6 = .ok (.getfield 9, 3) := by decide +kernel
theorem dX6_taken_9 : decode cX6_taken 9 = .ok (.if_icmp .ge 17, 3) := by decide +kernel
theorem dX6_taken_12 : decode cX6_taken 12 = .ok (.iload_n 1, 1) := by decide +kernel
theorem dX6_taken_13 : decode cX6_taken 13 = .ok (.aload_n 0, 1) := by decide +kernel
theorem dX6_taken_14 : decode cX6_taken 14 = .ok (.iload_n 2, 1) := by decide +kernel
theorem dX6_taken_15 : decode cX6_taken 15 = .ok (.invokevirtual 58, 3) := by decide +kernel
theorem dX6_taken_18 : decode cX6_taken 18 = .ok (.iadd, 1) := by decide +kernel
theorem dX6_taken_19 : decode cX6_taken 19 = .ok (.istore_n 1, 1) := by decide +kernel
theorem dX6_taken_20 : decode cX6_taken 20 = .ok (.iinc 2 1, 3) := by decide +kernel
theorem dX6_taken_23 : decode cX6_taken 23 = .ok (.goto (-19), 3) := by decide +kernel
theorem dX6_taken_26 : decode cX6_taken 26 = .ok (.iload_n 1, 1) := by decide +kernel
theorem dX6_taken_27 : decode cX6_taken 27 = .ok (.ireturn, 1) := by decide +kernel
theorem dX6_kerf_0 : decode cX6_kerf 0 = .ok (.iconst 0, 1) := by decide +kernel
theorem dX6_kerf_1 : decode cX6_kerf 1 = .ok (.istore_n 1, 1) := by decide +kernel
theorem dX6_kerf_2 : decode cX6_kerf 2 = .ok (.iconst 0, 1) := by decide +kernel
theorem dX6_kerf_3 : decode cX6_kerf 3 = .ok (.istore_n 2, 1) := by decide +kernel
theorem dX6_kerf_4 : decode cX6_kerf 4 = .ok (.iconst 0, 1) := by decide +kernel
theorem dX6_kerf_5 : decode cX6_kerf 5 = .ok (.istore_n 3, 1) := by decide +kernel
theorem dX6_kerf_6 : decode cX6_kerf 6 = .ok (.iload_n 3, 1) := by decide +kernel
theorem dX6_kerf_7 : decode cX6_kerf 7 = .ok (.aload_n 0, 1) := by decide +kernel
theorem dX6_kerf_8 : decode cX6_kerf 8 = .ok (.getfield 9, 3) := by decide +kernel
theorem dX6_kerf_11 : decode cX6_kerf 11 = .ok (.if_icmp .ge 38, 3) := by decide +kernel
theorem dX6_kerf_14 : decode cX6_kerf 14 = .ok (.aload_n 0, 1) := by decide +kernel
theorem dX6_kerf_15 : decode cX6_kerf 15 = .ok (.iload_n 3, 1) := by decide +kernel
theorem dX6_kerf_16 : decode cX6_kerf 16 = .ok (.invokevirtual 58, 3) := by decide +kernel
theorem dX6_kerf_19 : decode cX6_kerf 19 = .ok (.ifCond .le 24, 3) := by decide +kernel
theorem dX6_kerf_22 : decode cX6_kerf 22 = .ok (.iload_n 1, 1) := by decide +kernel
theorem dX6_kerf_23 : decode cX6_kerf 23 = .ok (.aload_n 0, 1) := by decide +kernel
theorem dX6_kerf_24 : decode cX6_kerf 24 = .ok (.iload_n 3, 1) := by decide +kernel
theorem dX6_kerf_25 : decode cX6_kerf 25 = .ok (.invokevirtual 61, 3) := by decide +kernel
theorem dX6_kerf_28 : decode cX6_kerf 28 = .ok (.ineg, 1) := by decide +kernel
theorem dX6_kerf_29 : decode cX6_kerf 29 = .ok (.invokestatic 64, 3) := by decide +kernel
theorem dX6_kerf_32 : decode cX6_kerf 32 = .ok (.istore_n 1, 1) := by decide +kernel
theorem dX6_kerf_33 : decode cX6_kerf 33 = .ok (.iload_n 2, 1) := by decide +kernel
theorem dX6_kerf_34 : decode cX6_kerf 34 = .ok (.aload_n 0, 1) := by decide +kernel
theorem dX6_kerf_35 : decode cX6_kerf 35 = .ok (.iload_n 3, 1) := by decide +kernel
theorem dX6_kerf_36 : decode cX6_kerf 36 = .ok (.invokevirtual 61, 3) := by decide +kernel
theorem dX6_kerf_39 : decode cX6_kerf 39 = .ok (.invokestatic 64, 3) := by decide +kernel
theorem dX6_kerf_42 : decode cX6_kerf 42 = .ok (.istore_n 2, 1) := by decide +kernel
theorem dX6_kerf_43 : decode cX6_kerf 43 = .ok (.iinc 3 1, 3) := by decide +kernel
theorem dX6_kerf_46 : decode cX6_kerf 46 = .ok (.goto (-40), 3) := by decide +kernel
theorem dX6_kerf_49 : decode cX6_kerf 49 = .ok (.iconst 1, 1) := by decide +kernel
theorem dX6_kerf_50 : decode cX6_kerf 50 = .ok (.iload_n 1, 1) := by decide +kernel
theorem dX6_kerf_51 : decode cX6_kerf 51 = .ok (.iadd, 1) := by decide +kernel
theorem dX6_kerf_52 : decode cX6_kerf 52 = .ok (.iload_n 2, 1) := by decide +kernel
theorem dX6_kerf_53 : decode cX6_kerf 53 = .ok (.iadd, 1) := by decide +kernel
theorem dX6_kerf_54 : decode cX6_kerf 54 = .ok (.ireturn, 1) := by decide +kernel
theorem dX6_countMarks_0 : decode cX6_countMarks 0 = .ok (.iconst 0, 1) := by decide +kernel
theorem dX6_countMarks_1 : decode cX6_countMarks 1 = .ok (.istore_n 1, 1) := by decide +kernel
theorem dX6_countMarks_2 : decode cX6_countMarks 2 = .ok (.iconst 0, 1) := by decide +kernel
theorem dX6_countMarks_3 : decode cX6_countMarks 3 = .ok (.istore_n 2, 1) := by decide +kernel
theorem dX6_countMarks_4 : decode cX6_countMarks 4 = .ok (.iload_n 2, 1) := by decide +kernel
theorem dX6_countMarks_5 : decode cX6_countMarks 5 = .ok (.aload_n 0, 1) := by decide +kernel
theorem dX6_countMarks_6 : decode cX6_countMarks 6 = .ok (.getfield 9, 3) := by decide +kernel
theorem dX6_countMarks_9 : decode cX6_countMarks 9 = .ok (.if_icmp .ge 28, 3) := by decide +kernel
theorem dX6_countMarks_12 : decode cX6_countMarks 12 = .ok (.aload_n 0, 1) := by decide +kernel
theorem dX6_countMarks_13 : decode cX6_countMarks 13 = .ok (.iload_n 2, 1) := by decide +kernel
theorem dX6_countMarks_14 : decode cX6_countMarks 14 = .ok (.invokevirtual 58, 3) := by decide +kernel
theorem dX6_countMarks_17 : decode cX6_countMarks 17 = .ok (.ifCond .le 14, 3) := by decide +kernel
theorem dX6_countMarks_20 : decode cX6_countMarks 20 = .ok (.aload_n 0, 1) := by decide +kernel
theorem dX6_countMarks_21 : decode cX6_countMarks 21 = .ok (.iload_n 2, 1) := by decide +kernel
theorem dX6_countMarks_22 : decode cX6_countMarks 22 = .ok (.invokevirtual 69, 3) := by decide +kernel
theorem dX6_countMarks_25 : decode cX6_countMarks 25 = .ok (.ifCond .ne 6, 3) := by decide +kernel
theorem dX6_countMarks_28 : decode cX6_countMarks 28 = .ok (.iinc 1 1, 3) := by decide +kernel
theorem dX6_countMarks_31 : decode cX6_countMarks 31 = .ok (.iinc 2 1, 3) := by decide +kernel
theorem dX6_countMarks_34 : decode cX6_countMarks 34 = .ok (.goto (-30), 3) := by decide +kernel
theorem dX6_countMarks_37 : decode cX6_countMarks 37 = .ok (.iload_n 1, 1) := by decide +kernel
theorem dX6_countMarks_38 : decode cX6_countMarks 38 = .ok (.ireturn, 1) := by decide +kernel
theorem dX6_isMarkedAhead_0 : decode cX6_isMarkedAhead 0 = .ok (.iconst 0, 1) := by decide +kernel
theorem dX6_isMarkedAhead_1 : decode cX6_isMarkedAhead 1 = .ok (.istore_n 2, 1) := by decide +kernel
theorem dX6_isMarkedAhead_2 : decode cX6_isMarkedAhead 2 = .ok (.iload_n 2, 1) := by decide +kernel
theorem dX6_isMarkedAhead_3 : decode cX6_isMarkedAhead 3 = .ok (.iload_n 1, 1) := by decide +kernel
theorem dX6_isMarkedAhead_4 : decode cX6_isMarkedAhead 4 = .ok (.if_icmp .ge 32, 3) := by decide +kernel
theorem dX6_isMarkedAhead_7 : decode cX6_isMarkedAhead 7 = .ok (.aload_n 0, 1) := by decide +kernel
theorem dX6_isMarkedAhead_8 : decode cX6_isMarkedAhead 8 = .ok (.iload_n 2, 1) := by decide +kernel
theorem dX6_isMarkedAhead_9 : decode cX6_isMarkedAhead 9 = .ok (.invokevirtual 58, 3) := by decide +kernel
theorem dX6_isMarkedAhead_12 : decode cX6_isMarkedAhead 12 = .ok (.ifCond .le 18, 3) := by decide +kernel
theorem dX6_isMarkedAhead_15 : decode cX6_isMarkedAhead 15 = .ok (.aload_n 0, 1) := by decide +kernel
theorem dX6_isMarkedAhead_16 : decode cX6_isMarkedAhead 16 = .ok (.iload_n 2, 1) := by decide +kernel
theorem dX6_isMarkedAhead_17 : decode cX6_isMarkedAhead 17 = .ok (.invokevirtual 61, 3) := by decide +kernel
theorem dX6_isMarkedAhead_20 : decode cX6_isMarkedAhead 20 = .ok (.aload_n 0, 1) := by decide +kernel
theorem dX6_isMarkedAhead_21 : decode cX6_isMarkedAhead 21 = .ok (.iload_n 1, 1) := by decide +kernel
theorem dX6_isMarkedAhead_22 : decode cX6_isMarkedAhead 22 = .ok (.invokevirtual 61, 3) := by decide +kernel
theorem dX6_isMarkedAhead_25 : decode cX6_isMarkedAhead 25 = .ok (.if_icmp .ne 5, 3) := by decide +kernel
theorem dX6_isMarkedAhead_28 : decode cX6_isMarkedAhead 28 = .ok (.iconst 1, 1) := by decide +kernel
theorem dX6_isMarkedAhead_29 : decode cX6_isMarkedAhead 29 = .ok (.ireturn, 1) := by decide +kernel
theorem dX6_isMarkedAhead_30 : decode cX6_isMarkedAhead 30 = .ok (.iinc 2 1, 3) := by decide +kernel
theorem dX6_isMarkedAhead_33 : decode cX6_isMarkedAhead 33 = .ok (.goto (-31), 3) := by decide +kernel
theorem dX6_isMarkedAhead_36 : decode cX6_isMarkedAhead 36 = .ok (.iconst 0, 1) := by decide +kernel
theorem dX6_isMarkedAhead_37 : decode cX6_isMarkedAhead 37 = .ok (.ireturn, 1) := by decide +kernel
theorem dX6_whichLeave_0 : decode cX6_whichLeave 0 = .ok (.iconst 0, 1) := by decide +kernel
theorem dX6_whichLeave_1 : decode cX6_whichLeave 1 = .ok (.istore_n 3, 1) := by decide +kernel
theorem dX6_whichLeave_2 : decode cX6_whichLeave 2 = .ok (.iconst 0, 1) := by decide +kernel
theorem dX6_whichLeave_3 : decode cX6_whichLeave 3 = .ok (.istore 4, 2) := by decide +kernel
theorem dX6_whichLeave_5 : decode cX6_whichLeave 5 = .ok (.iload 4, 2) := by decide +kernel
theorem dX6_whichLeave_7 : decode cX6_whichLeave 7 = .ok (.aload_n 0, 1) := by decide +kernel
theorem dX6_whichLeave_8 : decode cX6_whichLeave 8 = .ok (.getfield 9, 3) := by decide +kernel
theorem dX6_whichLeave_11 : decode cX6_whichLeave 11 = .ok (.if_icmp .ge 37, 3) := by decide +kernel
theorem dX6_whichLeave_14 : decode cX6_whichLeave 14 = .ok (.aload_n 0, 1) := by decide +kernel
theorem dX6_whichLeave_15 : decode cX6_whichLeave 15 = .ok (.iload 4, 2) := by decide +kernel
theorem dX6_whichLeave_17 : decode cX6_whichLeave 17 = .ok (.invokevirtual 58, 3) := by decide +kernel
theorem dX6_whichLeave_20 : decode cX6_whichLeave 20 = .ok (.ifCond .le 22, 3) := by decide +kernel
theorem dX6_whichLeave_23 : decode cX6_whichLeave 23 = .ok (.iload_n 1, 1) := by decide +kernel
theorem dX6_whichLeave_24 : decode cX6_whichLeave 24 = .ok (.aload_n 0, 1) := by decide +kernel
theorem dX6_whichLeave_25 : decode cX6_whichLeave 25 = .ok (.iload 4, 2) := by decide +kernel
theorem dX6_whichLeave_27 : decode cX6_whichLeave 27 = .ok (.invokevirtual 61, 3) := by decide +kernel
theorem dX6_whichLeave_30 : decode cX6_whichLeave 30 = .ok (.iadd, 1) := by decide +kernel
theorem dX6_whichLeave_31 : decode cX6_whichLeave 31 = .ok (.iload_n 2, 1) := by decide +kernel
theorem dX6_whichLeave_32 : decode cX6_whichLeave 32 = .ok (.if_icmp .ne 10, 3) := by decide +kernel
theorem dX6_whichLeave_35 : decode cX6_whichLeave 35 = .ok (.iload_n 3, 1) := by decide +kernel
theorem dX6_whichLeave_36 : decode cX6_whichLeave 36 = .ok (.iconst 1, 1) := by decide +kernel
theorem dX6_whichLeave_37 : decode cX6_whichLeave 37 = .ok (.iload 4, 2) := by decide +kernel
theorem dX6_whichLeave_39 : decode cX6_whichLeave 39 = .ok (.ishl, 1) := by decide +kernel
theorem dX6_whichLeave_40 : decode cX6_whichLeave 40 = .ok (.ior, 1) := by decide +kernel
theorem dX6_whichLeave_41 : decode cX6_whichLeave 41 = .ok (.istore_n 3, 1) := by decide +kernel
theorem dX6_whichLeave_42 : decode cX6_whichLeave 42 = .ok (.iinc 4 1, 3) := by decide +kernel
theorem dX6_whichLeave_45 : decode cX6_whichLeave 45 = .ok (.goto (-40), 3) := by decide +kernel
theorem dX6_whichLeave_48 : decode cX6_whichLeave 48 = .ok (.iload_n 3, 1) := by decide +kernel
theorem dX6_whichLeave_49 : decode cX6_whichLeave 49 = .ok (.ireturn, 1) := by decide +kernel
theorem dX6_mendBy_0 : decode cX6_mendBy 0 = .ok (.iload_n 2, 1) := by decide +kernel
theorem dX6_mendBy_1 : decode cX6_mendBy 1 = .ok (.tableswitch 57 0 3 #[31, 37, 44, 51], 31) := by decide +kernel
theorem dX6_mendBy_32 : decode cX6_mendBy 32 = .ok (.aload_n 0, 1) := by decide +kernel
theorem dX6_mendBy_33 : decode cX6_mendBy 33 = .ok (.iload_n 1, 1) := by decide +kernel
theorem dX6_mendBy_34 : decode cX6_mendBy 34 = .ok (.invokevirtual 72, 3) := by decide +kernel
theorem dX6_mendBy_37 : decode cX6_mendBy 37 = .ok (.ireturn, 1) := by decide +kernel
theorem dX6_mendBy_38 : decode cX6_mendBy 38 = .ok (.aload_n 0, 1) := by decide +kernel
theorem dX6_mendBy_39 : decode cX6_mendBy 39 = .ok (.iload_n 1, 1) := by decide +kernel
theorem dX6_mendBy_40 : decode cX6_mendBy 40 = .ok (.iconst (-1), 1) := by decide +kernel
theorem dX6_mendBy_41 : decode cX6_mendBy 41 = .ok (.invokevirtual 75, 3) := by decide +kernel
theorem dX6_mendBy_44 : decode cX6_mendBy 44 = .ok (.ireturn, 1) := by decide +kernel
theorem dX6_mendBy_45 : decode cX6_mendBy 45 = .ok (.aload_n 0, 1) := by decide +kernel
theorem dX6_mendBy_46 : decode cX6_mendBy 46 = .ok (.iload_n 1, 1) := by decide +kernel
theorem dX6_mendBy_47 : decode cX6_mendBy 47 = .ok (.iconst 1, 1) := by decide +kernel
theorem dX6_mendBy_48 : decode cX6_mendBy 48 = .ok (.invokevirtual 75, 3) := by decide +kernel
theorem dX6_mendBy_51 : decode cX6_mendBy 51 = .ok (.ireturn, 1) := by decide +kernel
theorem dX6_mendBy_52 : decode cX6_mendBy 52 = .ok (.aload_n 0, 1) := by decide +kernel
theorem dX6_mendBy_53 : decode cX6_mendBy 53 = .ok (.iload_n 1, 1) := by decide +kernel
theorem dX6_mendBy_54 : decode cX6_mendBy 54 = .ok (.invokevirtual 79, 3) := by decide +kernel
theorem dX6_mendBy_57 : decode cX6_mendBy 57 = .ok (.ireturn, 1) := by decide +kernel
theorem dX6_mendBy_58 : decode cX6_mendBy 58 = .ok (.iconst 0, 1) := by decide +kernel
theorem dX6_mendBy_59 : decode cX6_mendBy 59 = .ok (.ireturn, 1) := by decide +kernel
theorem dX6_fileIt_0 : decode cX6_fileIt 0 = .ok (.aload_n 0, 1) := by decide +kernel
theorem dX6_fileIt_1 : decode cX6_fileIt 1 = .ok (.iload_n 1, 1) := by decide +kernel
theorem dX6_fileIt_2 : decode cX6_fileIt 2 = .ok (.iconst 2, 1) := by decide +kernel
theorem dX6_fileIt_3 : decode cX6_fileIt 3 = .ok (.invokevirtual 82, 3) := by decide +kernel
theorem dX6_fileIt_6 : decode cX6_fileIt 6 = .ok (.iconst 2, 1) := by decide +kernel
theorem dX6_fileIt_7 : decode cX6_fileIt 7 = .ok (.iadd, 1) := by decide +kernel
theorem dX6_fileIt_8 : decode cX6_fileIt 8 = .ok (.istore_n 2, 1) := by decide +kernel
theorem dX6_fileIt_9 : decode cX6_fileIt 9 = .ok (.aload_n 0, 1) := by decide +kernel
theorem dX6_fileIt_10 : decode cX6_fileIt 10 = .ok (.iload_n 1, 1) := by decide +kernel
theorem dX6_fileIt_11 : decode cX6_fileIt 11 = .ok (.iconst 1, 1) := by decide +kernel
theorem dX6_fileIt_12 : decode cX6_fileIt 12 = .ok (.invokevirtual 82, 3) := by decide +kernel
theorem dX6_fileIt_15 : decode cX6_fileIt 15 = .ok (.iconst 1, 1) := by decide +kernel
theorem dX6_fileIt_16 : decode cX6_fileIt 16 = .ok (.isub, 1) := by decide +kernel
theorem dX6_fileIt_17 : decode cX6_fileIt 17 = .ok (.istore_n 3, 1) := by decide +kernel
theorem dX6_fileIt_18 : decode cX6_fileIt 18 = .ok (.iload_n 2, 1) := by decide +kernel
theorem dX6_fileIt_19 : decode cX6_fileIt 19 = .ok (.bipush 9, 2) := by decide +kernel
theorem dX6_fileIt_21 : decode cX6_fileIt 21 = .ok (.if_icmp .gt 7, 3) := by decide +kernel
theorem dX6_fileIt_24 : decode cX6_fileIt 24 = .ok (.iload_n 3, 1) := by decide +kernel
theorem dX6_fileIt_25 : decode cX6_fileIt 25 = .ok (.ifCond .ge 5, 3) := by decide +kernel
theorem dX6_fileIt_28 : decode cX6_fileIt 28 = .ok (.iconst 0, 1) := by decide +kernel
theorem dX6_fileIt_29 : decode cX6_fileIt 29 = .ok (.ireturn, 1) := by decide +kernel
theorem dX6_fileIt_30 : decode cX6_fileIt 30 = .ok (.aload_n 0, 1) := by decide +kernel
theorem dX6_fileIt_31 : decode cX6_fileIt 31 = .ok (.iload_n 1, 1) := by decide +kernel
theorem dX6_fileIt_32 : decode cX6_fileIt 32 = .ok (.iconst 2, 1) := by decide +kernel
theorem dX6_fileIt_33 : decode cX6_fileIt 33 = .ok (.iload_n 2, 1) := by decide +kernel
theorem dX6_fileIt_34 : decode cX6_fileIt 34 = .ok (.invokevirtual 50, 3) := by decide +kernel
theorem dX6_fileIt_37 : decode cX6_fileIt 37 = .ok (.aload_n 0, 1) := by decide +kernel
theorem dX6_fileIt_38 : decode cX6_fileIt 38 = .ok (.iload_n 1, 1) := by decide +kernel
theorem dX6_fileIt_39 : decode cX6_fileIt 39 = .ok (.iconst 1, 1) := by decide +kernel
theorem dX6_fileIt_40 : decode cX6_fileIt 40 = .ok (.iload_n 3, 1) := by decide +kernel
theorem dX6_fileIt_41 : decode cX6_fileIt 41 = .ok (.invokevirtual 50, 3) := by decide +kernel
theorem dX6_fileIt_44 : decode cX6_fileIt 44 = .ok (.iconst 1, 1) := by decide +kernel
theorem dX6_fileIt_45 : decode cX6_fileIt 45 = .ok (.ireturn, 1) := by decide +kernel
theorem dX6_bendBy_0 : decode cX6_bendBy 0 = .ok (.aload_n 0, 1) := by decide +kernel
theorem dX6_bendBy_1 : decode cX6_bendBy 1 = .ok (.iload_n 1, 1) := by decide +kernel
theorem dX6_bendBy_2 : decode cX6_bendBy 2 = .ok (.iconst 0, 1) := by decide +kernel
theorem dX6_bendBy_3 : decode cX6_bendBy 3 = .ok (.invokevirtual 82, 3) := by decide +kernel
theorem dX6_bendBy_6 : decode cX6_bendBy 6 = .ok (.iload_n 2, 1) := by decide +kernel
theorem dX6_bendBy_7 : decode cX6_bendBy 7 = .ok (.iadd, 1) := by decide +kernel
theorem dX6_bendBy_8 : decode cX6_bendBy 8 = .ok (.istore_n 3, 1) := by decide +kernel
theorem dX6_bendBy_9 : decode cX6_bendBy 9 = .ok (.aload_n 0, 1) := by decide +kernel
theorem dX6_bendBy_10 : decode cX6_bendBy 10 = .ok (.iload_n 1, 1) := by decide +kernel
theorem dX6_bendBy_11 : decode cX6_bendBy 11 = .ok (.invokevirtual 54, 3) := by decide +kernel
theorem dX6_bendBy_14 : decode cX6_bendBy 14 = .ok (.ifCond .eq 13, 3) := by decide +kernel
theorem dX6_bendBy_17 : decode cX6_bendBy 17 = .ok (.iload_n 3, 1) := by decide +kernel
theorem dX6_bendBy_18 : decode cX6_bendBy 18 = .ok (.ifCond .lt 9, 3) := by decide +kernel
theorem dX6_bendBy_21 : decode cX6_bendBy 21 = .ok (.iload_n 3, 1) := by decide +kernel
theorem dX6_bendBy_22 : decode cX6_bendBy 22 = .ok (.bipush 9, 2) := by decide +kernel
theorem dX6_bendBy_24 : decode cX6_bendBy 24 = .ok (.if_icmp .le 5, 3) := by decide +kernel
theorem dX6_bendBy_27 : decode cX6_bendBy 27 = .ok (.iconst 0, 1) := by decide +kernel
theorem dX6_bendBy_28 : decode cX6_bendBy 28 = .ok (.ireturn, 1) := by decide +kernel
theorem dX6_bendBy_29 : decode cX6_bendBy 29 = .ok (.aload_n 0, 1) := by decide +kernel
theorem dX6_bendBy_30 : decode cX6_bendBy 30 = .ok (.iload_n 1, 1) := by decide +kernel
theorem dX6_bendBy_31 : decode cX6_bendBy 31 = .ok (.iconst 0, 1) := by decide +kernel
theorem dX6_bendBy_32 : decode cX6_bendBy 32 = .ok (.iload_n 3, 1) := by decide +kernel
theorem dX6_bendBy_33 : decode cX6_bendBy 33 = .ok (.invokevirtual 50, 3) := by decide +kernel
theorem dX6_bendBy_36 : decode cX6_bendBy 36 = .ok (.iconst 1, 1) := by decide +kernel
theorem dX6_bendBy_37 : decode cX6_bendBy 37 = .ok (.ireturn, 1) := by decide +kernel
theorem dX6_breakOff_0 : decode cX6_breakOff 0 = .ok (.aload_n 0, 1) := by decide +kernel
theorem dX6_breakOff_1 : decode cX6_breakOff 1 = .ok (.iload_n 1, 1) := by decide +kernel
theorem dX6_breakOff_2 : decode cX6_breakOff 2 = .ok (.iconst 1, 1) := by decide +kernel
theorem dX6_breakOff_3 : decode cX6_breakOff 3 = .ok (.invokevirtual 82, 3) := by decide +kernel
theorem dX6_breakOff_6 : decode cX6_breakOff 6 = .ok (.ifCond .ne 5, 3) := by decide +kernel
theorem dX6_breakOff_9 : decode cX6_breakOff 9 = .ok (.iconst 0, 1) := by decide +kernel
theorem dX6_breakOff_10 : decode cX6_breakOff 10 = .ok (.ireturn, 1) := by decide +kernel
theorem dX6_breakOff_11 : decode cX6_breakOff 11 = .ok (.aload_n 0, 1) := by decide +kernel
theorem dX6_breakOff_12 : decode cX6_breakOff 12 = .ok (.iload_n 1, 1) := by decide +kernel
theorem dX6_breakOff_13 : decode cX6_breakOff 13 = .ok (.iconst 1, 1) := by decide +kernel
theorem dX6_breakOff_14 : decode cX6_breakOff 14 = .ok (.iconst 0, 1) := by decide +kernel
theorem dX6_breakOff_15 : decode cX6_breakOff 15 = .ok (.invokevirtual 50, 3) := by decide +kernel
theorem dX6_breakOff_18 : decode cX6_breakOff 18 = .ok (.iconst 1, 1) := by decide +kernel
theorem dX6_breakOff_19 : decode cX6_breakOff 19 = .ok (.ireturn, 1) := by decide +kernel
theorem dX7_init_0 : decode cX7_init 0 = .ok (.aload_n 0, 1) := by decide +kernel
theorem dX7_init_1 : decode cX7_init 1 = .ok (.invokespecial 3, 3) := by decide +kernel
theorem dX7_init_4 : decode cX7_init 4 = .ok (.aload_n 0, 1) := by decide +kernel
theorem dX7_init_5 : decode cX7_init 5 = .ok (.iconst 4, 1) := by decide +kernel
theorem dX7_init_6 : decode cX7_init 6 = .ok (.newarray .int, 2) := by decide +kernel
theorem dX7_init_8 : decode cX7_init 8 = .ok (.putfield 11, 3) := by decide +kernel
theorem dX7_init_11 : decode cX7_init 11 = .ok (.aload_n 0, 1) := by decide +kernel
theorem dX7_init_12 : decode cX7_init 12 = .ok (.iconst 4, 1) := by decide +kernel
theorem dX7_init_13 : decode cX7_init 13 = .ok (.newarray .int, 2) := by decide +kernel
theorem dX7_init_15 : decode cX7_init 15 = .ok (.putfield 15, 3) := by decide +kernel
theorem dX7_init_18 : decode cX7_init 18 = .ok (.aload_n 0, 1) := by decide +kernel
theorem dX7_init_19 : decode cX7_init 19 = .ok (.sipush 320, 3) := by decide +kernel
theorem dX7_init_22 : decode cX7_init 22 = .ok (.newarray .int, 2) := by decide +kernel
theorem dX7_init_24 : decode cX7_init 24 = .ok (.putfield 18, 3) := by decide +kernel
theorem dX7_init_27 : decode cX7_init 27 = .ok (.iconst 0, 1) := by decide +kernel
theorem dX7_init_28 : decode cX7_init 28 = .ok (.istore_n 1, 1) := by decide +kernel
theorem dX7_init_29 : decode cX7_init 29 = .ok (.iload_n 1, 1) := by decide +kernel
theorem dX7_init_30 : decode cX7_init 30 = .ok (.iconst 4, 1) := by decide +kernel
theorem dX7_init_31 : decode cX7_init 31 = .ok (.if_icmp .ge 16, 3) := by decide +kernel
theorem dX7_init_34 : decode cX7_init 34 = .ok (.aload_n 0, 1) := by decide +kernel
theorem dX7_init_35 : decode cX7_init 35 = .ok (.getfield 11, 3) := by decide +kernel
theorem dX7_init_38 : decode cX7_init 38 = .ok (.iload_n 1, 1) := by decide +kernel
theorem dX7_init_39 : decode cX7_init 39 = .ok (.iconst (-1), 1) := by decide +kernel
theorem dX7_init_40 : decode cX7_init 40 = .ok (.iastore, 1) := by decide +kernel
theorem dX7_init_41 : decode cX7_init 41 = .ok (.iinc 1 1, 3) := by decide +kernel
theorem dX7_init_44 : decode cX7_init 44 = .ok (.goto (-15), 3) := by decide +kernel
theorem dX7_init_47 : decode cX7_init 47 = .ok (.return_, 1) := by decide +kernel
theorem dX7_isSheet_0 : decode cX7_isSheet 0 = .ok (.iload_n 0, 1) := by decide +kernel
theorem dX7_isSheet_1 : decode cX7_isSheet 1 = .ok (.ifCond .lt 12, 3) := by decide +kernel
theorem dX7_isSheet_4 : decode cX7_isSheet 4 = .ok (.iload_n 0, 1) := by decide +kernel
theorem dX7_isSheet_5 : decode cX7_isSheet 5 = .ok (.iconst 4, 1) := by decide +kernel
theorem dX7_isSheet_6 : decode cX7_isSheet 6 = .ok (.if_icmp .ge 7, 3) := by decide +kernel
theorem dX7_isSheet_9 : decode cX7_isSheet 9 = .ok (.iconst 1, 1) := by decide +kernel
theorem dX7_isSheet_10 : decode cX7_isSheet 10 = .ok (.goto 4, 3) := by decide +kernel
theorem dX7_isSheet_13 : decode cX7_isSheet 13 = .ok (.iconst 0, 1) := by decide +kernel
theorem dX7_isSheet_14 : decode cX7_isSheet 14 = .ok (.ireturn, 1) := by decide +kernel
theorem dX7_isLane_0 : decode cX7_isLane 0 = .ok (.iload_n 0, 1) := by decide +kernel
theorem dX7_isLane_1 : decode cX7_isLane 1 = .ok (.ifCond .lt 12, 3) := by decide +kernel
theorem dX7_isLane_4 : decode cX7_isLane 4 = .ok (.iload_n 0, 1) := by decide +kernel
theorem dX7_isLane_5 : decode cX7_isLane 5 = .ok (.iconst 2, 1) := by decide +kernel
theorem dX7_isLane_6 : decode cX7_isLane 6 = .ok (.if_icmp .gt 7, 3) := by decide +kernel
theorem dX7_isLane_9 : decode cX7_isLane 9 = .ok (.iconst 1, 1) := by decide +kernel
theorem dX7_isLane_10 : decode cX7_isLane 10 = .ok (.goto 4, 3) := by decide +kernel
theorem dX7_isLane_13 : decode cX7_isLane 13 = .ok (.iconst 0, 1) := by decide +kernel
theorem dX7_isLane_14 : decode cX7_isLane 14 = .ok (.ireturn, 1) := by decide +kernel
theorem dX7_isNothing_0 : decode cX7_isNothing 0 = .ok (.iload_n 1, 1) := by decide +kernel
theorem dX7_isNothing_1 : decode cX7_isNothing 1 = .ok (.invokestatic 21, 3) := by decide +kernel
theorem dX7_isNothing_4 : decode cX7_isNothing 4 = .ok (.ifCond .eq 13, 3) := by decide +kernel
theorem dX7_isNothing_7 : decode cX7_isNothing 7 = .ok (.aload_n 0, 1) := by decide +kernel
theorem dX7_isNothing_8 : decode cX7_isNothing 8 = .ok (.getfield 11, 3) := by decide +kernel
theorem dX7_isNothing_11 : decode cX7_isNothing 11 = .ok (.iload_n 1, 1) := by decide +kernel
theorem dX7_isNothing_12 : decode cX7_isNothing 12 = .ok (.iaload, 1) := by decide +kernel
theorem dX7_isNothing_13 : decode cX7_isNothing 13 = .ok (.iconst (-1), 1) := by decide +kernel
theorem dX7_isNothing_14 : decode cX7_isNothing 14 = .ok (.if_icmp .ne 7, 3) := by decide +kernel
theorem dX7_isNothing_17 : decode cX7_isNothing 17 = .ok (.iconst 1, 1) := by decide +kernel
theorem dX7_isNothing_18 : decode cX7_isNothing 18 = .ok (.goto 4, 3) := by decide +kernel
theorem dX7_isNothing_21 : decode cX7_isNothing 21 = .ok (.iconst 0, 1) := by decide +kernel
theorem dX7_isNothing_22 : decode cX7_isNothing 22 = .ok (.ireturn, 1) := by decide +kernel
theorem dX7_areOfOneLane_0 : decode cX7_areOfOneLane 0 = .ok (.iload_n 1, 1) := by decide +kernel
theorem dX7_areOfOneLane_1 : decode cX7_areOfOneLane 1 = .ok (.invokestatic 21, 3) := by decide +kernel
theorem dX7_areOfOneLane_4 : decode cX7_areOfOneLane 4 = .ok (.ifCond .eq 29, 3) := by decide +kernel
theorem dX7_areOfOneLane_7 : decode cX7_areOfOneLane 7 = .ok (.iload_n 2, 1) := by decide +kernel
theorem dX7_areOfOneLane_8 : decode cX7_areOfOneLane 8 = .ok (.invokestatic 21, 3) := by decide +kernel
theorem dX7_areOfOneLane_11 : decode cX7_areOfOneLane 11 = .ok (.ifCond .eq 22, 3) := by decide +kernel
theorem dX7_areOfOneLane_14 : decode cX7_areOfOneLane 14 = .ok (.aload_n 0, 1) := by decide +kernel
theorem dX7_areOfOneLane_15 : decode cX7_areOfOneLane 15 = .ok (.getfield 11, 3) := by decide +kernel
theorem dX7_areOfOneLane_18 : decode cX7_areOfOneLane 18 = .ok (.iload_n 1, 1) := by decide +kernel
theorem dX7_areOfOneLane_19 : decode cX7_areOfOneLane 19 = .ok (.iaload, 1) := by decide +kernel
theorem dX7_areOfOneLane_20 : decode cX7_areOfOneLane 20 = .ok (.aload_n 0, 1) := by decide +kernel
theorem dX7_areOfOneLane_21 : decode cX7_areOfOneLane 21 = .ok (.getfield 11, 3) := by decide +kernel
theorem dX7_areOfOneLane_24 : decode cX7_areOfOneLane 24 = .ok (.iload_n 2, 1) := by decide +kernel
theorem dX7_areOfOneLane_25 : decode cX7_areOfOneLane 25 = .ok (.iaload, 1) := by decide +kernel
theorem dX7_areOfOneLane_26 : decode cX7_areOfOneLane 26 = .ok (.if_icmp .ne 7, 3) := by decide +kernel
theorem dX7_areOfOneLane_29 : decode cX7_areOfOneLane 29 = .ok (.iconst 1, 1) := by decide +kernel
theorem dX7_areOfOneLane_30 : decode cX7_areOfOneLane 30 = .ok (.goto 4, 3) := by decide +kernel
theorem dX7_areOfOneLane_33 : decode cX7_areOfOneLane 33 = .ok (.iconst 0, 1) := by decide +kernel
theorem dX7_areOfOneLane_34 : decode cX7_areOfOneLane 34 = .ok (.ireturn, 1) := by decide +kernel
theorem dX7_hasCell_0 : decode cX7_hasCell 0 = .ok (.aload_n 0, 1) := by decide +kernel
theorem dX7_hasCell_1 : decode cX7_hasCell 1 = .ok (.iload_n 1, 1) := by decide +kernel
theorem dX7_hasCell_2 : decode cX7_hasCell 2 = .ok (.invokevirtual 25, 3) := by decide +kernel
theorem dX7_hasCell_5 : decode cX7_hasCell 5 = .ok (.ifCond .ne 21, 3) := by decide +kernel
theorem dX7_hasCell_8 : decode cX7_hasCell 8 = .ok (.iload_n 2, 1) := by decide +kernel
theorem dX7_hasCell_9 : decode cX7_hasCell 9 = .ok (.ifCond .lt 17, 3) := by decide +kernel
theorem dX7_hasCell_12 : decode cX7_hasCell 12 = .ok (.iload_n 2, 1) := by decide +kernel
theorem dX7_hasCell_13 : decode cX7_hasCell 13 = .ok (.aload_n 0, 1) := by decide +kernel
theorem dX7_hasCell_14 : decode cX7_hasCell 14 = .ok (.getfield 15, 3) := by decide +kernel
theorem dX7_hasCell_17 : decode cX7_hasCell 17 = .ok (.iload_n 1, 1) := by decide +kernel
theorem dX7_hasCell_18 : decode cX7_hasCell 18 = .ok (.iaload, 1) := by decide +kernel
theorem dX7_hasCell_19 : decode cX7_hasCell 19 = .ok (.if_icmp .ge 7, 3) := by decide +kernel
theorem dX7_hasCell_22 : decode cX7_hasCell 22 = .ok (.iconst 1, 1) := by decide +kernel
theorem dX7_hasCell_23 : decode cX7_hasCell 23 = .ok (.goto 4, 3) := by decide +kernel
theorem dX7_hasCell_26 : decode cX7_hasCell 26 = .ok (.iconst 0, 1) := by decide +kernel
theorem dX7_hasCell_27 : decode cX7_hasCell 27 = .ok (.ireturn, 1) := by decide +kernel
theorem dX7_hasCells_0 : decode cX7_hasCells 0 = .ok (.aload_n 0, 1) := by decide +kernel
theorem dX7_hasCells_1 : decode cX7_hasCells 1 = .ok (.iload_n 1, 1) := by decide +kernel
theorem dX7_hasCells_2 : decode cX7_hasCells 2 = .ok (.invokevirtual 25, 3) := by decide +kernel
theorem dX7_hasCells_5 : decode cX7_hasCells 5 = .ok (.ifCond .ne 37, 3) := by decide +kernel
theorem dX7_hasCells_8 : decode cX7_hasCells 8 = .ok (.iload_n 2, 1) := by decide +kernel
theorem dX7_hasCells_9 : decode cX7_hasCells 9 = .ok (.ifCond .lt 33, 3) := by decide +kernel
theorem dX7_hasCells_12 : decode cX7_hasCells 12 = .ok (.iload_n 2, 1) := by decide +kernel
theorem dX7_hasCells_13 : decode cX7_hasCells 13 = .ok (.aload_n 0, 1) := by decide +kernel
theorem dX7_hasCells_14 : decode cX7_hasCells 14 = .ok (.getfield 15, 3) := by decide +kernel
theorem dX7_hasCells_17 : decode cX7_hasCells 17 = .ok (.iload_n 1, 1) := by decide +kernel
theorem dX7_hasCells_18 : decode cX7_hasCells 18 = .ok (.iaload, 1) := by decide +kernel
theorem dX7_hasCells_19 : decode cX7_hasCells 19 = .ok (.if_icmp .gt 23, 3) := by decide +kernel
theorem dX7_hasCells_22 : decode cX7_hasCells 22 = .ok (.iload_n 3, 1) := by decide +kernel
theorem dX7_hasCells_23 : decode cX7_hasCells 23 = .ok (.ifCond .lt 19, 3) := by decide +kernel
theorem dX7_hasCells_26 : decode cX7_hasCells 26 = .ok (.iload_n 3, 1) := by decide +kernel
theorem dX7_hasCells_27 : decode cX7_hasCells 27 = .ok (.aload_n 0, 1) := by decide +kernel
theorem dX7_hasCells_28 : decode cX7_hasCells 28 = .ok (.getfield 15, 3) := by decide +kernel
theorem dX7_hasCells_31 : decode cX7_hasCells 31 = .ok (.iload_n 1, 1) := by decide +kernel
theorem dX7_hasCells_32 : decode cX7_hasCells 32 = .ok (.iaload, 1) := by decide +kernel
theorem dX7_hasCells_33 : decode cX7_hasCells 33 = .ok (.iload_n 2, 1) := by decide +kernel
theorem dX7_hasCells_34 : decode cX7_hasCells 34 = .ok (.isub, 1) := by decide +kernel
theorem dX7_hasCells_35 : decode cX7_hasCells 35 = .ok (.if_icmp .gt 7, 3) := by decide +kernel
theorem dX7_hasCells_38 : decode cX7_hasCells 38 = .ok (.iconst 1, 1) := by decide +kernel
theorem dX7_hasCells_39 : decode cX7_hasCells 39 = .ok (.goto 4, 3) := by decide +kernel
theorem dX7_hasCells_42 : decode cX7_hasCells 42 = .ok (.iconst 0, 1) := by decide +kernel
theorem dX7_hasCells_43 : decode cX7_hasCells 43 = .ok (.ireturn, 1) := by decide +kernel
theorem dX7_faultOfRow_0 : decode cX7_faultOfRow 0 = .ok (.aload_n 0, 1) := by decide +kernel
theorem dX7_faultOfRow_1 : decode cX7_faultOfRow 1 = .ok (.iload_n 1, 1) := by decide +kernel
theorem dX7_faultOfRow_2 : decode cX7_faultOfRow 2 = .ok (.invokevirtual 25, 3) := by decide +kernel
theorem dX7_faultOfRow_5 : decode cX7_faultOfRow 5 = .ok (.ifCond .eq 5, 3) := by decide +kernel
theorem dX7_faultOfRow_8 : decode cX7_faultOfRow 8 = .ok (.iconst 1, 1) := by decide +kernel
theorem dX7_faultOfRow_9 : decode cX7_faultOfRow 9 = .ok (.ireturn, 1) := by decide +kernel
theorem dX7_faultOfRow_10 : decode cX7_faultOfRow 10 = .ok (.aload_n 0, 1) := by decide +kernel
theorem dX7_faultOfRow_11 : decode cX7_faultOfRow 11 = .ok (.getfield 11, 3) := by decide +kernel
theorem dX7_faultOfRow_14 : decode cX7_faultOfRow 14 = .ok (.iload_n 1, 1) := by decide +kernel
theorem dX7_faultOfRow_15 : decode cX7_faultOfRow 15 = .ok (.iaload, 1) := by decide +kernel
theorem dX7_faultOfRow_16 : decode cX7_faultOfRow 16 = .ok (.iload_n 2, 1) := by decide +kernel
theorem dX7_faultOfRow_17 : decode cX7_faultOfRow 17 = .ok (.if_icmp .ne 7, 3) := by decide +kernel
theorem dX7_faultOfRow_20 : decode cX7_faultOfRow 20 = .ok (.iconst 0, 1) := by decide +kernel
theorem dX7_faultOfRow_21 : decode cX7_faultOfRow 21 = .ok (.goto 4, 3) := by decide +kernel
theorem dX7_faultOfRow_24 : decode cX7_faultOfRow 24 = .ok (.iconst 2, 1) := by decide +kernel
theorem dX7_faultOfRow_25 : decode cX7_faultOfRow 25 = .ok (.ireturn, 1) := by decide +kernel
theorem dX7_at_0 : decode cX7_at 0 = .ok (.aload_n 0, 1) := by decide +kernel
theorem dX7_at_1 : decode cX7_at 1 = .ok (.iload_n 1, 1) := by decide +kernel
theorem dX7_at_2 : decode cX7_at 2 = .ok (.iload_n 2, 1) := by decide +kernel
theorem dX7_at_3 : decode cX7_at 3 = .ok (.invokevirtual 28, 3) := by decide +kernel
theorem dX7_at_6 : decode cX7_at 6 = .ok (.ifCond .eq 17, 3) := by decide +kernel
theorem dX7_at_9 : decode cX7_at 9 = .ok (.aload_n 0, 1) := by decide +kernel
theorem dX7_at_10 : decode cX7_at 10 = .ok (.getfield 18, 3) := by decide +kernel
theorem dX7_at_13 : decode cX7_at 13 = .ok (.iload_n 1, 1) := by decide +kernel
theorem dX7_at_14 : decode cX7_at 14 = .ok (.bipush 80, 2) := by decide +kernel
theorem dX7_at_16 : decode cX7_at 16 = .ok (.imul, 1) := by decide +kernel
theorem dX7_at_17 : decode cX7_at 17 = .ok (.iload_n 2, 1) := by decide +kernel
theorem dX7_at_18 : decode cX7_at 18 = .ok (.iadd, 1) := by decide +kernel
theorem dX7_at_19 : decode cX7_at 19 = .ok (.iaload, 1) := by decide +kernel
theorem dX7_at_20 : decode cX7_at 20 = .ok (.goto 4, 3) := by decide +kernel
theorem dX7_at_23 : decode cX7_at 23 = .ok (.iconst 0, 1) := by decide +kernel
theorem dX7_at_24 : decode cX7_at 24 = .ok (.ireturn, 1) := by decide +kernel
theorem dX7_renew_0 : decode cX7_renew 0 = .ok (.iload_n 1, 1) := by decide +kernel
theorem dX7_renew_1 : decode cX7_renew 1 = .ok (.invokestatic 21, 3) := by decide +kernel
theorem dX7_renew_4 : decode cX7_renew 4 = .ok (.ifCond .eq 20, 3) := by decide +kernel
theorem dX7_renew_7 : decode cX7_renew 7 = .ok (.iload_n 2, 1) := by decide +kernel
theorem dX7_renew_8 : decode cX7_renew 8 = .ok (.invokestatic 32, 3) := by decide +kernel
theorem dX7_renew_11 : decode cX7_renew 11 = .ok (.ifCond .eq 13, 3) := by decide +kernel
theorem dX7_renew_14 : decode cX7_renew 14 = .ok (.iload_n 3, 1) := by decide +kernel
theorem dX7_renew_15 : decode cX7_renew 15 = .ok (.ifCond .lt 9, 3) := by decide +kernel
theorem dX7_renew_18 : decode cX7_renew 18 = .ok (.iload_n 3, 1) := by decide +kernel
theorem dX7_renew_19 : decode cX7_renew 19 = .ok (.bipush 80, 2) := by decide +kernel
theorem dX7_renew_21 : decode cX7_renew 21 = .ok (.if_icmp .le 4, 3) := by decide +kernel
theorem dX7_renew_24 : decode cX7_renew 24 = .ok (.return_, 1) := by decide +kernel
theorem dX7_renew_25 : decode cX7_renew 25 = .ok (.aload_n 0, 1) := by decide +kernel
theorem dX7_renew_26 : decode cX7_renew 26 = .ok (.getfield 11, 3) := by decide +kernel
theorem dX7_renew_29 : decode cX7_renew 29 = .ok (.iload_n 1, 1) := by decide +kernel
theorem dX7_renew_30 : decode cX7_renew 30 = .ok (.iload_n 2, 1) := by decide +kernel
theorem dX7_renew_31 : decode cX7_renew 31 = .ok (.iastore, 1) := by decide +kernel
theorem dX7_renew_32 : decode cX7_renew 32 = .ok (.aload_n 0, 1) := by decide +kernel
theorem dX7_renew_33 : decode cX7_renew 33 = .ok (.getfield 15, 3) := by decide +kernel
theorem dX7_renew_36 : decode cX7_renew 36 = .ok (.iload_n 1, 1) := by decide +kernel
theorem dX7_renew_37 : decode cX7_renew 37 = .ok (.iload_n 3, 1) := by decide +kernel
theorem dX7_renew_38 : decode cX7_renew 38 = .ok (.iastore, 1) := by decide +kernel
theorem dX7_renew_39 : decode cX7_renew 39 = .ok (.iconst 0, 1) := by decide +kernel
theorem dX7_renew_40 : decode cX7_renew 40 = .ok (.istore 4, 2) := by decide +kernel
theorem dX7_renew_42 : decode cX7_renew 42 = .ok (.iload 4, 2) := by decide +kernel
theorem dX7_renew_44 : decode cX7_renew 44 = .ok (.iload_n 3, 1) := by decide +kernel
theorem dX7_renew_45 : decode cX7_renew 45 = .ok (.if_icmp .ge 22, 3) := by decide +kernel
theorem dX7_renew_48 : decode cX7_renew 48 = .ok (.aload_n 0, 1) := by decide +kernel
theorem dX7_renew_49 : decode cX7_renew 49 = .ok (.getfield 18, 3) := by decide +kernel
theorem dX7_renew_52 : decode cX7_renew 52 = .ok (.iload_n 1, 1) := by decide +kernel
theorem dX7_renew_53 : decode cX7_renew 53 = .ok (.bipush 80, 2) := by decide +kernel
theorem dX7_renew_55 : decode cX7_renew 55 = .ok (.imul, 1) := by decide +kernel
theorem dX7_renew_56 : decode cX7_renew 56 = .ok (.iload 4, 2) := by decide +kernel
theorem dX7_renew_58 : decode cX7_renew 58 = .ok (.iadd, 1) := by decide +kernel
theorem dX7_renew_59 : decode cX7_renew 59 = .ok (.iconst 0, 1) := by decide +kernel
theorem dX7_renew_60 : decode cX7_renew 60 = .ok (.iastore, 1) := by decide +kernel
theorem dX7_renew_61 : decode cX7_renew 61 = .ok (.iinc 4 1, 3) := by decide +kernel
theorem dX7_renew_64 : decode cX7_renew 64 = .ok (.goto (-22), 3) := by decide +kernel
theorem dX7_renew_67 : decode cX7_renew 67 = .ok (.return_, 1) := by decide +kernel
theorem dX7_drop_0 : decode cX7_drop 0 = .ok (.aload_n 0, 1) := by decide +kernel
theorem dX7_drop_1 : decode cX7_drop 1 = .ok (.iload_n 1, 1) := by decide +kernel
theorem dX7_drop_2 : decode cX7_drop 2 = .ok (.invokevirtual 25, 3) := by decide +kernel
theorem dX7_drop_5 : decode cX7_drop 5 = .ok (.ifCond .eq 5, 3) := by decide +kernel
theorem dX7_drop_8 : decode cX7_drop 8 = .ok (.iconst 0, 1) := by decide +kernel
theorem dX7_drop_9 : decode cX7_drop 9 = .ok (.ireturn, 1) := by decide +kernel
theorem dX7_drop_10 : decode cX7_drop 10 = .ok (.aload_n 0, 1) := by decide +kernel
theorem dX7_drop_11 : decode cX7_drop 11 = .ok (.getfield 11, 3) := by decide +kernel
theorem dX7_drop_14 : decode cX7_drop 14 = .ok (.iload_n 1, 1) := by decide +kernel
theorem dX7_drop_15 : decode cX7_drop 15 = .ok (.iconst (-1), 1) := by decide +kernel
theorem dX7_drop_16 : decode cX7_drop 16 = .ok (.iastore, 1) := by decide +kernel
theorem dX7_drop_17 : decode cX7_drop 17 = .ok (.aload_n 0, 1) := by decide +kernel
theorem dX7_drop_18 : decode cX7_drop 18 = .ok (.getfield 15, 3) := by decide +kernel
theorem dX7_drop_21 : decode cX7_drop 21 = .ok (.iload_n 1, 1) := by decide +kernel
theorem dX7_drop_22 : decode cX7_drop 22 = .ok (.iconst 0, 1) := by decide +kernel
theorem dX7_drop_23 : decode cX7_drop 23 = .ok (.iastore, 1) := by decide +kernel
theorem dX7_drop_24 : decode cX7_drop 24 = .ok (.iconst 1, 1) := by decide +kernel
theorem dX7_drop_25 : decode cX7_drop 25 = .ok (.ireturn, 1) := by decide +kernel
theorem dX7_write_0 : decode cX7_write 0 = .ok (.aload_n 0, 1) := by decide +kernel
theorem dX7_write_1 : decode cX7_write 1 = .ok (.iload_n 1, 1) := by decide +kernel
theorem dX7_write_2 : decode cX7_write 2 = .ok (.iload_n 2, 1) := by decide +kernel
theorem dX7_write_3 : decode cX7_write 3 = .ok (.invokevirtual 28, 3) := by decide +kernel
theorem dX7_write_6 : decode cX7_write 6 = .ok (.ifCond .ne 4, 3) := by decide +kernel
theorem dX7_write_9 : decode cX7_write 9 = .ok (.return_, 1) := by decide +kernel
theorem dX7_write_10 : decode cX7_write 10 = .ok (.iload_n 3, 1) := by decide +kernel
theorem dX7_write_11 : decode cX7_write 11 = .ok (.istore 4, 2) := by decide +kernel
theorem dX7_write_13 : decode cX7_write 13 = .ok (.aload_n 0, 1) := by decide +kernel
theorem dX7_write_14 : decode cX7_write 14 = .ok (.getfield 11, 3) := by decide +kernel
theorem dX7_write_17 : decode cX7_write 17 = .ok (.iload_n 1, 1) := by decide +kernel
theorem dX7_write_18 : decode cX7_write 18 = .ok (.iaload, 1) := by decide +kernel
theorem dX7_write_19 : decode cX7_write 19 = .ok (.ifCond .ne 10, 3) := by decide +kernel
theorem dX7_write_22 : decode cX7_write 22 = .ok (.iload_n 3, 1) := by decide +kernel
theorem dX7_write_23 : decode cX7_write 23 = .ok (.i2b, 1) := by decide +kernel
theorem dX7_write_24 : decode cX7_write 24 = .ok (.istore 4, 2) := by decide +kernel
theorem dX7_write_26 : decode cX7_write 26 = .ok (.goto 17, 3) := by decide +kernel
theorem dX7_write_29 : decode cX7_write 29 = .ok (.aload_n 0, 1) := by decide +kernel
theorem dX7_write_30 : decode cX7_write 30 = .ok (.getfield 11, 3) := by decide +kernel
theorem dX7_write_33 : decode cX7_write 33 = .ok (.iload_n 1, 1) := by decide +kernel
theorem dX7_write_34 : decode cX7_write 34 = .ok (.iaload, 1) := by decide +kernel
theorem dX7_write_35 : decode cX7_write 35 = .ok (.iconst 1, 1) := by decide +kernel
theorem dX7_write_36 : decode cX7_write 36 = .ok (.if_icmp .ne 7, 3) := by decide +kernel
theorem dX7_write_39 : decode cX7_write 39 = .ok (.iload_n 3, 1) := by decide +kernel
theorem dX7_write_40 : decode cX7_write 40 = .ok (.i2s, 1) := by decide +kernel
theorem dX7_write_41 : decode cX7_write 41 = .ok (.istore 4, 2) := by decide +kernel
theorem dX7_write_43 : decode cX7_write 43 = .ok (.aload_n 0, 1) := by decide +kernel
theorem dX7_write_44 : decode cX7_write 44 = .ok (.getfield 18, 3) := by decide +kernel
theorem dX7_write_47 : decode cX7_write 47 = .ok (.iload_n 1, 1) := by decide +kernel
theorem dX7_write_48 : decode cX7_write 48 = .ok (.bipush 80, 2) := by decide +kernel
theorem dX7_write_50 : decode cX7_write 50 = .ok (.imul, 1) := by decide +kernel
theorem dX7_write_51 : decode cX7_write 51 = .ok (.iload_n 2, 1) := by decide +kernel
theorem dX7_write_52 : decode cX7_write 52 = .ok (.iadd, 1) := by decide +kernel
theorem dX7_write_53 : decode cX7_write 53 = .ok (.iload 4, 2) := by decide +kernel
theorem dX7_write_55 : decode cX7_write 55 = .ok (.iastore, 1) := by decide +kernel
theorem dX7_write_56 : decode cX7_write 56 = .ok (.return_, 1) := by decide +kernel
theorem dX7_carry_0 : decode cX7_carry 0 = .ok (.aload_n 0, 1) := by decide +kernel
theorem dX7_carry_1 : decode cX7_carry 1 = .ok (.iload_n 1, 1) := by decide +kernel
theorem dX7_carry_2 : decode cX7_carry 2 = .ok (.iload_n 2, 1) := by decide +kernel
theorem dX7_carry_3 : decode cX7_carry 3 = .ok (.iload 5, 2) := by decide +kernel
theorem dX7_carry_5 : decode cX7_carry 5 = .ok (.invokevirtual 35, 3) := by decide +kernel
theorem dX7_carry_8 : decode cX7_carry 8 = .ok (.ifCond .eq 41, 3) := by decide +kernel
theorem dX7_carry_11 : decode cX7_carry 11 = .ok (.aload_n 0, 1) := by decide +kernel
theorem dX7_carry_12 : decode cX7_carry 12 = .ok (.iload_n 3, 1) := by decide +kernel
theorem dX7_carry_13 : decode cX7_carry 13 = .ok (.iload 4, 2) := by decide +kernel
theorem dX7_carry_15 : decode cX7_carry 15 = .ok (.iload 5, 2) := by decide +kernel
theorem dX7_carry_17 : decode cX7_carry 17 = .ok (.invokevirtual 35, 3) := by decide +kernel
theorem dX7_carry_20 : decode cX7_carry 20 = .ok (.ifCond .eq 29, 3) := by decide +kernel
theorem dX7_carry_23 : decode cX7_carry 23 = .ok (.aload_n 0, 1) := by decide +kernel
theorem dX7_carry_24 : decode cX7_carry 24 = .ok (.getfield 18, 3) := by decide +kernel
theorem dX7_carry_27 : decode cX7_carry 27 = .ok (.iload_n 1, 1) := by decide +kernel
theorem dX7_carry_28 : decode cX7_carry 28 = .ok (.bipush 80, 2) := by decide +kernel
theorem dX7_carry_30 : decode cX7_carry 30 = .ok (.imul, 1) := by decide +kernel
theorem dX7_carry_31 : decode cX7_carry 31 = .ok (.iload_n 2, 1) := by decide +kernel
theorem dX7_carry_32 : decode cX7_carry 32 = .ok (.iadd, 1) := by decide +kernel
theorem dX7_carry_33 : decode cX7_carry 33 = .ok (.aload_n 0, 1) := by decide +kernel
theorem dX7_carry_34 : decode cX7_carry 34 = .ok (.getfield 18, 3) := by decide +kernel
theorem dX7_carry_37 : decode cX7_carry 37 = .ok (.iload_n 3, 1) := by decide +kernel
theorem dX7_carry_38 : decode cX7_carry 38 = .ok (.bipush 80, 2) := by decide +kernel
theorem dX7_carry_40 : decode cX7_carry 40 = .ok (.imul, 1) := by decide +kernel
theorem dX7_carry_41 : decode cX7_carry 41 = .ok (.iload 4, 2) := by decide +kernel
theorem dX7_carry_43 : decode cX7_carry 43 = .ok (.iadd, 1) := by decide +kernel
theorem dX7_carry_44 : decode cX7_carry 44 = .ok (.iload 5, 2) := by decide +kernel
theorem dX7_carry_46 : decode cX7_carry 46 = .ok (.invokestatic 39, 3) := by decide +kernel
theorem dX7_carry_49 : decode cX7_carry 49 = .ok (.return_, 1) := by decide +kernel
theorem dX8_init_0 : decode cX8_init 0 = .ok (.aload_n 0, 1) := by decide +kernel
theorem dX8_init_1 : decode cX8_init 1 = .ok (.invokespecial 3, 3) := by decide +kernel
theorem dX8_init_4 : decode cX8_init 4 = .ok (.aload_n 0, 1) := by decide +kernel
theorem dX8_init_5 : decode cX8_init 5 = .ok (.iconst 0, 1) := by decide +kernel
theorem dX8_init_6 : decode cX8_init 6 = .ok (.putfield 9, 3) := by decide +kernel
theorem dX8_init_9 : decode cX8_init 9 = .ok (.aload_n 0, 1) := by decide +kernel
theorem dX8_init_10 : decode cX8_init 10 = .ok (.bipush 7, 2) := by decide +kernel
theorem dX8_init_12 : decode cX8_init 12 = .ok (.newarray .int, 2) := by decide +kernel
theorem dX8_init_14 : decode cX8_init 14 = .ok (.putfield 15, 3) := by decide +kernel
theorem dX8_init_17 : decode cX8_init 17 = .ok (.aload_n 0, 1) := by decide +kernel
theorem dX8_init_18 : decode cX8_init 18 = .ok (.bipush 64, 2) := by decide +kernel
theorem dX8_init_20 : decode cX8_init 20 = .ok (.newarray .int, 2) := by decide +kernel
theorem dX8_init_22 : decode cX8_init 22 = .ok (.putfield 19, 3) := by decide +kernel
theorem dX8_init_25 : decode cX8_init 25 = .ok (.return_, 1) := by decide +kernel
theorem dX8_read_0 : decode cX8_read 0 = .ok (.aload_n 0, 1) := by decide +kernel
theorem dX8_read_1 : decode cX8_read 1 = .ok (.iconst 0, 1) := by decide +kernel
theorem dX8_read_2 : decode cX8_read 2 = .ok (.putfield 9, 3) := by decide +kernel
theorem dX8_read_5 : decode cX8_read 5 = .ok (.iload 4, 2) := by decide +kernel
theorem dX8_read_7 : decode cX8_read 7 = .ok (.iconst 2, 1) := by decide +kernel
theorem dX8_read_8 : decode cX8_read 8 = .ok (.if_icmp .lt 10, 3) := by decide +kernel
theorem dX8_read_11 : decode cX8_read 11 = .ok (.iload 4, 2) := by decide +kernel
theorem dX8_read_13 : decode cX8_read 13 = .ok (.bipush 7, 2) := by decide +kernel
theorem dX8_read_15 : decode cX8_read 15 = .ok (.if_icmp .le 5, 3) := by decide +kernel
theorem dX8_read_18 : decode cX8_read 18 = .ok (.iconst 0, 1) := by decide +kernel
theorem dX8_read_19 : decode cX8_read 19 = .ok (.ireturn, 1) := by decide +kernel
theorem dX8_read_20 : decode cX8_read 20 = .ok (.iconst 0, 1) := by decide +kernel
theorem dX8_read_21 : decode cX8_read 21 = .ok (.istore 5, 2) := by decide +kernel
theorem dX8_read_23 : decode cX8_read 23 = .ok (.iload 5, 2) := by decide +kernel
theorem dX8_read_25 : decode cX8_read 25 = .ok (.iload 4, 2) := by decide +kernel
theorem dX8_read_27 : decode cX8_read 27 = .ok (.if_icmp .ge 51, 3) := by decide +kernel
theorem dX8_read_30 : decode cX8_read 30 = .ok (.aload_n 0, 1) := by decide +kernel
theorem dX8_read_31 : decode cX8_read 31 = .ok (.getfield 15, 3) := by decide +kernel
theorem dX8_read_34 : decode cX8_read 34 = .ok (.iload 5, 2) := by decide +kernel
theorem dX8_read_36 : decode cX8_read 36 = .ok (.aload_n 1, 1) := by decide +kernel
theorem dX8_read_37 : decode cX8_read 37 = .ok (.iload_n 2, 1) := by decide +kernel
theorem dX8_read_38 : decode cX8_read 38 = .ok (.iload_n 3, 1) := by decide +kernel
theorem dX8_read_39 : decode cX8_read 39 = .ok (.iload 5, 2) := by decide +kernel
theorem dX8_read_41 : decode cX8_read 41 = .ok (.iadd, 1) := by decide +kernel
theorem dX8_read_42 : decode cX8_read 42 = .ok (.invokevirtual 22, 3) := by decide +kernel
theorem dX8_read_45 : decode cX8_read 45 = .ok (.iastore, 1) := by decide +kernel
theorem dX8_read_46 : decode cX8_read 46 = .ok (.aload_n 0, 1) := by decide +kernel
theorem dX8_read_47 : decode cX8_read 47 = .ok (.getfield 15, 3) := by decide +kernel
theorem dX8_read_50 : decode cX8_read 50 = .ok (.iload 5, 2) := by decide +kernel
theorem dX8_read_52 : decode cX8_read 52 = .ok (.iaload, 1) := by decide +kernel
theorem dX8_read_53 : decode cX8_read 53 = .ok (.bipush (-9), 2) := by decide +kernel
theorem dX8_read_55 : decode cX8_read 55 = .ok (.if_icmp .lt 15, 3) := by decide +kernel
theorem dX8_read_58 : decode cX8_read 58 = .ok (.aload_n 0, 1) := by decide +kernel
theorem dX8_read_59 : decode cX8_read 59 = .ok (.getfield 15, 3) := by decide +kernel
theorem dX8_read_62 : decode cX8_read 62 = .ok (.iload 5, 2) := by decide +kernel
theorem dX8_read_64 : decode cX8_read 64 = .ok (.iaload, 1) := by decide +kernel
theorem dX8_read_65 : decode cX8_read 65 = .ok (.bipush 9, 2) := by decide +kernel
theorem dX8_read_67 : decode cX8_read 67 = .ok (.if_icmp .le 5, 3) := by decide +kernel
theorem dX8_read_70 : decode cX8_read 70 = .ok (.iconst 0, 1) := by decide +kernel
theorem dX8_read_71 : decode cX8_read 71 = .ok (.ireturn, 1) := by decide +kernel
theorem dX8_read_72 : decode cX8_read 72 = .ok (.iinc 5 1, 3) := by decide +kernel
theorem dX8_read_75 : decode cX8_read 75 = .ok (.goto (-52), 3) := by decide +kernel
theorem dX8_read_78 : decode cX8_read 78 = .ok (.aload_n 0, 1) := by decide +kernel
theorem dX8_read_79 : decode cX8_read 79 = .ok (.iload 4, 2) := by decide +kernel
theorem dX8_read_81 : decode cX8_read 81 = .ok (.iconst 1, 1) := by decide +kernel
theorem dX8_read_82 : decode cX8_read 82 = .ok (.isub, 1) := by decide +kernel
theorem dX8_read_83 : decode cX8_read 83 = .ok (.putfield 9, 3) := by decide +kernel
theorem dX8_read_86 : decode cX8_read 86 = .ok (.iconst 1, 1) := by decide +kernel
theorem dX8_read_87 : decode cX8_read 87 = .ok (.ireturn, 1) := by decide +kernel
theorem dX8_weighOrders_0 : decode cX8_weighOrders 0 = .ok (.iconst 1, 1) := by decide +kernel
theorem dX8_weighOrders_1 : decode cX8_weighOrders 1 = .ok (.aload_n 0, 1) := by decide +kernel
theorem dX8_weighOrders_2 : decode cX8_weighOrders 2 = .ok (.getfield 9, 3) := by decide +kernel
theorem dX8_weighOrders_5 : decode cX8_weighOrders 5 = .ok (.ishl, 1) := by decide +kernel
theorem dX8_weighOrders_6 : decode cX8_weighOrders 6 = .ok (.iconst 1, 1) := by decide +kernel
theorem dX8_weighOrders_7 : decode cX8_weighOrders 7 = .ok (.isub, 1) := by decide +kernel
theorem dX8_weighOrders_8 : decode cX8_weighOrders 8 = .ok (.istore_n 1, 1) := by decide +kernel
theorem dX8_weighOrders_9 : decode cX8_weighOrders 9 = .ok (.aload_n 0, 1) := by decide +kernel
theorem dX8_weighOrders_10 : decode cX8_weighOrders 10 = .ok (.getfield 19, 3) := by decide +kernel
theorem dX8_weighOrders_13 : decode cX8_weighOrders 13 = .ok (.iload_n 1, 1) := by decide +kernel
theorem dX8_weighOrders_14 : decode cX8_weighOrders 14 = .ok (.iconst 0, 1) := by decide +kernel
theorem dX8_weighOrders_15 : decode cX8_weighOrders 15 = .ok (.iastore, 1) := by decide +kernel
theorem dX8_weighOrders_16 : decode cX8_weighOrders 16 = .ok (.iload_n 1, 1) := by decide +kernel
theorem dX8_weighOrders_17 : decode cX8_weighOrders 17 = .ok (.iconst 1, 1) := by decide +kernel
theorem dX8_weighOrders_18 : decode cX8_weighOrders 18 = .ok (.isub, 1) := by decide +kernel
theorem dX8_weighOrders_19 : decode cX8_weighOrders 19 = .ok (.istore_n 2, 1) := by decide +kernel
theorem dX8_weighOrders_20 : decode cX8_weighOrders 20 = .ok (.iload_n 2, 1) := by decide +kernel
theorem dX8_weighOrders_21 : decode cX8_weighOrders 21 = .ok (.ifCond .lt 63, 3) := by decide +kernel
theorem dX8_weighOrders_24 : decode cX8_weighOrders 24 = .ok (.aload_n 0, 1) := by decide +kernel
theorem dX8_weighOrders_25 : decode cX8_weighOrders 25 = .ok (.getfield 19, 3) := by decide +kernel
theorem dX8_weighOrders_28 : decode cX8_weighOrders 28 = .ok (.iload_n 2, 1) := by decide +kernel
theorem dX8_weighOrders_29 : decode cX8_weighOrders 29 = .ok (.sipush 1000, 3) := by decide +kernel
theorem dX8_weighOrders_32 : decode cX8_weighOrders 32 = .ok (.iastore, 1) := by decide +kernel
theorem dX8_weighOrders_33 : decode cX8_weighOrders 33 = .ok (.iconst 0, 1) := by decide +kernel
theorem dX8_weighOrders_34 : decode cX8_weighOrders 34 = .ok (.istore_n 3, 1) := by decide +kernel
theorem dX8_weighOrders_35 : decode cX8_weighOrders 35 = .ok (.iload_n 3, 1) := by decide +kernel
theorem dX8_weighOrders_36 : decode cX8_weighOrders 36 = .ok (.aload_n 0, 1) := by decide +kernel
theorem dX8_weighOrders_37 : decode cX8_weighOrders 37 = .ok (.getfield 9, 3) := by decide +kernel
theorem dX8_weighOrders_40 : decode cX8_weighOrders 40 = .ok (.if_icmp .ge 38, 3) := by decide +kernel
theorem dX8_weighOrders_43 : decode cX8_weighOrders 43 = .ok (.iload_n 2, 1) := by decide +kernel
theorem dX8_weighOrders_44 : decode cX8_weighOrders 44 = .ok (.iload_n 3, 1) := by decide +kernel
theorem dX8_weighOrders_45 : decode cX8_weighOrders 45 = .ok (.invokestatic 28, 3) := by decide +kernel
theorem dX8_weighOrders_48 : decode cX8_weighOrders 48 = .ok (.ifCond .eq 24, 3) := by decide +kernel
theorem dX8_weighOrders_51 : decode cX8_weighOrders 51 = .ok (.aload_n 0, 1) := by decide +kernel
theorem dX8_weighOrders_52 : decode cX8_weighOrders 52 = .ok (.getfield 19, 3) := by decide +kernel
theorem dX8_weighOrders_55 : decode cX8_weighOrders 55 = .ok (.iload_n 2, 1) := by decide +kernel
theorem dX8_weighOrders_56 : decode cX8_weighOrders 56 = .ok (.aload_n 0, 1) := by decide +kernel
theorem dX8_weighOrders_57 : decode cX8_weighOrders 57 = .ok (.getfield 19, 3) := by decide +kernel
theorem dX8_weighOrders_60 : decode cX8_weighOrders 60 = .ok (.iload_n 2, 1) := by decide +kernel
theorem dX8_weighOrders_61 : decode cX8_weighOrders 61 = .ok (.iaload, 1) := by decide +kernel
theorem dX8_weighOrders_62 : decode cX8_weighOrders 62 = .ok (.aload_n 0, 1) := by decide +kernel
theorem dX8_weighOrders_63 : decode cX8_weighOrders 63 = .ok (.iload_n 2, 1) := by decide +kernel
theorem dX8_weighOrders_64 : decode cX8_weighOrders 64 = .ok (.iload_n 3, 1) := by decide +kernel
theorem dX8_weighOrders_65 : decode cX8_weighOrders 65 = .ok (.invokevirtual 32, 3) := by decide +kernel
theorem dX8_weighOrders_68 : decode cX8_weighOrders 68 = .ok (.invokestatic 35, 3) := by decide +kernel
theorem dX8_weighOrders_71 : decode cX8_weighOrders 71 = .ok (.iastore, 1) := by decide +kernel
theorem dX8_weighOrders_72 : decode cX8_weighOrders 72 = .ok (.iinc 3 1, 3) := by decide +kernel
theorem dX8_weighOrders_75 : decode cX8_weighOrders 75 = .ok (.goto (-40), 3) := by decide +kernel
theorem dX8_weighOrders_78 : decode cX8_weighOrders 78 = .ok (.iinc 2 (-1), 3) := by decide +kernel
theorem dX8_weighOrders_81 : decode cX8_weighOrders 81 = .ok (.goto (-61), 3) := by decide +kernel
theorem dX8_weighOrders_84 : decode cX8_weighOrders 84 = .ok (.return_, 1) := by decide +kernel
theorem dX8_leastCost_0 : decode cX8_leastCost 0 = .ok (.aload_n 0, 1) := by decide +kernel
theorem dX8_leastCost_1 : decode cX8_leastCost 1 = .ok (.getfield 19, 3) := by decide +kernel
theorem dX8_leastCost_4 : decode cX8_leastCost 4 = .ok (.iconst 0, 1) := by decide +kernel
theorem dX8_leastCost_5 : decode cX8_leastCost 5 = .ok (.iaload, 1) := by decide +kernel
theorem dX8_leastCost_6 : decode cX8_leastCost 6 = .ok (.ireturn, 1) := by decide +kernel
theorem dX8_cutOfOrder_0 : decode cX8_cutOfOrder 0 = .ok (.iconst 0, 1) := by decide +kernel
theorem dX8_cutOfOrder_1 : decode cX8_cutOfOrder 1 = .ok (.istore_n 2, 1) := by decide +kernel
theorem dX8_cutOfOrder_2 : decode cX8_cutOfOrder 2 = .ok (.iconst 0, 1) := by decide +kernel
theorem dX8_cutOfOrder_3 : decode cX8_cutOfOrder 3 = .ok (.istore_n 3, 1) := by decide +kernel
theorem dX8_cutOfOrder_4 : decode cX8_cutOfOrder 4 = .ok (.iload_n 3, 1) := by decide +kernel
theorem dX8_cutOfOrder_5 : decode cX8_cutOfOrder 5 = .ok (.aload_n 0, 1) := by decide +kernel
theorem dX8_cutOfOrder_6 : decode cX8_cutOfOrder 6 = .ok (.getfield 9, 3) := by decide +kernel
theorem dX8_cutOfOrder_9 : decode cX8_cutOfOrder 9 = .ok (.if_icmp .ge 31, 3) := by decide +kernel
theorem dX8_cutOfOrder_12 : decode cX8_cutOfOrder 12 = .ok (.aload_n 0, 1) := by decide +kernel
theorem dX8_cutOfOrder_13 : decode cX8_cutOfOrder 13 = .ok (.iload_n 2, 1) := by decide +kernel
theorem dX8_cutOfOrder_14 : decode cX8_cutOfOrder 14 = .ok (.invokevirtual 40, 3) := by decide +kernel
theorem dX8_cutOfOrder_17 : decode cX8_cutOfOrder 17 = .ok (.istore 4, 2) := by decide +kernel
theorem dX8_cutOfOrder_19 : decode cX8_cutOfOrder 19 = .ok (.iload_n 3, 1) := by decide +kernel
theorem dX8_cutOfOrder_20 : decode cX8_cutOfOrder 20 = .ok (.iload_n 1, 1) := by decide +kernel
theorem dX8_cutOfOrder_21 : decode cX8_cutOfOrder 21 = .ok (.if_icmp .ne 6, 3) := by decide +kernel
theorem dX8_cutOfOrder_24 : decode cX8_cutOfOrder 24 = .ok (.iload 4, 2) := by decide +kernel
theorem dX8_cutOfOrder_26 : decode cX8_cutOfOrder 26 = .ok (.ireturn, 1) := by decide +kernel
theorem dX8_cutOfOrder_27 : decode cX8_cutOfOrder 27 = .ok (.iload_n 2, 1) := by decide +kernel
theorem dX8_cutOfOrder_28 : decode cX8_cutOfOrder 28 = .ok (.iconst 1, 1) := by decide +kernel
theorem dX8_cutOfOrder_29 : decode cX8_cutOfOrder 29 = .ok (.iload 4, 2) := by decide +kernel
theorem dX8_cutOfOrder_31 : decode cX8_cutOfOrder 31 = .ok (.ishl, 1) := by decide +kernel
theorem dX8_cutOfOrder_32 : decode cX8_cutOfOrder 32 = .ok (.ior, 1) := by decide +kernel
theorem dX8_cutOfOrder_33 : decode cX8_cutOfOrder 33 = .ok (.istore_n 2, 1) := by decide +kernel
theorem dX8_cutOfOrder_34 : decode cX8_cutOfOrder 34 = .ok (.iinc 3 1, 3) := by decide +kernel
theorem dX8_cutOfOrder_37 : decode cX8_cutOfOrder 37 = .ok (.goto (-33), 3) := by decide +kernel
theorem dX8_cutOfOrder_40 : decode cX8_cutOfOrder 40 = .ok (.bipush (-9), 2) := by decide +kernel
theorem dX8_cutOfOrder_42 : decode cX8_cutOfOrder 42 = .ok (.ireturn, 1) := by decide +kernel
theorem dX8_lowestBest_0 : decode cX8_lowestBest 0 = .ok (.iconst 0, 1) := by decide +kernel
theorem dX8_lowestBest_1 : decode cX8_lowestBest 1 = .ok (.istore_n 2, 1) := by decide +kernel
theorem dX8_lowestBest_2 : decode cX8_lowestBest 2 = .ok (.iload_n 2, 1) := by decide +kernel
theorem dX8_lowestBest_3 : decode cX8_lowestBest 3 = .ok (.aload_n 0, 1) := by decide +kernel
theorem dX8_lowestBest_4 : decode cX8_lowestBest 4 = .ok (.getfield 9, 3) := by decide +kernel
theorem dX8_lowestBest_7 : decode cX8_lowestBest 7 = .ok (.if_icmp .ge 34, 3) := by decide +kernel
theorem dX8_lowestBest_10 : decode cX8_lowestBest 10 = .ok (.iload_n 1, 1) := by decide +kernel
theorem dX8_lowestBest_11 : decode cX8_lowestBest 11 = .ok (.iload_n 2, 1) := by decide +kernel
theorem dX8_lowestBest_12 : decode cX8_lowestBest 12 = .ok (.invokestatic 28, 3) := by decide +kernel
theorem dX8_lowestBest_15 : decode cX8_lowestBest 15 = .ok (.ifCond .eq 20, 3) := by decide +kernel
theorem dX8_lowestBest_18 : decode cX8_lowestBest 18 = .ok (.aload_n 0, 1) := by decide +kernel
theorem dX8_lowestBest_19 : decode cX8_lowestBest 19 = .ok (.iload_n 1, 1) := by decide +kernel
theorem dX8_lowestBest_20 : decode cX8_lowestBest 20 = .ok (.iload_n 2, 1) := by decide +kernel
theorem dX8_lowestBest_21 : decode cX8_lowestBest 21 = .ok (.invokevirtual 32, 3) := by decide +kernel
theorem dX8_lowestBest_24 : decode cX8_lowestBest 24 = .ok (.aload_n 0, 1) := by decide +kernel
theorem dX8_lowestBest_25 : decode cX8_lowestBest 25 = .ok (.getfield 19, 3) := by decide +kernel
theorem dX8_lowestBest_28 : decode cX8_lowestBest 28 = .ok (.iload_n 1, 1) := by decide +kernel
theorem dX8_lowestBest_29 : decode cX8_lowestBest 29 = .ok (.iaload, 1) := by decide +kernel
theorem dX8_lowestBest_30 : decode cX8_lowestBest 30 = .ok (.if_icmp .ne 5, 3) := by decide +kernel
theorem dX8_lowestBest_33 : decode cX8_lowestBest 33 = .ok (.iload_n 2, 1) := by decide +kernel
theorem dX8_lowestBest_34 : decode cX8_lowestBest 34 = .ok (.ireturn, 1) := by decide +kernel
theorem dX8_lowestBest_35 : decode cX8_lowestBest 35 = .ok (.iinc 2 1, 3) := by decide +kernel
theorem dX8_lowestBest_38 : decode cX8_lowestBest 38 = .ok (.goto (-36), 3) := by decide +kernel
theorem dX8_lowestBest_41 : decode cX8_lowestBest 41 = .ok (.iconst 0, 1) := by decide +kernel
theorem dX8_lowestBest_42 : decode cX8_lowestBest 42 = .ok (.ireturn, 1) := by decide +kernel
theorem dX8_isOpen_0 : decode cX8_isOpen 0 = .ok (.iload_n 0, 1) := by decide +kernel
theorem dX8_isOpen_1 : decode cX8_isOpen 1 = .ok (.iload_n 1, 1) := by decide +kernel
theorem dX8_isOpen_2 : decode cX8_isOpen 2 = .ok (.ishr, 1) := by decide +kernel
theorem dX8_isOpen_3 : decode cX8_isOpen 3 = .ok (.iconst 1, 1) := by decide +kernel
theorem dX8_isOpen_4 : decode cX8_isOpen 4 = .ok (.iand, 1) := by decide +kernel
theorem dX8_isOpen_5 : decode cX8_isOpen 5 = .ok (.ifCond .ne 7, 3) := by decide +kernel
theorem dX8_isOpen_8 : decode cX8_isOpen 8 = .ok (.iconst 1, 1) := by decide +kernel
theorem dX8_isOpen_9 : decode cX8_isOpen 9 = .ok (.goto 4, 3) := by decide +kernel
theorem dX8_isOpen_12 : decode cX8_isOpen 12 = .ok (.iconst 0, 1) := by decide +kernel
theorem dX8_isOpen_13 : decode cX8_isOpen 13 = .ok (.ireturn, 1) := by decide +kernel
theorem dX8_costThrough_0 : decode cX8_costThrough 0 = .ok (.aload_n 0, 1) := by decide +kernel
theorem dX8_costThrough_1 : decode cX8_costThrough 1 = .ok (.iload_n 1, 1) := by decide +kernel
theorem dX8_costThrough_2 : decode cX8_costThrough 2 = .ok (.iload_n 2, 1) := by decide +kernel
theorem dX8_costThrough_3 : decode cX8_costThrough 3 = .ok (.invokevirtual 44, 3) := by decide +kernel
theorem dX8_costThrough_6 : decode cX8_costThrough 6 = .ok (.aload_n 0, 1) := by decide +kernel
theorem dX8_costThrough_7 : decode cX8_costThrough 7 = .ok (.iload_n 1, 1) := by decide +kernel
theorem dX8_costThrough_8 : decode cX8_costThrough 8 = .ok (.iload_n 2, 1) := by decide +kernel
theorem dX8_costThrough_9 : decode cX8_costThrough 9 = .ok (.invokevirtual 47, 3) := by decide +kernel
theorem dX8_costThrough_12 : decode cX8_costThrough 12 = .ok (.isub, 1) := by decide +kernel
theorem dX8_costThrough_13 : decode cX8_costThrough 13 = .ok (.invokestatic 50, 3) := by decide +kernel
theorem dX8_costThrough_16 : decode cX8_costThrough 16 = .ok (.aload_n 0, 1) := by decide +kernel
theorem dX8_costThrough_17 : decode cX8_costThrough 17 = .ok (.getfield 19, 3) := by decide +kernel
theorem dX8_costThrough_20 : decode cX8_costThrough 20 = .ok (.iload_n 1, 1) := by decide +kernel
theorem dX8_costThrough_21 : decode cX8_costThrough 21 = .ok (.iconst 1, 1) := by decide +kernel
theorem dX8_costThrough_22 : decode cX8_costThrough 22 = .ok (.iload_n 2, 1) := by decide +kernel
theorem dX8_costThrough_23 : decode cX8_costThrough 23 = .ok (.ishl, 1) := by decide +kernel
theorem dX8_costThrough_24 : decode cX8_costThrough 24 = .ok (.ior, 1) := by decide +kernel
theorem dX8_costThrough_25 : decode cX8_costThrough 25 = .ok (.iaload, 1) := by decide +kernel
theorem dX8_costThrough_26 : decode cX8_costThrough 26 = .ok (.iadd, 1) := by decide +kernel
theorem dX8_costThrough_27 : decode cX8_costThrough 27 = .ok (.ireturn, 1) := by decide +kernel
theorem dX8_strainLeftOf_0 : decode cX8_strainLeftOf 0 = .ok (.aload_n 0, 1) := by decide +kernel
theorem dX8_strainLeftOf_1 : decode cX8_strainLeftOf 1 = .ok (.getfield 15, 3) := by decide +kernel
theorem dX8_strainLeftOf_4 : decode cX8_strainLeftOf 4 = .ok (.iload_n 2, 1) := by decide +kernel
theorem dX8_strainLeftOf_5 : decode cX8_strainLeftOf 5 = .ok (.iaload, 1) := by decide +kernel
theorem dX8_strainLeftOf_6 : decode cX8_strainLeftOf 6 = .ok (.istore_n 3, 1) := by decide +kernel
theorem dX8_strainLeftOf_7 : decode cX8_strainLeftOf 7 = .ok (.iload_n 2, 1) := by decide +kernel
theorem dX8_strainLeftOf_8 : decode cX8_strainLeftOf 8 = .ok (.iconst 1, 1) := by decide +kernel
theorem dX8_strainLeftOf_9 : decode cX8_strainLeftOf 9 = .ok (.isub, 1) := by decide +kernel
theorem dX8_strainLeftOf_10 : decode cX8_strainLeftOf 10 = .ok (.istore 4, 2) := by decide +kernel
theorem dX8_strainLeftOf_12 : decode cX8_strainLeftOf 12 = .ok (.iload 4, 2) := by decide +kernel
theorem dX8_strainLeftOf_14 : decode cX8_strainLeftOf 14 = .ok (.ifCond .lt 28, 3) := by decide +kernel
theorem dX8_strainLeftOf_17 : decode cX8_strainLeftOf 17 = .ok (.iload_n 1, 1) := by decide +kernel
theorem dX8_strainLeftOf_18 : decode cX8_strainLeftOf 18 = .ok (.iload 4, 2) := by decide +kernel
theorem dX8_strainLeftOf_20 : decode cX8_strainLeftOf 20 = .ok (.invokestatic 28, 3) := by decide +kernel
theorem dX8_strainLeftOf_23 : decode cX8_strainLeftOf 23 = .ok (.ifCond .eq 19, 3) := by decide +kernel
theorem dX8_strainLeftOf_26 : decode cX8_strainLeftOf 26 = .ok (.iload_n 3, 1) := by decide +kernel
theorem dX8_strainLeftOf_27 : decode cX8_strainLeftOf 27 = .ok (.aload_n 0, 1) := by decide +kernel
theorem dX8_strainLeftOf_28 : decode cX8_strainLeftOf 28 = .ok (.getfield 15, 3) := by decide +kernel
theorem dX8_strainLeftOf_31 : decode cX8_strainLeftOf 31 = .ok (.iload 4, 2) := by decide +kernel
theorem dX8_strainLeftOf_33 : decode cX8_strainLeftOf 33 = .ok (.iaload, 1) := by decide +kernel
theorem dX8_strainLeftOf_34 : decode cX8_strainLeftOf 34 = .ok (.iadd, 1) := by decide +kernel
theorem dX8_strainLeftOf_35 : decode cX8_strainLeftOf 35 = .ok (.istore_n 3, 1) := by decide +kernel
theorem dX8_strainLeftOf_36 : decode cX8_strainLeftOf 36 = .ok (.iinc 4 (-1), 3) := by decide +kernel
theorem dX8_strainLeftOf_39 : decode cX8_strainLeftOf 39 = .ok (.goto (-27), 3) := by decide +kernel
theorem dX8_strainLeftOf_42 : decode cX8_strainLeftOf 42 = .ok (.iload_n 3, 1) := by decide +kernel
theorem dX8_strainLeftOf_43 : decode cX8_strainLeftOf 43 = .ok (.ireturn, 1) := by decide +kernel
theorem dX8_strainRightOf_0 : decode cX8_strainRightOf 0 = .ok (.aload_n 0, 1) := by decide +kernel
theorem dX8_strainRightOf_1 : decode cX8_strainRightOf 1 = .ok (.getfield 15, 3) := by decide +kernel
theorem dX8_strainRightOf_4 : decode cX8_strainRightOf 4 = .ok (.iload_n 2, 1) := by decide +kernel
theorem dX8_strainRightOf_5 : decode cX8_strainRightOf 5 = .ok (.iconst 1, 1) := by decide +kernel
theorem dX8_strainRightOf_6 : decode cX8_strainRightOf 6 = .ok (.iadd, 1) := by decide +kernel
theorem dX8_strainRightOf_7 : decode cX8_strainRightOf 7 = .ok (.iaload, 1) := by decide +kernel
theorem dX8_strainRightOf_8 : decode cX8_strainRightOf 8 = .ok (.istore_n 3, 1) := by decide +kernel
theorem dX8_strainRightOf_9 : decode cX8_strainRightOf 9 = .ok (.iload_n 2, 1) := by decide +kernel
theorem dX8_strainRightOf_10 : decode cX8_strainRightOf 10 = .ok (.iconst 2, 1) := by decide +kernel
theorem dX8_strainRightOf_11 : decode cX8_strainRightOf 11 = .ok (.iadd, 1) := by decide +kernel
theorem dX8_strainRightOf_12 : decode cX8_strainRightOf 12 = .ok (.istore 4, 2) := by decide +kernel
theorem dX8_strainRightOf_14 : decode cX8_strainRightOf 14 = .ok (.iload 4, 2) := by decide +kernel
theorem dX8_strainRightOf_16 : decode cX8_strainRightOf 16 = .ok (.aload_n 0, 1) := by decide +kernel
theorem dX8_strainRightOf_17 : decode cX8_strainRightOf 17 = .ok (.getfield 9, 3) := by decide +kernel
theorem dX8_strainRightOf_20 : decode cX8_strainRightOf 20 = .ok (.if_icmp .gt 30, 3) := by decide +kernel
theorem dX8_strainRightOf_23 : decode cX8_strainRightOf 23 = .ok (.iload_n 1, 1) := by decide +kernel
theorem dX8_strainRightOf_24 : decode cX8_strainRightOf 24 = .ok (.iload 4, 2) := by decide +kernel
theorem dX8_strainRightOf_26 : decode cX8_strainRightOf 26 = .ok (.iconst 1, 1) := by decide +kernel
theorem dX8_strainRightOf_27 : decode cX8_strainRightOf 27 = .ok (.isub, 1) := by decide +kernel
theorem dX8_strainRightOf_28 : decode cX8_strainRightOf 28 = .ok (.invokestatic 28, 3) := by decide +kernel
theorem dX8_strainRightOf_31 : decode cX8_strainRightOf 31 = .ok (.ifCond .eq 19, 3) := by decide +kernel
theorem dX8_strainRightOf_34 : decode cX8_strainRightOf 34 = .ok (.iload_n 3, 1) := by decide +kernel
theorem dX8_strainRightOf_35 : decode cX8_strainRightOf 35 = .ok (.aload_n 0, 1) := by decide +kernel
theorem dX8_strainRightOf_36 : decode cX8_strainRightOf 36 = .ok (.getfield 15, 3) := by decide +kernel
theorem dX8_strainRightOf_39 : decode cX8_strainRightOf 39 = .ok (.iload 4, 2) := by decide +kernel
theorem dX8_strainRightOf_41 : decode cX8_strainRightOf 41 = .ok (.iaload, 1) := by decide +kernel
theorem dX8_strainRightOf_42 : decode cX8_strainRightOf 42 = .ok (.iadd, 1) := by decide +kernel
theorem dX8_strainRightOf_43 : decode cX8_strainRightOf 43 = .ok (.istore_n 3, 1) := by decide +kernel
theorem dX8_strainRightOf_44 : decode cX8_strainRightOf 44 = .ok (.iinc 4 1, 3) := by decide +kernel
theorem dX8_strainRightOf_47 : decode cX8_strainRightOf 47 = .ok (.goto (-33), 3) := by decide +kernel
theorem dX8_strainRightOf_50 : decode cX8_strainRightOf 50 = .ok (.iload_n 3, 1) := by decide +kernel
theorem dX8_strainRightOf_51 : decode cX8_strainRightOf 51 = .ok (.ireturn, 1) := by decide +kernel
theorem dX9_init_0 : decode cX9_init 0 = .ok (.aload_n 0, 1) := by decide +kernel
theorem dX9_init_1 : decode cX9_init 1 = .ok (.invokespecial 3, 3) := by decide +kernel
theorem dX9_init_4 : decode cX9_init 4 = .ok (.aload_n 0, 1) := by decide +kernel
theorem dX9_init_5 : decode cX9_init 5 = .ok (.new 9, 3) := by decide +kernel
theorem dX9_init_8 : decode cX9_init 8 = .ok (.dup, 1) := by decide +kernel
theorem dX9_init_9 : decode cX9_init 9 = .ok (.invokespecial 11, 3) := by decide +kernel
theorem dX9_init_12 : decode cX9_init 12 = .ok (.putfield 12, 3) := by decide +kernel
theorem dX9_init_15 : decode cX9_init 15 = .ok (.aload_n 0, 1) := by decide +kernel
theorem dX9_init_16 : decode cX9_init 16 = .ok (.new 18, 3) := by decide +kernel
theorem dX9_init_19 : decode cX9_init 19 = .ok (.dup, 1) := by decide +kernel
theorem dX9_init_20 : decode cX9_init 20 = .ok (.invokespecial 20, 3) := by decide +kernel
theorem dX9_init_23 : decode cX9_init 23 = .ok (.putfield 21, 3) := by decide +kernel
theorem dX9_init_26 : decode cX9_init 26 = .ok (.aload_n 0, 1) := by decide +kernel
theorem dX9_init_27 : decode cX9_init 27 = .ok (.new 18, 3) := by decide +kernel
theorem dX9_init_30 : decode cX9_init 30 = .ok (.dup, 1) := by decide +kernel
theorem dX9_init_31 : decode cX9_init 31 = .ok (.invokespecial 20, 3) := by decide +kernel
theorem dX9_init_34 : decode cX9_init 34 = .ok (.putfield 25, 3) := by decide +kernel
theorem dX9_init_37 : decode cX9_init 37 = .ok (.aload_n 0, 1) := by decide +kernel
theorem dX9_init_38 : decode cX9_init 38 = .ok (.new 18, 3) := by decide +kernel
theorem dX9_init_41 : decode cX9_init 41 = .ok (.dup, 1) := by decide +kernel
theorem dX9_init_42 : decode cX9_init 42 = .ok (.invokespecial 20, 3) := by decide +kernel
theorem dX9_init_45 : decode cX9_init 45 = .ok (.putfield 28, 3) := by decide +kernel
theorem dX9_init_48 : decode cX9_init 48 = .ok (.aload_n 0, 1) := by decide +kernel
theorem dX9_init_49 : decode cX9_init 49 = .ok (.new 31, 3) := by decide +kernel
theorem dX9_init_52 : decode cX9_init 52 = .ok (.dup, 1) := by decide +kernel
theorem dX9_init_53 : decode cX9_init 53 = .ok (.invokespecial 33, 3) := by decide +kernel
theorem dX9_init_56 : decode cX9_init 56 = .ok (.putfield 34, 3) := by decide +kernel
theorem dX9_init_59 : decode cX9_init 59 = .ok (.aload_n 0, 1) := by decide +kernel
theorem dX9_init_60 : decode cX9_init 60 = .ok (.new 38, 3) := by decide +kernel
theorem dX9_init_63 : decode cX9_init 63 = .ok (.dup, 1) := by decide +kernel
theorem dX9_init_64 : decode cX9_init 64 = .ok (.invokespecial 40, 3) := by decide +kernel
theorem dX9_init_67 : decode cX9_init 67 = .ok (.putfield 41, 3) := by decide +kernel
theorem dX9_init_70 : decode cX9_init 70 = .ok (.aload_n 0, 1) := by decide +kernel
theorem dX9_init_71 : decode cX9_init 71 = .ok (.new 38, 3) := by decide +kernel
theorem dX9_init_74 : decode cX9_init 74 = .ok (.dup, 1) := by decide +kernel
theorem dX9_init_75 : decode cX9_init 75 = .ok (.invokespecial 40, 3) := by decide +kernel
theorem dX9_init_78 : decode cX9_init 78 = .ok (.putfield 45, 3) := by decide +kernel
theorem dX9_init_81 : decode cX9_init 81 = .ok (.aload_n 0, 1) := by decide +kernel
theorem dX9_init_82 : decode cX9_init 82 = .ok (.new 48, 3) := by decide +kernel
theorem dX9_init_85 : decode cX9_init 85 = .ok (.dup, 1) := by decide +kernel
theorem dX9_init_86 : decode cX9_init 86 = .ok (.invokespecial 50, 3) := by decide +kernel
theorem dX9_init_89 : decode cX9_init 89 = .ok (.putfield 51, 3) := by decide +kernel
theorem dX9_init_92 : decode cX9_init 92 = .ok (.aload_n 0, 1) := by decide +kernel
theorem dX9_init_93 : decode cX9_init 93 = .ok (.new 55, 3) := by decide +kernel
theorem dX9_init_96 : decode cX9_init 96 = .ok (.dup, 1) := by decide +kernel
