theorem dX7_init_0 : decode cX7_init 0 = .ok (.aload_n 0, 1) := by decide +kernel
theorem dX7_init_1 : decode cX7_init 1 = .ok (.invokespecial 1, 3) := by decide +kernel
theorem dX7_init_4 : decode cX7_init 4 = .ok (.aload_n 0, 1) := by decide +kernel
theorem dX7_init_5 : decode cX7_init 5 = .ok (.sipush 637, 3) := by decide +kernel
theorem dX7_init_8 : decode cX7_init 8 = .ok (.newarray .int, 2) := by decide +kernel
theorem dX7_init_10 : decode cX7_init 10 = .ok (.putfield 7, 3) := by decide +kernel
theorem dX7_init_13 : decode cX7_init 13 = .ok (.aload_n 0, 1) := by decide +kernel
theorem dX7_init_14 : decode cX7_init 14 = .ok (.iconst 2, 1) := by decide +kernel
theorem dX7_init_15 : decode cX7_init 15 = .ok (.newarray .boolean, 2) := by decide +kernel
theorem dX7_init_17 : decode cX7_init 17 = .ok (.putfield 13, 3) := by decide +kernel
theorem dX7_init_20 : decode cX7_init 20 = .ok (.aload_n 0, 1) := by decide +kernel
theorem dX7_init_21 : decode cX7_init 21 = .ok (.bipush 6, 2) := by decide +kernel
theorem dX7_init_23 : decode cX7_init 23 = .ok (.newarray .int, 2) := by decide +kernel
theorem dX7_init_25 : decode cX7_init 25 = .ok (.putfield 17, 3) := by decide +kernel
theorem dX7_init_28 : decode cX7_init 28 = .ok (.aload_n 0, 1) := by decide +kernel
theorem dX7_init_29 : decode cX7_init 29 = .ok (.bipush 110, 2) := by decide +kernel
theorem dX7_init_31 : decode cX7_init 31 = .ok (.newarray .int, 2) := by decide +kernel
theorem dX7_init_33 : decode cX7_init 33 = .ok (.putfield 20, 3) := by decide +kernel
theorem dX7_init_36 : decode cX7_init 36 = .ok (.aload_n 0, 1) := by decide +kernel
theorem dX7_init_37 : decode cX7_init 37 = .ok (.iconst 4, 1) := by decide +kernel
theorem dX7_init_38 : decode cX7_init 38 = .ok (.newarray .int, 2) := by decide +kernel
theorem dX7_init_40 : decode cX7_init 40 = .ok (.putfield 23, 3) := by decide +kernel
theorem dX7_init_43 : decode cX7_init 43 = .ok (.aload_n 0, 1) := by decide +kernel
theorem dX7_init_44 : decode cX7_init 44 = .ok (.bipush 24, 2) := by decide +kernel
theorem dX7_init_46 : decode cX7_init 46 = .ok (.newarray .int, 2) := by decide +kernel
theorem dX7_init_48 : decode cX7_init 48 = .ok (.putfield 26, 3) := by decide +kernel
theorem dX7_init_51 : decode cX7_init 51 = .ok (.aload_n 0, 1) := by decide +kernel
theorem dX7_init_52 : decode cX7_init 52 = .ok (.iconst 4, 1) := by decide +kernel
theorem dX7_init_53 : decode cX7_init 53 = .ok (.newarray .int, 2) := by decide +kernel
theorem dX7_init_55 : decode cX7_init 55 = .ok (.putfield 29, 3) := by decide +kernel
theorem dX7_init_58 : decode cX7_init 58 = .ok (.aload_n 0, 1) := by decide +kernel
theorem dX7_init_59 : decode cX7_init 59 = .ok (.bipush 24, 2) := by decide +kernel
theorem dX7_init_61 : decode cX7_init 61 = .ok (.newarray .int, 2) := by decide +kernel
theorem dX7_init_63 : decode cX7_init 63 = .ok (.putfield 32, 3) := by decide +kernel
theorem dX7_init_66 : decode cX7_init 66 = .ok (.aload_n 0, 1) := by decide +kernel
theorem dX7_init_67 : decode cX7_init 67 = .ok (.bipush 24, 2) := by decide +kernel
theorem dX7_init_69 : decode cX7_init 69 = .ok (.newarray .int, 2) := by decide +kernel
theorem dX7_init_71 : decode cX7_init 71 = .ok (.putfield 35, 3) := by decide +kernel
theorem dX7_init_74 : decode cX7_init 74 = .ok (.aload_n 0, 1) := by decide +kernel
theorem dX7_init_75 : decode cX7_init 75 = .ok (.bipush (-9), 2) := by decide +kernel
theorem dX7_init_77 : decode cX7_init 77 = .ok (.putfield 38, 3) := by decide +kernel
theorem dX7_init_80 : decode cX7_init 80 = .ok (.aload_n 0, 1) := by decide +kernel
theorem dX7_init_81 : decode cX7_init 81 = .ok (.bipush 8, 2) := by decide +kernel
theorem dX7_init_83 : decode cX7_init 83 = .ok (.newarray .int, 2) := by decide +kernel
theorem dX7_init_85 : decode cX7_init 85 = .ok (.putfield 42, 3) := by decide +kernel
theorem dX7_init_88 : decode cX7_init 88 = .ok (.aload_n 0, 1) := by decide +kernel
theorem dX7_init_89 : decode cX7_init 89 = .ok (.bipush 6, 2) := by decide +kernel
theorem dX7_init_91 : decode cX7_init 91 = .ok (.newarray .int, 2) := by decide +kernel
theorem dX7_init_93 : decode cX7_init 93 = .ok (.putfield 45, 3) := by decide +kernel
theorem dX7_init_96 : decode cX7_init 96 = .ok (.aload_n 0, 1) := by decide +kernel
theorem dX7_init_97 : decode cX7_init 97 = .ok (.bipush 6, 2) := by decide +kernel
theorem dX7_init_99 : decode cX7_init 99 = .ok (.newarray .int, 2) := by decide +kernel
theorem dX7_init_101 : decode cX7_init 101 = .ok (.putfield 48, 3) := by decide +kernel
theorem dX7_init_104 : decode cX7_init 104 = .ok (.return_, 1) := by decide +kernel
theorem dX7_in_0 : decode cX7_in 0 = .ok (.lload_n 0, 1) := by decide +kernel
theorem dX7_in_1 : decode cX7_in 1 = .ok (.lload_n 2, 1) := by decide +kernel
theorem dX7_in_2 : decode cX7_in 2 = .ok (.lcmp, 1) := by decide +kernel
theorem dX7_in_3 : decode cX7_in 3 = .ok (.ifCond .lt 14, 3) := by decide +kernel
theorem dX7_in_6 : decode cX7_in 6 = .ok (.lload_n 0, 1) := by decide +kernel
theorem dX7_in_7 : decode cX7_in 7 = .ok (.lload 4, 2) := by decide +kernel
theorem dX7_in_9 : decode cX7_in 9 = .ok (.lcmp, 1) := by decide +kernel
theorem dX7_in_10 : decode cX7_in 10 = .ok (.ifCond .gt 7, 3) := by decide +kernel
theorem dX7_in_13 : decode cX7_in 13 = .ok (.iconst 1, 1) := by decide +kernel
theorem dX7_in_14 : decode cX7_in 14 = .ok (.goto 4, 3) := by decide +kernel
theorem dX7_in_17 : decode cX7_in 17 = .ok (.iconst 0, 1) := by decide +kernel
theorem dX7_in_18 : decode cX7_in 18 = .ok (.ireturn, 1) := by decide +kernel
theorem dX7_has_0 : decode cX7_has 0 = .ok (.iload_n 0, 1) := by decide +kernel
theorem dX7_has_1 : decode cX7_has 1 = .ok (.iload_n 1, 1) := by decide +kernel
theorem dX7_has_2 : decode cX7_has 2 = .ok (.ishr, 1) := by decide +kernel
theorem dX7_has_3 : decode cX7_has 3 = .ok (.iconst 1, 1) := by decide +kernel
theorem dX7_has_4 : decode cX7_has 4 = .ok (.iand, 1) := by decide +kernel
theorem dX7_has_5 : decode cX7_has 5 = .ok (.iconst 1, 1) := by decide +kernel
theorem dX7_has_6 : decode cX7_has 6 = .ok (.if_icmp .ne 7, 3) := by decide +kernel
theorem dX7_has_9 : decode cX7_has 9 = .ok (.iconst 1, 1) := by decide +kernel
theorem dX7_has_10 : decode cX7_has 10 = .ok (.goto 4, 3) := by decide +kernel
theorem dX7_has_13 : decode cX7_has 13 = .ok (.iconst 0, 1) := by decide +kernel
theorem dX7_has_14 : decode cX7_has 14 = .ok (.ireturn, 1) := by decide +kernel
theorem dX7_ones_0 : decode cX7_ones 0 = .ok (.iconst 0, 1) := by decide +kernel
theorem dX7_ones_1 : decode cX7_ones 1 = .ok (.istore_n 1, 1) := by decide +kernel
theorem dX7_ones_2 : decode cX7_ones 2 = .ok (.iconst 0, 1) := by decide +kernel
theorem dX7_ones_3 : decode cX7_ones 3 = .ok (.istore_n 2, 1) := by decide +kernel
theorem dX7_ones_4 : decode cX7_ones 4 = .ok (.iload_n 2, 1) := by decide +kernel
theorem dX7_ones_5 : decode cX7_ones 5 = .ok (.bipush 16, 2) := by decide +kernel
theorem dX7_ones_7 : decode cX7_ones 7 = .ok (.if_icmp .ge 17, 3) := by decide +kernel
theorem dX7_ones_10 : decode cX7_ones 10 = .ok (.iload_n 1, 1) := by decide +kernel
theorem dX7_ones_11 : decode cX7_ones 11 = .ok (.iload_n 0, 1) := by decide +kernel
theorem dX7_ones_12 : decode cX7_ones 12 = .ok (.iload_n 2, 1) := by decide +kernel
theorem dX7_ones_13 : decode cX7_ones 13 = .ok (.ishr, 1) := by decide +kernel
theorem dX7_ones_14 : decode cX7_ones 14 = .ok (.iconst 1, 1) := by decide +kernel
theorem dX7_ones_15 : decode cX7_ones 15 = .ok (.iand, 1) := by decide +kernel
theorem dX7_ones_16 : decode cX7_ones 16 = .ok (.iadd, 1) := by decide +kernel
theorem dX7_ones_17 : decode cX7_ones 17 = .ok (.istore_n 1, 1) := by decide +kernel
theorem dX7_ones_18 : decode cX7_ones 18 = .ok (.iinc 2 1, 3) := by decide +kernel
theorem dX7_ones_21 : decode cX7_ones 21 = .ok (.goto (-17), 3) := by decide +kernel
theorem dX7_ones_24 : decode cX7_ones 24 = .ok (.iload_n 1, 1) := by decide +kernel
theorem dX7_ones_25 : decode cX7_ones 25 = .ok (.ireturn, 1) := by decide +kernel
theorem dX7_copy_0 : decode cX7_copy 0 = .ok (.iconst 0, 1) := by decide +kernel
theorem dX7_copy_1 : decode cX7_copy 1 = .ok (.istore_n 3, 1) := by decide +kernel
theorem dX7_copy_2 : decode cX7_copy 2 = .ok (.iload_n 3, 1) := by decide +kernel
theorem dX7_copy_3 : decode cX7_copy 3 = .ok (.bipush 49, 2) := by decide +kernel
theorem dX7_copy_5 : decode cX7_copy 5 = .ok (.if_icmp .ge 25, 3) := by decide +kernel
theorem dX7_copy_8 : decode cX7_copy 8 = .ok (.aload_n 0, 1) := by decide +kernel
theorem dX7_copy_9 : decode cX7_copy 9 = .ok (.getfield 7, 3) := by decide +kernel
theorem dX7_copy_12 : decode cX7_copy 12 = .ok (.iload_n 2, 1) := by decide +kernel
theorem dX7_copy_13 : decode cX7_copy 13 = .ok (.iload_n 3, 1) := by decide +kernel
theorem dX7_copy_14 : decode cX7_copy 14 = .ok (.iadd, 1) := by decide +kernel
theorem dX7_copy_15 : decode cX7_copy 15 = .ok (.aload_n 0, 1) := by decide +kernel
theorem dX7_copy_16 : decode cX7_copy 16 = .ok (.getfield 7, 3) := by decide +kernel
theorem dX7_copy_19 : decode cX7_copy 19 = .ok (.iload_n 1, 1) := by decide +kernel
theorem dX7_copy_20 : decode cX7_copy 20 = .ok (.iload_n 3, 1) := by decide +kernel
theorem dX7_copy_21 : decode cX7_copy 21 = .ok (.iadd, 1) := by decide +kernel
theorem dX7_copy_22 : decode cX7_copy 22 = .ok (.iaload, 1) := by decide +kernel
theorem dX7_copy_23 : decode cX7_copy 23 = .ok (.iastore, 1) := by decide +kernel
theorem dX7_copy_24 : decode cX7_copy 24 = .ok (.iinc 3 1, 3) := by decide +kernel
theorem dX7_copy_27 : decode cX7_copy 27 = .ok (.goto (-25), 3) := by decide +kernel
theorem dX7_copy_30 : decode cX7_copy 30 = .ok (.return_, 1) := by decide +kernel
theorem dX7_minds_0 : decode cX7_minds 0 = .ok (.aload_n 0, 1) := by decide +kernel
theorem dX7_minds_1 : decode cX7_minds 1 = .ok (.getfield 51, 3) := by decide +kernel
theorem dX7_minds_4 : decode cX7_minds 4 = .ok (.bipush 10, 2) := by decide +kernel
theorem dX7_minds_6 : decode cX7_minds 6 = .ok (.if_icmp .ne 48, 3) := by decide +kernel
theorem dX7_minds_9 : decode cX7_minds 9 = .ok (.iconst 0, 1) := by decide +kernel
theorem dX7_minds_10 : decode cX7_minds 10 = .ok (.istore_n 1, 1) := by decide +kernel
theorem dX7_minds_11 : decode cX7_minds 11 = .ok (.iload_n 1, 1) := by decide +kernel
theorem dX7_minds_12 : decode cX7_minds 12 = .ok (.sipush 441, 3) := by decide +kernel
theorem dX7_minds_15 : decode cX7_minds 15 = .ok (.if_icmp .ge 29, 3) := by decide +kernel
theorem dX7_minds_18 : decode cX7_minds 18 = .ok (.aload_n 0, 1) := by decide +kernel
theorem dX7_minds_19 : decode cX7_minds 19 = .ok (.getfield 7, 3) := by decide +kernel
theorem dX7_minds_22 : decode cX7_minds 22 = .ok (.sipush 147, 3) := by decide +kernel
theorem dX7_minds_25 : decode cX7_minds 25 = .ok (.iload_n 1, 1) := by decide +kernel
theorem dX7_minds_26 : decode cX7_minds 26 = .ok (.iadd, 1) := by decide +kernel
theorem dX7_minds_27 : decode cX7_minds 27 = .ok (.aload_n 0, 1) := by decide +kernel
theorem dX7_minds_28 : decode cX7_minds 28 = .ok (.getfield 7, 3) := by decide +kernel
theorem dX7_minds_31 : decode cX7_minds 31 = .ok (.sipush 196, 3) := by decide +kernel
theorem dX7_minds_34 : decode cX7_minds 34 = .ok (.iload_n 1, 1) := by decide +kernel
theorem dX7_minds_35 : decode cX7_minds 35 = .ok (.iadd, 1) := by decide +kernel
theorem dX7_minds_36 : decode cX7_minds 36 = .ok (.iaload, 1) := by decide +kernel
theorem dX7_minds_37 : decode cX7_minds 37 = .ok (.iastore, 1) := by decide +kernel
theorem dX7_minds_38 : decode cX7_minds 38 = .ok (.iinc 1 1, 3) := by decide +kernel
theorem dX7_minds_41 : decode cX7_minds 41 = .ok (.goto (-30), 3) := by decide +kernel
theorem dX7_minds_44 : decode cX7_minds 44 = .ok (.aload_n 0, 1) := by decide +kernel
theorem dX7_minds_45 : decode cX7_minds 45 = .ok (.dup, 1) := by decide +kernel
theorem dX7_minds_46 : decode cX7_minds 46 = .ok (.getfield 51, 3) := by decide +kernel
theorem dX7_minds_49 : decode cX7_minds 49 = .ok (.iconst 1, 1) := by decide +kernel
theorem dX7_minds_50 : decode cX7_minds 50 = .ok (.isub, 1) := by decide +kernel
theorem dX7_minds_51 : decode cX7_minds 51 = .ok (.putfield 51, 3) := by decide +kernel
theorem dX7_minds_54 : decode cX7_minds 54 = .ok (.aload_n 0, 1) := by decide +kernel
theorem dX7_minds_55 : decode cX7_minds 55 = .ok (.iconst 0, 1) := by decide +kernel
theorem dX7_minds_56 : decode cX7_minds 56 = .ok (.sipush 147, 3) := by decide +kernel
theorem dX7_minds_59 : decode cX7_minds 59 = .ok (.bipush 49, 2) := by decide +kernel
theorem dX7_minds_61 : decode cX7_minds 61 = .ok (.aload_n 0, 1) := by decide +kernel
theorem dX7_minds_62 : decode cX7_minds 62 = .ok (.getfield 51, 3) := by decide +kernel
theorem dX7_minds_65 : decode cX7_minds 65 = .ok (.imul, 1) := by decide +kernel
theorem dX7_minds_66 : decode cX7_minds 66 = .ok (.iadd, 1) := by decide +kernel
theorem dX7_minds_67 : decode cX7_minds 67 = .ok (.invokevirtual 54, 3) := by decide +kernel
theorem dX7_minds_70 : decode cX7_minds 70 = .ok (.aload_n 0, 1) := by decide +kernel
theorem dX7_minds_71 : decode cX7_minds 71 = .ok (.dup, 1) := by decide +kernel
theorem dX7_minds_72 : decode cX7_minds 72 = .ok (.getfield 51, 3) := by decide +kernel
theorem dX7_minds_75 : decode cX7_minds 75 = .ok (.iconst 1, 1) := by decide +kernel
theorem dX7_minds_76 : decode cX7_minds 76 = .ok (.iadd, 1) := by decide +kernel
theorem dX7_minds_77 : decode cX7_minds 77 = .ok (.putfield 51, 3) := by decide +kernel
theorem dX7_minds_80 : decode cX7_minds 80 = .ok (.return_, 1) := by decide +kernel
theorem dX7_isDigit_0 : decode cX7_isDigit 0 = .ok (.iload_n 0, 1) := by decide +kernel
theorem dX7_isDigit_1 : decode cX7_isDigit 1 = .ok (.i2l, 1) := by decide +kernel
theorem dX7_isDigit_2 : decode cX7_isDigit 2 = .ok (.ldc2_w 58, 3) := by decide +kernel
theorem dX7_isDigit_5 : decode cX7_isDigit 5 = .ok (.ldc2_w 60, 3) := by decide +kernel
theorem dX7_isDigit_8 : decode cX7_isDigit 8 = .ok (.invokestatic 62, 3) := by decide +kernel
theorem dX7_isDigit_11 : decode cX7_isDigit 11 = .ok (.ireturn, 1) := by decide +kernel
theorem dX7_take_0 : decode cX7_take 0 = .ok (.aload_n 0, 1) := by decide +kernel
theorem dX7_take_1 : decode cX7_take 1 = .ok (.getfield 66, 3) := by decide +kernel
theorem dX7_take_4 : decode cX7_take 4 = .ok (.aload_n 0, 1) := by decide +kernel
theorem dX7_take_5 : decode cX7_take 5 = .ok (.getfield 69, 3) := by decide +kernel
theorem dX7_take_8 : decode cX7_take 8 = .ok (.if_icmp .ge 30, 3) := by decide +kernel
theorem dX7_take_11 : decode cX7_take 11 = .ok (.aload_n 0, 1) := by decide +kernel
theorem dX7_take_12 : decode cX7_take 12 = .ok (.getfield 20, 3) := by decide +kernel
theorem dX7_take_15 : decode cX7_take 15 = .ok (.aload_n 0, 1) := by decide +kernel
theorem dX7_take_16 : decode cX7_take 16 = .ok (.getfield 66, 3) := by decide +kernel
theorem dX7_take_19 : decode cX7_take 19 = .ok (.iaload, 1) := by decide +kernel
theorem dX7_take_20 : decode cX7_take 20 = .ok (.bipush 32, 2) := by decide +kernel
theorem dX7_take_22 : decode cX7_take 22 = .ok (.if_icmp .ne 16, 3) := by decide +kernel
theorem dX7_take_25 : decode cX7_take 25 = .ok (.aload_n 0, 1) := by decide +kernel
theorem dX7_take_26 : decode cX7_take 26 = .ok (.dup, 1) := by decide +kernel
theorem dX7_take_27 : decode cX7_take 27 = .ok (.getfield 66, 3) := by decide +kernel
theorem dX7_take_30 : decode cX7_take 30 = .ok (.iconst 1, 1) := by decide +kernel
theorem dX7_take_31 : decode cX7_take 31 = .ok (.iadd, 1) := by decide +kernel
theorem dX7_take_32 : decode cX7_take 32 = .ok (.putfield 66, 3) := by decide +kernel
theorem dX7_take_35 : decode cX7_take 35 = .ok (.goto (-35), 3) := by decide +kernel
theorem dX7_take_38 : decode cX7_take 38 = .ok (.aload_n 0, 1) := by decide +kernel
theorem dX7_take_39 : decode cX7_take 39 = .ok (.aload_n 0, 1) := by decide +kernel
theorem dX7_take_40 : decode cX7_take 40 = .ok (.getfield 66, 3) := by decide +kernel
theorem dX7_take_43 : decode cX7_take 43 = .ok (.putfield 72, 3) := by decide +kernel
theorem dX7_take_46 : decode cX7_take 46 = .ok (.aload_n 0, 1) := by decide +kernel
theorem dX7_take_47 : decode cX7_take 47 = .ok (.aload_n 0, 1) := by decide +kernel
theorem dX7_take_48 : decode cX7_take 48 = .ok (.getfield 66, 3) := by decide +kernel
theorem dX7_take_51 : decode cX7_take 51 = .ok (.aload_n 0, 1) := by decide +kernel
theorem dX7_take_52 : decode cX7_take 52 = .ok (.getfield 69, 3) := by decide +kernel
theorem dX7_take_55 : decode cX7_take 55 = .ok (.if_icmp .ge 15, 3) := by decide +kernel
theorem dX7_take_58 : decode cX7_take 58 = .ok (.aload_n 0, 1) := by decide +kernel
theorem dX7_take_59 : decode cX7_take 59 = .ok (.getfield 20, 3) := by decide +kernel
theorem dX7_take_62 : decode cX7_take 62 = .ok (.aload_n 0, 1) := by decide +kernel
theorem dX7_take_63 : decode cX7_take 63 = .ok (.getfield 66, 3) := by decide +kernel
theorem dX7_take_66 : decode cX7_take 66 = .ok (.iaload, 1) := by decide +kernel
theorem dX7_take_67 : decode cX7_take 67 = .ok (.goto 4, 3) := by decide +kernel
theorem dX7_take_70 : decode cX7_take 70 = .ok (.iconst (-1), 1) := by decide +kernel
theorem dX7_take_71 : decode cX7_take 71 = .ok (.putfield 75, 3) := by decide +kernel
theorem dX7_take_74 : decode cX7_take 74 = .ok (.aload_n 0, 1) := by decide +kernel
theorem dX7_take_75 : decode cX7_take 75 = .ok (.dup, 1) := by decide +kernel
theorem dX7_take_76 : decode cX7_take 76 = .ok (.getfield 66, 3) := by decide +kernel
theorem dX7_take_79 : decode cX7_take 79 = .ok (.aload_n 0, 1) := by decide +kernel
theorem dX7_take_80 : decode cX7_take 80 = .ok (.getfield 66, 3) := by decide +kernel
theorem dX7_take_83 : decode cX7_take 83 = .ok (.aload_n 0, 1) := by decide +kernel
theorem dX7_take_84 : decode cX7_take 84 = .ok (.getfield 69, 3) := by decide +kernel
theorem dX7_take_87 : decode cX7_take 87 = .ok (.if_icmp .ge 7, 3) := by decide +kernel
theorem dX7_take_90 : decode cX7_take 90 = .ok (.iconst 1, 1) := by decide +kernel
theorem dX7_take_91 : decode cX7_take 91 = .ok (.goto 4, 3) := by decide +kernel
theorem dX7_take_94 : decode cX7_take 94 = .ok (.iconst 0, 1) := by decide +kernel
theorem dX7_take_95 : decode cX7_take 95 = .ok (.iadd, 1) := by decide +kernel
theorem dX7_take_96 : decode cX7_take 96 = .ok (.putfield 66, 3) := by decide +kernel
theorem dX7_take_99 : decode cX7_take 99 = .ok (.aload_n 0, 1) := by decide +kernel
theorem dX7_take_100 : decode cX7_take 100 = .ok (.getfield 75, 3) := by decide +kernel
theorem dX7_take_103 : decode cX7_take 103 = .ok (.invokestatic 78, 3) := by decide +kernel
theorem dX7_take_106 : decode cX7_take 106 = .ok (.ifCond .eq 100, 3) := by decide +kernel
theorem dX7_take_109 : decode cX7_take 109 = .ok (.aload_n 0, 1) := by decide +kernel
theorem dX7_take_110 : decode cX7_take 110 = .ok (.getfield 75, 3) := by decide +kernel
theorem dX7_take_113 : decode cX7_take 113 = .ok (.bipush 48, 2) := by decide +kernel
theorem dX7_take_115 : decode cX7_take 115 = .ok (.isub, 1) := by decide +kernel
theorem dX7_take_116 : decode cX7_take 116 = .ok (.istore_n 1, 1) := by decide +kernel
theorem dX7_take_117 : decode cX7_take 117 = .ok (.aload_n 0, 1) := by decide +kernel
theorem dX7_take_118 : decode cX7_take 118 = .ok (.getfield 66, 3) := by decide +kernel
theorem dX7_take_121 : decode cX7_take 121 = .ok (.aload_n 0, 1) := by decide +kernel
theorem dX7_take_122 : decode cX7_take 122 = .ok (.getfield 69, 3) := by decide +kernel
theorem dX7_take_125 : decode cX7_take 125 = .ok (.if_icmp .ge 72, 3) := by decide +kernel
theorem dX7_take_128 : decode cX7_take 128 = .ok (.aload_n 0, 1) := by decide +kernel
theorem dX7_take_129 : decode cX7_take 129 = .ok (.getfield 20, 3) := by decide +kernel
theorem dX7_take_132 : decode cX7_take 132 = .ok (.aload_n 0, 1) := by decide +kernel
theorem dX7_take_133 : decode cX7_take 133 = .ok (.getfield 66, 3) := by decide +kernel
theorem dX7_take_136 : decode cX7_take 136 = .ok (.iaload, 1) := by decide +kernel
theorem dX7_take_137 : decode cX7_take 137 = .ok (.invokestatic 78, 3) := by decide +kernel
theorem dX7_take_140 : decode cX7_take 140 = .ok (.ifCond .eq 57, 3) := by decide +kernel
theorem dX7_take_143 : decode cX7_take 143 = .ok (.aload_n 0, 1) := by decide +kernel
theorem dX7_take_144 : decode cX7_take 144 = .ok (.getfield 66, 3) := by decide +kernel
theorem dX7_take_147 : decode cX7_take 147 = .ok (.aload_n 0, 1) := by decide +kernel
theorem dX7_take_148 : decode cX7_take 148 = .ok (.getfield 72, 3) := by decide +kernel
theorem dX7_take_151 : decode cX7_take 151 = .ok (.iconst 1, 1) := by decide +kernel
theorem dX7_take_152 : decode cX7_take 152 = .ok (.iadd, 1) := by decide +kernel
theorem dX7_take_153 : decode cX7_take 153 = .ok (.if_icmp .ne 27, 3) := by decide +kernel
theorem dX7_take_156 : decode cX7_take 156 = .ok (.iload_n 1, 1) := by decide +kernel
theorem dX7_take_157 : decode cX7_take 157 = .ok (.ifCond .le 23, 3) := by decide +kernel
theorem dX7_take_160 : decode cX7_take 160 = .ok (.bipush 10, 2) := by decide +kernel
theorem dX7_take_162 : decode cX7_take 162 = .ok (.iload_n 1, 1) := by decide +kernel
theorem dX7_take_163 : decode cX7_take 163 = .ok (.imul, 1) := by decide +kernel
theorem dX7_take_164 : decode cX7_take 164 = .ok (.aload_n 0, 1) := by decide +kernel
theorem dX7_take_165 : decode cX7_take 165 = .ok (.getfield 20, 3) := by decide +kernel
theorem dX7_take_168 : decode cX7_take 168 = .ok (.aload_n 0, 1) := by decide +kernel
theorem dX7_take_169 : decode cX7_take 169 = .ok (.getfield 66, 3) := by decide +kernel
theorem dX7_take_172 : decode cX7_take 172 = .ok (.iaload, 1) := by decide +kernel
theorem dX7_take_173 : decode cX7_take 173 = .ok (.iadd, 1) := by decide +kernel
theorem dX7_take_174 : decode cX7_take 174 = .ok (.bipush 48, 2) := by decide +kernel
theorem dX7_take_176 : decode cX7_take 176 = .ok (.isub, 1) := by decide +kernel
theorem dX7_take_177 : decode cX7_take 177 = .ok (.goto 6, 3) := by decide +kernel
theorem dX7_take_180 : decode cX7_take 180 = .ok (.sipush 1000, 3) := by decide +kernel
theorem dX7_take_183 : decode cX7_take 183 = .ok (.istore_n 1, 1) := by decide +kernel
theorem dX7_take_184 : decode cX7_take 184 = .ok (.aload_n 0, 1) := by decide +kernel
theorem dX7_take_185 : decode cX7_take 185 = .ok (.dup, 1) := by decide +kernel
theorem dX7_take_186 : decode cX7_take 186 = .ok (.getfield 66, 3) := by decide +kernel
theorem dX7_take_189 : decode cX7_take 189 = .ok (.iconst 1, 1) := by decide +kernel
theorem dX7_take_190 : decode cX7_take 190 = .ok (.iadd, 1) := by decide +kernel
theorem dX7_take_191 : decode cX7_take 191 = .ok (.putfield 66, 3) := by decide +kernel
theorem dX7_take_194 : decode cX7_take 194 = .ok (.goto (-77), 3) := by decide +kernel
theorem dX7_take_197 : decode cX7_take 197 = .ok (.aload_n 0, 1) := by decide +kernel
theorem dX7_take_198 : decode cX7_take 198 = .ok (.sipush 1000, 3) := by decide +kernel
theorem dX7_take_201 : decode cX7_take 201 = .ok (.iload_n 1, 1) := by decide +kernel
theorem dX7_take_202 : decode cX7_take 202 = .ok (.iadd, 1) := by decide +kernel
theorem dX7_take_203 : decode cX7_take 203 = .ok (.putfield 75, 3) := by decide +kernel
theorem dX7_take_206 : decode cX7_take 206 = .ok (.return_, 1) := by decide +kernel
theorem dX7_isNumber_0 : decode cX7_isNumber 0 = .ok (.aload_n 0, 1) := by decide +kernel
theorem dX7_isNumber_1 : decode cX7_isNumber 1 = .ok (.getfield 75, 3) := by decide +kernel
theorem dX7_isNumber_4 : decode cX7_isNumber 4 = .ok (.i2l, 1) := by decide +kernel
theorem dX7_isNumber_5 : decode cX7_isNumber 5 = .ok (.sipush 1000, 3) := by decide +kernel
theorem dX7_isNumber_8 : decode cX7_isNumber 8 = .ok (.iload_n 1, 1) := by decide +kernel
theorem dX7_isNumber_9 : decode cX7_isNumber 9 = .ok (.iadd, 1) := by decide +kernel
theorem dX7_isNumber_10 : decode cX7_isNumber 10 = .ok (.i2l, 1) := by decide +kernel
theorem dX7_isNumber_11 : decode cX7_isNumber 11 = .ok (.sipush 1000, 3) := by decide +kernel
theorem dX7_isNumber_14 : decode cX7_isNumber 14 = .ok (.iload_n 2, 1) := by decide +kernel
theorem dX7_isNumber_15 : decode cX7_isNumber 15 = .ok (.iadd, 1) := by decide +kernel
theorem dX7_isNumber_16 : decode cX7_isNumber 16 = .ok (.i2l, 1) := by decide +kernel
theorem dX7_isNumber_17 : decode cX7_isNumber 17 = .ok (.invokestatic 62, 3) := by decide +kernel
theorem dX7_isNumber_20 : decode cX7_isNumber 20 = .ok (.ireturn, 1) := by decide +kernel
theorem dX7_isEvent_0 : decode cX7_isEvent 0 = .ok (.aload_n 0, 1) := by decide +kernel
theorem dX7_isEvent_1 : decode cX7_isEvent 1 = .ok (.getfield 75, 3) := by decide +kernel
theorem dX7_isEvent_4 : decode cX7_isEvent 4 = .ok (.i2l, 1) := by decide +kernel
theorem dX7_isEvent_5 : decode cX7_isEvent 5 = .ok (.ldc2_w 82, 3) := by decide +kernel
theorem dX7_isEvent_8 : decode cX7_isEvent 8 = .ok (.ldc2_w 84, 3) := by decide +kernel
theorem dX7_isEvent_11 : decode cX7_isEvent 11 = .ok (.invokestatic 62, 3) := by decide +kernel
theorem dX7_isEvent_14 : decode cX7_isEvent 14 = .ok (.ireturn, 1) := by decide +kernel
theorem dX7_readsEnd_0 : decode cX7_readsEnd 0 = .ok (.aload_n 0, 1) := by decide +kernel
theorem dX7_readsEnd_1 : decode cX7_readsEnd 1 = .ok (.getfield 75, 3) := by decide +kernel
theorem dX7_readsEnd_4 : decode cX7_readsEnd 4 = .ok (.bipush 59, 2) := by decide +kernel
theorem dX7_readsEnd_6 : decode cX7_readsEnd 6 = .ok (.if_icmp .ne 7, 3) := by decide +kernel
theorem dX7_readsEnd_9 : decode cX7_readsEnd 9 = .ok (.iconst 1, 1) := by decide +kernel
theorem dX7_readsEnd_10 : decode cX7_readsEnd 10 = .ok (.goto 4, 3) := by decide +kernel
theorem dX7_readsEnd_13 : decode cX7_readsEnd 13 = .ok (.iconst 0, 1) := by decide +kernel
theorem dX7_readsEnd_14 : decode cX7_readsEnd 14 = .ok (.istore_n 1, 1) := by decide +kernel
theorem dX7_readsEnd_15 : decode cX7_readsEnd 15 = .ok (.iload_n 1, 1) := by decide +kernel
theorem dX7_readsEnd_16 : decode cX7_readsEnd 16 = .ok (.ifCond .eq 7, 3) := by decide +kernel
theorem dX7_readsEnd_19 : decode cX7_readsEnd 19 = .ok (.aload_n 0, 1) := by decide +kernel
theorem dX7_readsEnd_20 : decode cX7_readsEnd 20 = .ok (.invokevirtual 86, 3) := by decide +kernel
theorem dX7_readsEnd_23 : decode cX7_readsEnd 23 = .ok (.iload_n 1, 1) := by decide +kernel
theorem dX7_readsEnd_24 : decode cX7_readsEnd 24 = .ok (.ireturn, 1) := by decide +kernel
theorem dX7_readsSlack_0 : decode cX7_readsSlack 0 = .ok (.aload_n 0, 1) := by decide +kernel
theorem dX7_readsSlack_1 : decode cX7_readsSlack 1 = .ok (.getfield 89, 3) := by decide +kernel
theorem dX7_readsSlack_4 : decode cX7_readsSlack 4 = .ok (.bipush (-9), 2) := by decide +kernel
theorem dX7_readsSlack_6 : decode cX7_readsSlack 6 = .ok (.if_icmp .eq 5, 3) := by decide +kernel
theorem dX7_readsSlack_9 : decode cX7_readsSlack 9 = .ok (.iconst 0, 1) := by decide +kernel
theorem dX7_readsSlack_10 : decode cX7_readsSlack 10 = .ok (.ireturn, 1) := by decide +kernel
theorem dX7_readsSlack_11 : decode cX7_readsSlack 11 = .ok (.aload_n 0, 1) := by decide +kernel
theorem dX7_readsSlack_12 : decode cX7_readsSlack 12 = .ok (.invokevirtual 86, 3) := by decide +kernel
theorem dX7_readsSlack_15 : decode cX7_readsSlack 15 = .ok (.aload_n 0, 1) := by decide +kernel
theorem dX7_readsSlack_16 : decode cX7_readsSlack 16 = .ok (.iconst 0, 1) := by decide +kernel
theorem dX7_readsSlack_17 : decode cX7_readsSlack 17 = .ok (.bipush 9, 2) := by decide +kernel
theorem dX7_readsSlack_19 : decode cX7_readsSlack 19 = .ok (.invokevirtual 92, 3) := by decide +kernel
theorem dX7_readsSlack_22 : decode cX7_readsSlack 22 = .ok (.ifCond .ne 5, 3) := by decide +kernel
theorem dX7_readsSlack_25 : decode cX7_readsSlack 25 = .ok (.iconst 0, 1) := by decide +kernel
theorem dX7_readsSlack_26 : decode cX7_readsSlack 26 = .ok (.ireturn, 1) := by decide +kernel
theorem dX7_readsSlack_27 : decode cX7_readsSlack 27 = .ok (.aload_n 0, 1) := by decide +kernel
theorem dX7_readsSlack_28 : decode cX7_readsSlack 28 = .ok (.aload_n 0, 1) := by decide +kernel
theorem dX7_readsSlack_29 : decode cX7_readsSlack 29 = .ok (.getfield 75, 3) := by decide +kernel
theorem dX7_readsSlack_32 : decode cX7_readsSlack 32 = .ok (.sipush 1000, 3) := by decide +kernel
theorem dX7_readsSlack_35 : decode cX7_readsSlack 35 = .ok (.isub, 1) := by decide +kernel
theorem dX7_readsSlack_36 : decode cX7_readsSlack 36 = .ok (.putfield 89, 3) := by decide +kernel
theorem dX7_readsSlack_39 : decode cX7_readsSlack 39 = .ok (.aload_n 0, 1) := by decide +kernel
theorem dX7_readsSlack_40 : decode cX7_readsSlack 40 = .ok (.invokevirtual 86, 3) := by decide +kernel
theorem dX7_readsSlack_43 : decode cX7_readsSlack 43 = .ok (.aload_n 0, 1) := by decide +kernel
theorem dX7_readsSlack_44 : decode cX7_readsSlack 44 = .ok (.invokevirtual 96, 3) := by decide +kernel
theorem dX7_readsSlack_47 : decode cX7_readsSlack 47 = .ok (.ireturn, 1) := by decide +kernel
theorem dX7_readsHouse_0 : decode cX7_readsHouse 0 = .ok (.aload_n 0, 1) := by decide +kernel
theorem dX7_readsHouse_1 : decode cX7_readsHouse 1 = .ok (.getfield 100, 3) := by decide +kernel
theorem dX7_readsHouse_4 : decode cX7_readsHouse 4 = .ok (.iconst 4, 1) := by decide +kernel
theorem dX7_readsHouse_5 : decode cX7_readsHouse 5 = .ok (.if_icmp .ne 5, 3) := by decide +kernel
theorem dX7_readsHouse_8 : decode cX7_readsHouse 8 = .ok (.iconst 0, 1) := by decide +kernel
theorem dX7_readsHouse_9 : decode cX7_readsHouse 9 = .ok (.ireturn, 1) := by decide +kernel
theorem dX7_readsHouse_10 : decode cX7_readsHouse 10 = .ok (.aload_n 0, 1) := by decide +kernel
theorem dX7_readsHouse_11 : decode cX7_readsHouse 11 = .ok (.invokevirtual 86, 3) := by decide +kernel
theorem dX7_readsHouse_14 : decode cX7_readsHouse 14 = .ok (.bipush 6, 2) := by decide +kernel
theorem dX7_readsHouse_16 : decode cX7_readsHouse 16 = .ok (.aload_n 0, 1) := by decide +kernel
theorem dX7_readsHouse_17 : decode cX7_readsHouse 17 = .ok (.getfield 100, 3) := by decide +kernel
theorem dX7_readsHouse_20 : decode cX7_readsHouse 20 = .ok (.imul, 1) := by decide +kernel
theorem dX7_readsHouse_21 : decode cX7_readsHouse 21 = .ok (.istore_n 1, 1) := by decide +kernel
theorem dX7_readsHouse_22 : decode cX7_readsHouse 22 = .ok (.iconst 0, 1) := by decide +kernel
theorem dX7_readsHouse_23 : decode cX7_readsHouse 23 = .ok (.istore_n 2, 1) := by decide +kernel
theorem dX7_readsHouse_24 : decode cX7_readsHouse 24 = .ok (.aload_n 0, 1) := by decide +kernel
theorem dX7_readsHouse_25 : decode cX7_readsHouse 25 = .ok (.invokevirtual 103, 3) := by decide +kernel
theorem dX7_readsHouse_28 : decode cX7_readsHouse 28 = .ok (.ifCond .eq 139, 3) := by decide +kernel
theorem dX7_readsHouse_31 : decode cX7_readsHouse 31 = .ok (.iload_n 2, 1) := by decide +kernel
theorem dX7_readsHouse_32 : decode cX7_readsHouse 32 = .ok (.bipush 6, 2) := by decide +kernel
theorem dX7_readsHouse_34 : decode cX7_readsHouse 34 = .ok (.if_icmp .ge 7, 3) := by decide +kernel
theorem dX7_readsHouse_37 : decode cX7_readsHouse 37 = .ok (.iconst 1, 1) := by decide +kernel
theorem dX7_readsHouse_38 : decode cX7_readsHouse 38 = .ok (.goto 4, 3) := by decide +kernel
theorem dX7_readsHouse_41 : decode cX7_readsHouse 41 = .ok (.iconst 0, 1) := by decide +kernel
theorem dX7_readsHouse_42 : decode cX7_readsHouse 42 = .ok (.istore_n 3, 1) := by decide +kernel
theorem dX7_readsHouse_43 : decode cX7_readsHouse 43 = .ok (.iconst 0, 1) := by decide +kernel
theorem dX7_readsHouse_44 : decode cX7_readsHouse 44 = .ok (.istore 4, 2) := by decide +kernel
theorem dX7_readsHouse_46 : decode cX7_readsHouse 46 = .ok (.iload 4, 2) := by decide +kernel
theorem dX7_readsHouse_48 : decode cX7_readsHouse 48 = .ok (.iload_n 2, 1) := by decide +kernel
theorem dX7_readsHouse_49 : decode cX7_readsHouse 49 = .ok (.if_icmp .ge 38, 3) := by decide +kernel
theorem dX7_readsHouse_52 : decode cX7_readsHouse 52 = .ok (.iload_n 3, 1) := by decide +kernel
theorem dX7_readsHouse_53 : decode cX7_readsHouse 53 = .ok (.ifCond .eq 26, 3) := by decide +kernel
theorem dX7_readsHouse_56 : decode cX7_readsHouse 56 = .ok (.aload_n 0, 1) := by decide +kernel
theorem dX7_readsHouse_57 : decode cX7_readsHouse 57 = .ok (.getfield 32, 3) := by decide +kernel
theorem dX7_readsHouse_60 : decode cX7_readsHouse 60 = .ok (.iload_n 1, 1) := by decide +kernel
theorem dX7_readsHouse_61 : decode cX7_readsHouse 61 = .ok (.iload 4, 2) := by decide +kernel
theorem dX7_readsHouse_63 : decode cX7_readsHouse 63 = .ok (.iadd, 1) := by decide +kernel
theorem dX7_readsHouse_64 : decode cX7_readsHouse 64 = .ok (.iaload, 1) := by decide +kernel
theorem dX7_readsHouse_65 : decode cX7_readsHouse 65 = .ok (.aload_n 0, 1) := by decide +kernel
theorem dX7_readsHouse_66 : decode cX7_readsHouse 66 = .ok (.getfield 75, 3) := by decide +kernel
theorem dX7_readsHouse_69 : decode cX7_readsHouse 69 = .ok (.bipush 97, 2) := by decide +kernel
theorem dX7_readsHouse_71 : decode cX7_readsHouse 71 = .ok (.isub, 1) := by decide +kernel
theorem dX7_readsHouse_72 : decode cX7_readsHouse 72 = .ok (.if_icmp .eq 7, 3) := by decide +kernel
theorem dX7_readsHouse_75 : decode cX7_readsHouse 75 = .ok (.iconst 1, 1) := by decide +kernel
theorem dX7_readsHouse_76 : decode cX7_readsHouse 76 = .ok (.goto 4, 3) := by decide +kernel
theorem dX7_readsHouse_79 : decode cX7_readsHouse 79 = .ok (.iconst 0, 1) := by decide +kernel
theorem dX7_readsHouse_80 : decode cX7_readsHouse 80 = .ok (.istore_n 3, 1) := by decide +kernel
theorem dX7_readsHouse_81 : decode cX7_readsHouse 81 = .ok (.iinc 4 1, 3) := by decide +kernel
theorem dX7_readsHouse_84 : decode cX7_readsHouse 84 = .ok (.goto (-38), 3) := by decide +kernel
theorem dX7_readsHouse_87 : decode cX7_readsHouse 87 = .ok (.iload_n 3, 1) := by decide +kernel
theorem dX7_readsHouse_88 : decode cX7_readsHouse 88 = .ok (.ifCond .ne 5, 3) := by decide +kernel
theorem dX7_readsHouse_91 : decode cX7_readsHouse 91 = .ok (.iconst 0, 1) := by decide +kernel
theorem dX7_readsHouse_92 : decode cX7_readsHouse 92 = .ok (.ireturn, 1) := by decide +kernel
theorem dX7_readsHouse_93 : decode cX7_readsHouse 93 = .ok (.aload_n 0, 1) := by decide +kernel
theorem dX7_readsHouse_94 : decode cX7_readsHouse 94 = .ok (.getfield 32, 3) := by decide +kernel
theorem dX7_readsHouse_97 : decode cX7_readsHouse 97 = .ok (.iload_n 1, 1) := by decide +kernel
theorem dX7_readsHouse_98 : decode cX7_readsHouse 98 = .ok (.iload_n 2, 1) := by decide +kernel
theorem dX7_readsHouse_99 : decode cX7_readsHouse 99 = .ok (.iadd, 1) := by decide +kernel
theorem dX7_readsHouse_100 : decode cX7_readsHouse 100 = .ok (.aload_n 0, 1) := by decide +kernel
theorem dX7_readsHouse_101 : decode cX7_readsHouse 101 = .ok (.getfield 75, 3) := by decide +kernel
theorem dX7_readsHouse_104 : decode cX7_readsHouse 104 = .ok (.bipush 97, 2) := by decide +kernel
theorem dX7_readsHouse_106 : decode cX7_readsHouse 106 = .ok (.isub, 1) := by decide +kernel
theorem dX7_readsHouse_107 : decode cX7_readsHouse 107 = .ok (.iastore, 1) := by decide +kernel
theorem dX7_readsHouse_108 : decode cX7_readsHouse 108 = .ok (.aload_n 0, 1) := by decide +kernel
theorem dX7_readsHouse_109 : decode cX7_readsHouse 109 = .ok (.invokevirtual 86, 3) := by decide +kernel
theorem dX7_readsHouse_112 : decode cX7_readsHouse 112 = .ok (.aload_n 0, 1) := by decide +kernel
theorem dX7_readsHouse_113 : decode cX7_readsHouse 113 = .ok (.iload_n 2, 1) := by decide +kernel
theorem dX7_readsHouse_114 : decode cX7_readsHouse 114 = .ok (.ifCond .ne 7, 3) := by decide +kernel
theorem dX7_readsHouse_117 : decode cX7_readsHouse 117 = .ok (.iconst 0, 1) := by decide +kernel
theorem dX7_readsHouse_118 : decode cX7_readsHouse 118 = .ok (.goto 13, 3) := by decide +kernel
theorem dX7_readsHouse_121 : decode cX7_readsHouse 121 = .ok (.aload_n 0, 1) := by decide +kernel
theorem dX7_readsHouse_122 : decode cX7_readsHouse 122 = .ok (.getfield 35, 3) := by decide +kernel
theorem dX7_readsHouse_125 : decode cX7_readsHouse 125 = .ok (.iload_n 1, 1) := by decide +kernel
theorem dX7_readsHouse_126 : decode cX7_readsHouse 126 = .ok (.iload_n 2, 1) := by decide +kernel
theorem dX7_readsHouse_127 : decode cX7_readsHouse 127 = .ok (.iadd, 1) := by decide +kernel
theorem dX7_readsHouse_128 : decode cX7_readsHouse 128 = .ok (.iconst 1, 1) := by decide +kernel
theorem dX7_readsHouse_129 : decode cX7_readsHouse 129 = .ok (.isub, 1) := by decide +kernel
theorem dX7_readsHouse_130 : decode cX7_readsHouse 130 = .ok (.iaload, 1) := by decide +kernel
theorem dX7_readsHouse_131 : decode cX7_readsHouse 131 = .ok (.bipush 99, 2) := by decide +kernel
theorem dX7_readsHouse_133 : decode cX7_readsHouse 133 = .ok (.invokevirtual 92, 3) := by decide +kernel
theorem dX7_readsHouse_136 : decode cX7_readsHouse 136 = .ok (.ifCond .ne 5, 3) := by decide +kernel
theorem dX7_readsHouse_139 : decode cX7_readsHouse 139 = .ok (.iconst 0, 1) := by decide +kernel
theorem dX7_readsHouse_140 : decode cX7_readsHouse 140 = .ok (.ireturn, 1) := by decide +kernel
theorem dX7_readsHouse_141 : decode cX7_readsHouse 141 = .ok (.aload_n 0, 1) := by decide +kernel
theorem dX7_readsHouse_142 : decode cX7_readsHouse 142 = .ok (.getfield 35, 3) := by decide +kernel
theorem dX7_readsHouse_145 : decode cX7_readsHouse 145 = .ok (.iload_n 1, 1) := by decide +kernel
theorem dX7_readsHouse_146 : decode cX7_readsHouse 146 = .ok (.iload_n 2, 1) := by decide +kernel
theorem dX7_readsHouse_147 : decode cX7_readsHouse 147 = .ok (.iadd, 1) := by decide +kernel
theorem dX7_readsHouse_148 : decode cX7_readsHouse 148 = .ok (.aload_n 0, 1) := by decide +kernel
theorem dX7_readsHouse_149 : decode cX7_readsHouse 149 = .ok (.getfield 75, 3) := by decide +kernel
theorem dX7_readsHouse_152 : decode cX7_readsHouse 152 = .ok (.sipush 1000, 3) := by decide +kernel
theorem dX7_readsHouse_155 : decode cX7_readsHouse 155 = .ok (.isub, 1) := by decide +kernel
theorem dX7_readsHouse_156 : decode cX7_readsHouse 156 = .ok (.iastore, 1) := by decide +kernel
theorem dX7_readsHouse_157 : decode cX7_readsHouse 157 = .ok (.iinc 2 1, 3) := by decide +kernel
theorem dX7_readsHouse_160 : decode cX7_readsHouse 160 = .ok (.aload_n 0, 1) := by decide +kernel
theorem dX7_readsHouse_161 : decode cX7_readsHouse 161 = .ok (.invokevirtual 86, 3) := by decide +kernel
theorem dX7_readsHouse_164 : decode cX7_readsHouse 164 = .ok (.goto (-140), 3) := by decide +kernel
theorem dX7_readsHouse_167 : decode cX7_readsHouse 167 = .ok (.aload_n 0, 1) := by decide +kernel
theorem dX7_readsHouse_168 : decode cX7_readsHouse 168 = .ok (.getfield 29, 3) := by decide +kernel
theorem dX7_readsHouse_171 : decode cX7_readsHouse 171 = .ok (.aload_n 0, 1) := by decide +kernel
theorem dX7_readsHouse_172 : decode cX7_readsHouse 172 = .ok (.getfield 100, 3) := by decide +kernel
theorem dX7_readsHouse_175 : decode cX7_readsHouse 175 = .ok (.iload_n 2, 1) := by decide +kernel
theorem dX7_readsHouse_176 : decode cX7_readsHouse 176 = .ok (.iastore, 1) := by decide +kernel
theorem dX7_readsHouse_177 : decode cX7_readsHouse 177 = .ok (.aload_n 0, 1) := by decide +kernel
theorem dX7_readsHouse_178 : decode cX7_readsHouse 178 = .ok (.dup, 1) := by decide +kernel
theorem dX7_readsHouse_179 : decode cX7_readsHouse 179 = .ok (.getfield 100, 3) := by decide +kernel
theorem dX7_readsHouse_182 : decode cX7_readsHouse 182 = .ok (.iconst 1, 1) := by decide +kernel
theorem dX7_readsHouse_183 : decode cX7_readsHouse 183 = .ok (.iadd, 1) := by decide +kernel
theorem dX7_readsHouse_184 : decode cX7_readsHouse 184 = .ok (.putfield 100, 3) := by decide +kernel
theorem dX7_readsHouse_187 : decode cX7_readsHouse 187 = .ok (.aload_n 0, 1) := by decide +kernel
theorem dX7_readsHouse_188 : decode cX7_readsHouse 188 = .ok (.invokevirtual 96, 3) := by decide +kernel
theorem dX7_readsHouse_191 : decode cX7_readsHouse 191 = .ok (.ireturn, 1) := by decide +kernel
theorem dX7_reads_0 : decode cX7_reads 0 = .ok (.aload_n 0, 1) := by decide +kernel
theorem dX7_reads_1 : decode cX7_reads 1 = .ok (.iconst 0, 1) := by decide +kernel
theorem dX7_reads_2 : decode cX7_reads 2 = .ok (.putfield 66, 3) := by decide +kernel
theorem dX7_reads_5 : decode cX7_reads 5 = .ok (.aload_n 0, 1) := by decide +kernel
theorem dX7_reads_6 : decode cX7_reads 6 = .ok (.iconst 0, 1) := by decide +kernel
theorem dX7_reads_7 : decode cX7_reads 7 = .ok (.putfield 106, 3) := by decide +kernel
theorem dX7_reads_10 : decode cX7_reads 10 = .ok (.aload_n 0, 1) := by decide +kernel
theorem dX7_reads_11 : decode cX7_reads 11 = .ok (.bipush (-9), 2) := by decide +kernel
theorem dX7_reads_13 : decode cX7_reads 13 = .ok (.putfield 89, 3) := by decide +kernel
theorem dX7_reads_16 : decode cX7_reads 16 = .ok (.aload_n 0, 1) := by decide +kernel
theorem dX7_reads_17 : decode cX7_reads 17 = .ok (.iconst 0, 1) := by decide +kernel
theorem dX7_reads_18 : decode cX7_reads 18 = .ok (.putfield 100, 3) := by decide +kernel
theorem dX7_reads_21 : decode cX7_reads 21 = .ok (.aload_n 0, 1) := by decide +kernel
theorem dX7_reads_22 : decode cX7_reads 22 = .ok (.invokevirtual 86, 3) := by decide +kernel
theorem dX7_reads_25 : decode cX7_reads 25 = .ok (.aload_n 0, 1) := by decide +kernel
theorem dX7_reads_26 : decode cX7_reads 26 = .ok (.getfield 75, 3) := by decide +kernel
theorem dX7_reads_29 : decode cX7_reads 29 = .ok (.iconst (-1), 1) := by decide +kernel
theorem dX7_reads_30 : decode cX7_reads 30 = .ok (.if_icmp .eq 60, 3) := by decide +kernel
theorem dX7_reads_33 : decode cX7_reads 33 = .ok (.aload_n 0, 1) := by decide +kernel
theorem dX7_reads_34 : decode cX7_reads 34 = .ok (.getfield 75, 3) := by decide +kernel
theorem dX7_reads_37 : decode cX7_reads 37 = .ok (.bipush 115, 2) := by decide +kernel
theorem dX7_reads_39 : decode cX7_reads 39 = .ok (.if_icmp .ne 10, 3) := by decide +kernel
theorem dX7_reads_42 : decode cX7_reads 42 = .ok (.aload_n 0, 1) := by decide +kernel
theorem dX7_reads_43 : decode cX7_reads 43 = .ok (.invokevirtual 109, 3) := by decide +kernel
theorem dX7_reads_46 : decode cX7_reads 46 = .ok (.goto 24, 3) := by decide +kernel
theorem dX7_reads_49 : decode cX7_reads 49 = .ok (.aload_n 0, 1) := by decide +kernel
theorem dX7_reads_50 : decode cX7_reads 50 = .ok (.getfield 75, 3) := by decide +kernel
theorem dX7_reads_53 : decode cX7_reads 53 = .ok (.bipush 113, 2) := by decide +kernel
theorem dX7_reads_55 : decode cX7_reads 55 = .ok (.if_icmp .ne 14, 3) := by decide +kernel
theorem dX7_reads_58 : decode cX7_reads 58 = .ok (.aload_n 0, 1) := by decide +kernel
theorem dX7_reads_59 : decode cX7_reads 59 = .ok (.invokevirtual 112, 3) := by decide +kernel
theorem dX7_reads_62 : decode cX7_reads 62 = .ok (.ifCond .eq 7, 3) := by decide +kernel
theorem dX7_reads_65 : decode cX7_reads 65 = .ok (.iconst 1, 1) := by decide +kernel
theorem dX7_reads_66 : decode cX7_reads 66 = .ok (.goto 4, 3) := by decide +kernel
theorem dX7_reads_69 : decode cX7_reads 69 = .ok (.iconst 0, 1) := by decide +kernel
theorem dX7_reads_70 : decode cX7_reads 70 = .ok (.istore_n 1, 1) := by decide +kernel
theorem dX7_reads_71 : decode cX7_reads 71 = .ok (.iload_n 1, 1) := by decide +kernel
theorem dX7_reads_72 : decode cX7_reads 72 = .ok (.ifCond .ne 5, 3) := by decide +kernel
theorem dX7_reads_75 : decode cX7_reads 75 = .ok (.iconst 0, 1) := by decide +kernel
theorem dX7_reads_76 : decode cX7_reads 76 = .ok (.ireturn, 1) := by decide +kernel
theorem dX7_reads_77 : decode cX7_reads 77 = .ok (.aload_n 0, 1) := by decide +kernel
theorem dX7_reads_78 : decode cX7_reads 78 = .ok (.dup, 1) := by decide +kernel
theorem dX7_reads_79 : decode cX7_reads 79 = .ok (.getfield 106, 3) := by decide +kernel
theorem dX7_reads_82 : decode cX7_reads 82 = .ok (.iconst 1, 1) := by decide +kernel
theorem dX7_reads_83 : decode cX7_reads 83 = .ok (.iadd, 1) := by decide +kernel
theorem dX7_reads_84 : decode cX7_reads 84 = .ok (.putfield 106, 3) := by decide +kernel
theorem dX7_reads_87 : decode cX7_reads 87 = .ok (.goto (-62), 3) := by decide +kernel
theorem dX7_reads_90 : decode cX7_reads 90 = .ok (.iconst 1, 1) := by decide +kernel
theorem dX7_reads_91 : decode cX7_reads 91 = .ok (.ireturn, 1) := by decide +kernel
theorem dX7_type_0 : decode cX7_type 0 = .ok (.iload_n 1, 1) := by decide +kernel
theorem dX7_type_1 : decode cX7_type 1 = .ok (.i2l, 1) := by decide +kernel
theorem dX7_type_2 : decode cX7_type 2 = .ok (.lconst 0, 1) := by decide +kernel
theorem dX7_type_3 : decode cX7_type 3 = .ok (.ldc2_w 115, 3) := by decide +kernel
theorem dX7_type_6 : decode cX7_type 6 = .ok (.invokestatic 62, 3) := by decide +kernel
theorem dX7_type_9 : decode cX7_type 9 = .ok (.ifCond .ne 5, 3) := by decide +kernel
theorem dX7_type_12 : decode cX7_type 12 = .ok (.iconst (-1), 1) := by decide +kernel
theorem dX7_type_13 : decode cX7_type 13 = .ok (.ireturn, 1) := by decide +kernel
theorem dX7_type_14 : decode cX7_type 14 = .ok (.aload_n 0, 1) := by decide +kernel
theorem dX7_type_15 : decode cX7_type 15 = .ok (.getfield 69, 3) := by decide +kernel
theorem dX7_type_18 : decode cX7_type 18 = .ok (.bipush 110, 2) := by decide +kernel
theorem dX7_type_20 : decode cX7_type 20 = .ok (.if_icmp .ne 6, 3) := by decide +kernel
theorem dX7_type_23 : decode cX7_type 23 = .ok (.bipush (-3), 2) := by decide +kernel
theorem dX7_type_25 : decode cX7_type 25 = .ok (.ireturn, 1) := by decide +kernel
theorem dX7_type_26 : decode cX7_type 26 = .ok (.aload_n 0, 1) := by decide +kernel
theorem dX7_type_27 : decode cX7_type 27 = .ok (.getfield 20, 3) := by decide +kernel
theorem dX7_type_30 : decode cX7_type 30 = .ok (.aload_n 0, 1) := by decide +kernel
theorem dX7_type_31 : decode cX7_type 31 = .ok (.getfield 69, 3) := by decide +kernel
theorem dX7_type_34 : decode cX7_type 34 = .ok (.iload_n 1, 1) := by decide +kernel
theorem dX7_type_35 : decode cX7_type 35 = .ok (.iastore, 1) := by decide +kernel
theorem dX7_type_36 : decode cX7_type 36 = .ok (.aload_n 0, 1) := by decide +kernel
theorem dX7_type_37 : decode cX7_type 37 = .ok (.dup, 1) := by decide +kernel
theorem dX7_type_38 : decode cX7_type 38 = .ok (.getfield 69, 3) := by decide +kernel
theorem dX7_type_41 : decode cX7_type 41 = .ok (.iconst 1, 1) := by decide +kernel
theorem dX7_type_42 : decode cX7_type 42 = .ok (.iadd, 1) := by decide +kernel
theorem dX7_type_43 : decode cX7_type 43 = .ok (.putfield 69, 3) := by decide +kernel
theorem dX7_type_46 : decode cX7_type 46 = .ok (.aload_n 0, 1) := by decide +kernel
theorem dX7_type_47 : decode cX7_type 47 = .ok (.getfield 69, 3) := by decide +kernel
theorem dX7_type_50 : decode cX7_type 50 = .ok (.ireturn, 1) := by decide +kernel
theorem dX7_clear_0 : decode cX7_clear 0 = .ok (.aload_n 0, 1) := by decide +kernel
theorem dX7_clear_1 : decode cX7_clear 1 = .ok (.getfield 69, 3) := by decide +kernel
theorem dX7_clear_4 : decode cX7_clear 4 = .ok (.istore_n 1, 1) := by decide +kernel
theorem dX7_clear_5 : decode cX7_clear 5 = .ok (.aload_n 0, 1) := by decide +kernel
theorem dX7_clear_6 : decode cX7_clear 6 = .ok (.iconst 0, 1) := by decide +kernel
theorem dX7_clear_7 : decode cX7_clear 7 = .ok (.putfield 69, 3) := by decide +kernel
theorem dX7_clear_10 : decode cX7_clear 10 = .ok (.iload_n 1, 1) := by decide +kernel
theorem dX7_clear_11 : decode cX7_clear 11 = .ok (.ireturn, 1) := by decide +kernel
theorem dX7_houses_0 : decode cX7_houses 0 = .ok (.aload_n 0, 1) := by decide +kernel
theorem dX7_houses_1 : decode cX7_houses 1 = .ok (.invokevirtual 117, 3) := by decide +kernel
theorem dX7_houses_4 : decode cX7_houses 4 = .ok (.ifCond .ne 11, 3) := by decide +kernel
theorem dX7_houses_7 : decode cX7_houses 7 = .ok (.bipush (-10), 2) := by decide +kernel
theorem dX7_houses_9 : decode cX7_houses 9 = .ok (.aload_n 0, 1) := by decide +kernel
theorem dX7_houses_10 : decode cX7_houses 10 = .ok (.getfield 72, 3) := by decide +kernel
theorem dX7_houses_13 : decode cX7_houses 13 = .ok (.isub, 1) := by decide +kernel
theorem dX7_houses_14 : decode cX7_houses 14 = .ok (.ireturn, 1) := by decide +kernel
theorem dX7_houses_15 : decode cX7_houses 15 = .ok (.aload_n 0, 1) := by decide +kernel
theorem dX7_houses_16 : decode cX7_houses 16 = .ok (.aload_n 0, 1) := by decide +kernel
theorem dX7_houses_17 : decode cX7_houses 17 = .ok (.getfield 100, 3) := by decide +kernel
theorem dX7_houses_20 : decode cX7_houses 20 = .ok (.putfield 120, 3) := by decide +kernel
theorem dX7_houses_23 : decode cX7_houses 23 = .ok (.iconst 0, 1) := by decide +kernel
theorem dX7_houses_24 : decode cX7_houses 24 = .ok (.istore_n 1, 1) := by decide +kernel
theorem dX7_houses_25 : decode cX7_houses 25 = .ok (.iload_n 1, 1) := by decide +kernel
theorem dX7_houses_26 : decode cX7_houses 26 = .ok (.aload_n 0, 1) := by decide +kernel
theorem dX7_houses_27 : decode cX7_houses 27 = .ok (.getfield 120, 3) := by decide +kernel
theorem dX7_houses_30 : decode cX7_houses 30 = .ok (.if_icmp .ge 21, 3) := by decide +kernel
theorem dX7_houses_33 : decode cX7_houses 33 = .ok (.aload_n 0, 1) := by decide +kernel
theorem dX7_houses_34 : decode cX7_houses 34 = .ok (.getfield 23, 3) := by decide +kernel
theorem dX7_houses_37 : decode cX7_houses 37 = .ok (.iload_n 1, 1) := by decide +kernel
theorem dX7_houses_38 : decode cX7_houses 38 = .ok (.aload_n 0, 1) := by decide +kernel
theorem dX7_houses_39 : decode cX7_houses 39 = .ok (.getfield 29, 3) := by decide +kernel
theorem dX7_houses_42 : decode cX7_houses 42 = .ok (.iload_n 1, 1) := by decide +kernel
theorem dX7_houses_43 : decode cX7_houses 43 = .ok (.iaload, 1) := by decide +kernel
theorem dX7_houses_44 : decode cX7_houses 44 = .ok (.iastore, 1) := by decide +kernel
theorem dX7_houses_45 : decode cX7_houses 45 = .ok (.iinc 1 1, 3) := by decide +kernel
theorem dX7_houses_48 : decode cX7_houses 48 = .ok (.goto (-23), 3) := by decide +kernel
theorem dX7_houses_51 : decode cX7_houses 51 = .ok (.iconst 0, 1) := by decide +kernel
theorem dX7_houses_52 : decode cX7_houses 52 = .ok (.istore_n 1, 1) := by decide +kernel
theorem dX7_houses_53 : decode cX7_houses 53 = .ok (.iload_n 1, 1) := by decide +kernel
theorem dX7_houses_54 : decode cX7_houses 54 = .ok (.bipush 24, 2) := by decide +kernel
theorem dX7_houses_56 : decode cX7_houses 56 = .ok (.if_icmp .ge 45, 3) := by decide +kernel
theorem dX7_houses_59 : decode cX7_houses 59 = .ok (.aload_n 0, 1) := by decide +kernel
theorem dX7_houses_60 : decode cX7_houses 60 = .ok (.getfield 26, 3) := by decide +kernel
theorem dX7_houses_63 : decode cX7_houses 63 = .ok (.iload_n 1, 1) := by decide +kernel
theorem dX7_houses_64 : decode cX7_houses 64 = .ok (.aload_n 0, 1) := by decide +kernel
theorem dX7_houses_65 : decode cX7_houses 65 = .ok (.getfield 32, 3) := by decide +kernel
theorem dX7_houses_68 : decode cX7_houses 68 = .ok (.iload_n 1, 1) := by decide +kernel
theorem dX7_houses_69 : decode cX7_houses 69 = .ok (.iaload, 1) := by decide +kernel
theorem dX7_houses_70 : decode cX7_houses 70 = .ok (.iastore, 1) := by decide +kernel
theorem dX7_houses_71 : decode cX7_houses 71 = .ok (.aload_n 0, 1) := by decide +kernel
theorem dX7_houses_72 : decode cX7_houses 72 = .ok (.getfield 7, 3) := by decide +kernel
theorem dX7_houses_75 : decode cX7_houses 75 = .ok (.iconst 1, 1) := by decide +kernel
theorem dX7_houses_76 : decode cX7_houses 76 = .ok (.iload_n 1, 1) := by decide +kernel
theorem dX7_houses_77 : decode cX7_houses 77 = .ok (.iadd, 1) := by decide +kernel
theorem dX7_houses_78 : decode cX7_houses 78 = .ok (.aload_n 0, 1) := by decide +kernel
theorem dX7_houses_79 : decode cX7_houses 79 = .ok (.getfield 35, 3) := by decide +kernel
theorem dX7_houses_82 : decode cX7_houses 82 = .ok (.iload_n 1, 1) := by decide +kernel
theorem dX7_houses_83 : decode cX7_houses 83 = .ok (.iaload, 1) := by decide +kernel
theorem dX7_houses_84 : decode cX7_houses 84 = .ok (.iastore, 1) := by decide +kernel
theorem dX7_houses_85 : decode cX7_houses 85 = .ok (.aload_n 0, 1) := by decide +kernel
theorem dX7_houses_86 : decode cX7_houses 86 = .ok (.getfield 7, 3) := by decide +kernel
theorem dX7_houses_89 : decode cX7_houses 89 = .ok (.bipush 25, 2) := by decide +kernel
theorem dX7_houses_91 : decode cX7_houses 91 = .ok (.iload_n 1, 1) := by decide +kernel
theorem dX7_houses_92 : decode cX7_houses 92 = .ok (.iadd, 1) := by decide +kernel
theorem dX7_houses_93 : decode cX7_houses 93 = .ok (.iconst 0, 1) := by decide +kernel
theorem dX7_houses_94 : decode cX7_houses 94 = .ok (.iastore, 1) := by decide +kernel
theorem dX7_houses_95 : decode cX7_houses 95 = .ok (.iinc 1 1, 3) := by decide +kernel
theorem dX7_houses_98 : decode cX7_houses 98 = .ok (.goto (-45), 3) := by decide +kernel
theorem dX7_houses_101 : decode cX7_houses 101 = .ok (.aload_n 0, 1) := by decide +kernel
theorem dX7_houses_102 : decode cX7_houses 102 = .ok (.getfield 7, 3) := by decide +kernel
theorem dX7_houses_105 : decode cX7_houses 105 = .ok (.iconst 0, 1) := by decide +kernel
theorem dX7_houses_106 : decode cX7_houses 106 = .ok (.aload_n 0, 1) := by decide +kernel
theorem dX7_houses_107 : decode cX7_houses 107 = .ok (.getfield 89, 3) := by decide +kernel
theorem dX7_houses_110 : decode cX7_houses 110 = .ok (.bipush (-9), 2) := by decide +kernel
theorem dX7_houses_112 : decode cX7_houses 112 = .ok (.if_icmp .ne 7, 3) := by decide +kernel
theorem dX7_houses_115 : decode cX7_houses 115 = .ok (.iconst 0, 1) := by decide +kernel
theorem dX7_houses_116 : decode cX7_houses 116 = .ok (.goto 7, 3) := by decide +kernel
theorem dX7_houses_119 : decode cX7_houses 119 = .ok (.aload_n 0, 1) := by decide +kernel
theorem dX7_houses_120 : decode cX7_houses 120 = .ok (.getfield 89, 3) := by decide +kernel
theorem dX7_houses_123 : decode cX7_houses 123 = .ok (.iastore, 1) := by decide +kernel
theorem dX7_houses_124 : decode cX7_houses 124 = .ok (.aload_n 0, 1) := by decide +kernel
theorem dX7_houses_125 : decode cX7_houses 125 = .ok (.iconst 0, 1) := by decide +kernel
theorem dX7_houses_126 : decode cX7_houses 126 = .ok (.putfield 69, 3) := by decide +kernel
theorem dX7_houses_129 : decode cX7_houses 129 = .ok (.aload_n 0, 1) := by decide +kernel
theorem dX7_houses_130 : decode cX7_houses 130 = .ok (.iconst 0, 1) := by decide +kernel
theorem dX7_houses_131 : decode cX7_houses 131 = .ok (.putfield 51, 3) := by decide +kernel
theorem dX7_houses_134 : decode cX7_houses 134 = .ok (.aload_n 0, 1) := by decide +kernel
theorem dX7_houses_135 : decode cX7_houses 135 = .ok (.iconst 0, 1) := by decide +kernel
theorem dX7_houses_136 : decode cX7_houses 136 = .ok (.putfield 123, 3) := by decide +kernel
theorem dX7_houses_139 : decode cX7_houses 139 = .ok (.aload_n 0, 1) := by decide +kernel
theorem dX7_houses_140 : decode cX7_houses 140 = .ok (.getfield 13, 3) := by decide +kernel
theorem dX7_houses_143 : decode cX7_houses 143 = .ok (.iconst 0, 1) := by decide +kernel
theorem dX7_houses_144 : decode cX7_houses 144 = .ok (.iconst 0, 1) := by decide +kernel
theorem dX7_houses_145 : decode cX7_houses 145 = .ok (.bastore, 1) := by decide +kernel
theorem dX7_houses_146 : decode cX7_houses 146 = .ok (.aload_n 0, 1) := by decide +kernel
theorem dX7_houses_147 : decode cX7_houses 147 = .ok (.getfield 13, 3) := by decide +kernel
theorem dX7_houses_150 : decode cX7_houses 150 = .ok (.iconst 1, 1) := by decide +kernel
theorem dX7_houses_151 : decode cX7_houses 151 = .ok (.iconst 0, 1) := by decide +kernel
theorem dX7_houses_152 : decode cX7_houses 152 = .ok (.bastore, 1) := by decide +kernel
theorem dX7_houses_153 : decode cX7_houses 153 = .ok (.aload_n 0, 1) := by decide +kernel
theorem dX7_houses_154 : decode cX7_houses 154 = .ok (.getfield 106, 3) := by decide +kernel
theorem dX7_houses_157 : decode cX7_houses 157 = .ok (.ireturn, 1) := by decide +kernel
theorem dX7_isHouse_0 : decode cX7_isHouse 0 = .ok (.iload_n 1, 1) := by decide +kernel
theorem dX7_isHouse_1 : decode cX7_isHouse 1 = .ok (.i2l, 1) := by decide +kernel
theorem dX7_isHouse_2 : decode cX7_isHouse 2 = .ok (.lconst 0, 1) := by decide +kernel
theorem dX7_isHouse_3 : decode cX7_isHouse 3 = .ok (.aload_n 0, 1) := by decide +kernel
theorem dX7_isHouse_4 : decode cX7_isHouse 4 = .ok (.getfield 120, 3) := by decide +kernel
theorem dX7_isHouse_7 : decode cX7_isHouse 7 = .ok (.iconst 1, 1) := by decide +kernel
theorem dX7_isHouse_8 : decode cX7_isHouse 8 = .ok (.isub, 1) := by decide +kernel
theorem dX7_isHouse_9 : decode cX7_isHouse 9 = .ok (.i2l, 1) := by decide +kernel
theorem dX7_isHouse_10 : decode cX7_isHouse 10 = .ok (.invokestatic 62, 3) := by decide +kernel
theorem dX7_isHouse_13 : decode cX7_isHouse 13 = .ok (.ireturn, 1) := by decide +kernel
theorem dX7_isEntry_0 : decode cX7_isEntry 0 = .ok (.aload_n 0, 1) := by decide +kernel
theorem dX7_isEntry_1 : decode cX7_isEntry 1 = .ok (.iload_n 1, 1) := by decide +kernel
theorem dX7_isEntry_2 : decode cX7_isEntry 2 = .ok (.invokevirtual 126, 3) := by decide +kernel
theorem dX7_isEntry_5 : decode cX7_isEntry 5 = .ok (.ifCond .eq 25, 3) := by decide +kernel
theorem dX7_isEntry_8 : decode cX7_isEntry 8 = .ok (.iload_n 2, 1) := by decide +kernel
theorem dX7_isEntry_9 : decode cX7_isEntry 9 = .ok (.i2l, 1) := by decide +kernel
theorem dX7_isEntry_10 : decode cX7_isEntry 10 = .ok (.lconst 0, 1) := by decide +kernel
theorem dX7_isEntry_11 : decode cX7_isEntry 11 = .ok (.aload_n 0, 1) := by decide +kernel
theorem dX7_isEntry_12 : decode cX7_isEntry 12 = .ok (.getfield 23, 3) := by decide +kernel
theorem dX7_isEntry_15 : decode cX7_isEntry 15 = .ok (.iload_n 1, 1) := by decide +kernel
theorem dX7_isEntry_16 : decode cX7_isEntry 16 = .ok (.iaload, 1) := by decide +kernel
theorem dX7_isEntry_17 : decode cX7_isEntry 17 = .ok (.iconst 1, 1) := by decide +kernel
theorem dX7_isEntry_18 : decode cX7_isEntry 18 = .ok (.isub, 1) := by decide +kernel
theorem dX7_isEntry_19 : decode cX7_isEntry 19 = .ok (.i2l, 1) := by decide +kernel
theorem dX7_isEntry_20 : decode cX7_isEntry 20 = .ok (.invokestatic 62, 3) := by decide +kernel
theorem dX7_isEntry_23 : decode cX7_isEntry 23 = .ok (.ifCond .eq 7, 3) := by decide +kernel
theorem dX7_isEntry_26 : decode cX7_isEntry 26 = .ok (.iconst 1, 1) := by decide +kernel
theorem dX7_isEntry_27 : decode cX7_isEntry 27 = .ok (.goto 4, 3) := by decide +kernel
theorem dX7_isEntry_30 : decode cX7_isEntry 30 = .ok (.iconst 0, 1) := by decide +kernel
theorem dX7_isEntry_31 : decode cX7_isEntry 31 = .ok (.ireturn, 1) := by decide +kernel
theorem dX7_counts_0 : decode cX7_counts 0 = .ok (.aload_n 0, 1) := by decide +kernel
theorem dX7_counts_1 : decode cX7_counts 1 = .ok (.iload_n 1, 1) := by decide +kernel
theorem dX7_counts_2 : decode cX7_counts 2 = .ok (.iload_n 2, 1) := by decide +kernel
theorem dX7_counts_3 : decode cX7_counts 3 = .ok (.invokevirtual 129, 3) := by decide +kernel
theorem dX7_counts_6 : decode cX7_counts 6 = .ok (.ifCond .eq 48, 3) := by decide +kernel
theorem dX7_counts_9 : decode cX7_counts 9 = .ok (.aload_n 0, 1) := by decide +kernel
theorem dX7_counts_10 : decode cX7_counts 10 = .ok (.getfield 7, 3) := by decide +kernel
theorem dX7_counts_13 : decode cX7_counts 13 = .ok (.bipush 25, 2) := by decide +kernel
theorem dX7_counts_15 : decode cX7_counts 15 = .ok (.bipush 6, 2) := by decide +kernel
theorem dX7_counts_17 : decode cX7_counts 17 = .ok (.iload_n 1, 1) := by decide +kernel
theorem dX7_counts_18 : decode cX7_counts 18 = .ok (.imul, 1) := by decide +kernel
theorem dX7_counts_19 : decode cX7_counts 19 = .ok (.iadd, 1) := by decide +kernel
theorem dX7_counts_20 : decode cX7_counts 20 = .ok (.iload_n 2, 1) := by decide +kernel
theorem dX7_counts_21 : decode cX7_counts 21 = .ok (.iadd, 1) := by decide +kernel
theorem dX7_counts_22 : decode cX7_counts 22 = .ok (.iaload, 1) := by decide +kernel
theorem dX7_counts_23 : decode cX7_counts 23 = .ok (.ifCond .ne 31, 3) := by decide +kernel
theorem dX7_counts_26 : decode cX7_counts 26 = .ok (.aload_n 0, 1) := by decide +kernel
theorem dX7_counts_27 : decode cX7_counts 27 = .ok (.getfield 38, 3) := by decide +kernel
theorem dX7_counts_30 : decode cX7_counts 30 = .ok (.bipush 6, 2) := by decide +kernel
theorem dX7_counts_32 : decode cX7_counts 32 = .ok (.iload_n 1, 1) := by decide +kernel
theorem dX7_counts_33 : decode cX7_counts 33 = .ok (.imul, 1) := by decide +kernel
theorem dX7_counts_34 : decode cX7_counts 34 = .ok (.iload_n 2, 1) := by decide +kernel
theorem dX7_counts_35 : decode cX7_counts 35 = .ok (.iadd, 1) := by decide +kernel
theorem dX7_counts_36 : decode cX7_counts 36 = .ok (.if_icmp .eq 18, 3) := by decide +kernel
theorem dX7_counts_39 : decode cX7_counts 39 = .ok (.aload_n 0, 1) := by decide +kernel
theorem dX7_counts_40 : decode cX7_counts 40 = .ok (.getfield 132, 3) := by decide +kernel
theorem dX7_counts_43 : decode cX7_counts 43 = .ok (.iload_n 1, 1) := by decide +kernel
theorem dX7_counts_44 : decode cX7_counts 44 = .ok (.invokestatic 135, 3) := by decide +kernel
theorem dX7_counts_47 : decode cX7_counts 47 = .ok (.ifCond .ne 7, 3) := by decide +kernel
theorem dX7_counts_50 : decode cX7_counts 50 = .ok (.iconst 1, 1) := by decide +kernel
theorem dX7_counts_51 : decode cX7_counts 51 = .ok (.goto 4, 3) := by decide +kernel
theorem dX7_counts_54 : decode cX7_counts 54 = .ok (.iconst 0, 1) := by decide +kernel
theorem dX7_counts_55 : decode cX7_counts 55 = .ok (.ireturn, 1) := by decide +kernel
theorem dX7_yearIn_0 : decode cX7_yearIn 0 = .ok (.iconst 0, 1) := by decide +kernel
theorem dX7_yearIn_1 : decode cX7_yearIn 1 = .ok (.istore_n 3, 1) := by decide +kernel
theorem dX7_yearIn_2 : decode cX7_yearIn 2 = .ok (.iload_n 3, 1) := by decide +kernel
theorem dX7_yearIn_3 : decode cX7_yearIn 3 = .ok (.bipush 6, 2) := by decide +kernel
theorem dX7_yearIn_5 : decode cX7_yearIn 5 = .ok (.if_icmp .ge 47, 3) := by decide +kernel
theorem dX7_yearIn_8 : decode cX7_yearIn 8 = .ok (.aload_n 0, 1) := by decide +kernel
theorem dX7_yearIn_9 : decode cX7_yearIn 9 = .ok (.iload_n 1, 1) := by decide +kernel
theorem dX7_yearIn_10 : decode cX7_yearIn 10 = .ok (.iload_n 3, 1) := by decide +kernel
theorem dX7_yearIn_11 : decode cX7_yearIn 11 = .ok (.invokevirtual 138, 3) := by decide +kernel
theorem dX7_yearIn_14 : decode cX7_yearIn 14 = .ok (.ifCond .eq 32, 3) := by decide +kernel
theorem dX7_yearIn_17 : decode cX7_yearIn 17 = .ok (.aload_n 0, 1) := by decide +kernel
theorem dX7_yearIn_18 : decode cX7_yearIn 18 = .ok (.getfield 26, 3) := by decide +kernel
theorem dX7_yearIn_21 : decode cX7_yearIn 21 = .ok (.bipush 6, 2) := by decide +kernel
theorem dX7_yearIn_23 : decode cX7_yearIn 23 = .ok (.iload_n 1, 1) := by decide +kernel
theorem dX7_yearIn_24 : decode cX7_yearIn 24 = .ok (.imul, 1) := by decide +kernel
theorem dX7_yearIn_25 : decode cX7_yearIn 25 = .ok (.iload_n 3, 1) := by decide +kernel
theorem dX7_yearIn_26 : decode cX7_yearIn 26 = .ok (.iadd, 1) := by decide +kernel
theorem dX7_yearIn_27 : decode cX7_yearIn 27 = .ok (.iaload, 1) := by decide +kernel
theorem dX7_yearIn_28 : decode cX7_yearIn 28 = .ok (.iload_n 2, 1) := by decide +kernel
theorem dX7_yearIn_29 : decode cX7_yearIn 29 = .ok (.if_icmp .ne 17, 3) := by decide +kernel
theorem dX7_yearIn_32 : decode cX7_yearIn 32 = .ok (.aload_n 0, 1) := by decide +kernel
theorem dX7_yearIn_33 : decode cX7_yearIn 33 = .ok (.getfield 7, 3) := by decide +kernel
theorem dX7_yearIn_36 : decode cX7_yearIn 36 = .ok (.iconst 1, 1) := by decide +kernel
theorem dX7_yearIn_37 : decode cX7_yearIn 37 = .ok (.bipush 6, 2) := by decide +kernel
theorem dX7_yearIn_39 : decode cX7_yearIn 39 = .ok (.iload_n 1, 1) := by decide +kernel
theorem dX7_yearIn_40 : decode cX7_yearIn 40 = .ok (.imul, 1) := by decide +kernel
theorem dX7_yearIn_41 : decode cX7_yearIn 41 = .ok (.iadd, 1) := by decide +kernel
theorem dX7_yearIn_42 : decode cX7_yearIn 42 = .ok (.iload_n 3, 1) := by decide +kernel
theorem dX7_yearIn_43 : decode cX7_yearIn 43 = .ok (.iadd, 1) := by decide +kernel
theorem dX7_yearIn_44 : decode cX7_yearIn 44 = .ok (.iaload, 1) := by decide +kernel
theorem dX7_yearIn_45 : decode cX7_yearIn 45 = .ok (.ireturn, 1) := by decide +kernel
theorem dX7_yearIn_46 : decode cX7_yearIn 46 = .ok (.iinc 3 1, 3) := by decide +kernel
theorem dX7_yearIn_49 : decode cX7_yearIn 49 = .ok (.goto (-47), 3) := by decide +kernel
theorem dX7_yearIn_52 : decode cX7_yearIn 52 = .ok (.bipush (-9), 2) := by decide +kernel
theorem dX7_yearIn_54 : decode cX7_yearIn 54 = .ok (.ireturn, 1) := by decide +kernel
theorem dX7_housesOf_0 : decode cX7_housesOf 0 = .ok (.iconst 0, 1) := by decide +kernel
theorem dX7_housesOf_1 : decode cX7_housesOf 1 = .ok (.istore_n 2, 1) := by decide +kernel
theorem dX7_housesOf_2 : decode cX7_housesOf 2 = .ok (.iconst 0, 1) := by decide +kernel
theorem dX7_housesOf_3 : decode cX7_housesOf 3 = .ok (.istore_n 3, 1) := by decide +kernel
theorem dX7_housesOf_4 : decode cX7_housesOf 4 = .ok (.iload_n 3, 1) := by decide +kernel
theorem dX7_housesOf_5 : decode cX7_housesOf 5 = .ok (.aload_n 0, 1) := by decide +kernel
theorem dX7_housesOf_6 : decode cX7_housesOf 6 = .ok (.getfield 120, 3) := by decide +kernel
theorem dX7_housesOf_9 : decode cX7_housesOf 9 = .ok (.if_icmp .ge 28, 3) := by decide +kernel
theorem dX7_housesOf_12 : decode cX7_housesOf 12 = .ok (.iload_n 2, 1) := by decide +kernel
theorem dX7_housesOf_13 : decode cX7_housesOf 13 = .ok (.aload_n 0, 1) := by decide +kernel
theorem dX7_housesOf_14 : decode cX7_housesOf 14 = .ok (.iload_n 3, 1) := by decide +kernel
theorem dX7_housesOf_15 : decode cX7_housesOf 15 = .ok (.iload_n 1, 1) := by decide +kernel
theorem dX7_housesOf_16 : decode cX7_housesOf 16 = .ok (.invokevirtual 141, 3) := by decide +kernel
theorem dX7_housesOf_19 : decode cX7_housesOf 19 = .ok (.ifCond .lt 9, 3) := by decide +kernel
theorem dX7_housesOf_22 : decode cX7_housesOf 22 = .ok (.iconst 1, 1) := by decide +kernel
theorem dX7_housesOf_23 : decode cX7_housesOf 23 = .ok (.iload_n 3, 1) := by decide +kernel
theorem dX7_housesOf_24 : decode cX7_housesOf 24 = .ok (.ishl, 1) := by decide +kernel
theorem dX7_housesOf_25 : decode cX7_housesOf 25 = .ok (.goto 4, 3) := by decide +kernel
theorem dX7_housesOf_28 : decode cX7_housesOf 28 = .ok (.iconst 0, 1) := by decide +kernel
theorem dX7_housesOf_29 : decode cX7_housesOf 29 = .ok (.ior, 1) := by decide +kernel
theorem dX7_housesOf_30 : decode cX7_housesOf 30 = .ok (.istore_n 2, 1) := by decide +kernel
theorem dX7_housesOf_31 : decode cX7_housesOf 31 = .ok (.iinc 3 1, 3) := by decide +kernel
theorem dX7_housesOf_34 : decode cX7_housesOf 34 = .ok (.goto (-30), 3) := by decide +kernel
theorem dX7_housesOf_37 : decode cX7_housesOf 37 = .ok (.iload_n 2, 1) := by decide +kernel
theorem dX7_housesOf_38 : decode cX7_housesOf 38 = .ok (.ireturn, 1) := by decide +kernel
theorem dX7_sizeOf_0 : decode cX7_sizeOf 0 = .ok (.iconst 0, 1) := by decide +kernel
theorem dX7_sizeOf_1 : decode cX7_sizeOf 1 = .ok (.istore_n 2, 1) := by decide +kernel
theorem dX7_sizeOf_2 : decode cX7_sizeOf 2 = .ok (.iconst 0, 1) := by decide +kernel
theorem dX7_sizeOf_3 : decode cX7_sizeOf 3 = .ok (.istore_n 3, 1) := by decide +kernel
theorem dX7_sizeOf_4 : decode cX7_sizeOf 4 = .ok (.iload_n 3, 1) := by decide +kernel
theorem dX7_sizeOf_5 : decode cX7_sizeOf 5 = .ok (.bipush 6, 2) := by decide +kernel
theorem dX7_sizeOf_7 : decode cX7_sizeOf 7 = .ok (.if_icmp .ge 26, 3) := by decide +kernel
theorem dX7_sizeOf_10 : decode cX7_sizeOf 10 = .ok (.iload_n 2, 1) := by decide +kernel
theorem dX7_sizeOf_11 : decode cX7_sizeOf 11 = .ok (.aload_n 0, 1) := by decide +kernel
theorem dX7_sizeOf_12 : decode cX7_sizeOf 12 = .ok (.iload_n 1, 1) := by decide +kernel
theorem dX7_sizeOf_13 : decode cX7_sizeOf 13 = .ok (.iload_n 3, 1) := by decide +kernel
theorem dX7_sizeOf_14 : decode cX7_sizeOf 14 = .ok (.invokevirtual 138, 3) := by decide +kernel
theorem dX7_sizeOf_17 : decode cX7_sizeOf 17 = .ok (.ifCond .eq 7, 3) := by decide +kernel
theorem dX7_sizeOf_20 : decode cX7_sizeOf 20 = .ok (.iconst 1, 1) := by decide +kernel
theorem dX7_sizeOf_21 : decode cX7_sizeOf 21 = .ok (.goto 4, 3) := by decide +kernel
theorem dX7_sizeOf_24 : decode cX7_sizeOf 24 = .ok (.iconst 0, 1) := by decide +kernel
theorem dX7_sizeOf_25 : decode cX7_sizeOf 25 = .ok (.iadd, 1) := by decide +kernel
theorem dX7_sizeOf_26 : decode cX7_sizeOf 26 = .ok (.istore_n 2, 1) := by decide +kernel
theorem dX7_sizeOf_27 : decode cX7_sizeOf 27 = .ok (.iinc 3 1, 3) := by decide +kernel
theorem dX7_sizeOf_30 : decode cX7_sizeOf 30 = .ok (.goto (-26), 3) := by decide +kernel
theorem dX7_sizeOf_33 : decode cX7_sizeOf 33 = .ok (.iload_n 2, 1) := by decide +kernel
theorem dX7_sizeOf_34 : decode cX7_sizeOf 34 = .ok (.ireturn, 1) := by decide +kernel
theorem dX7_aheadOf_0 : decode cX7_aheadOf 0 = .ok (.iconst 0, 1) := by decide +kernel
theorem dX7_aheadOf_1 : decode cX7_aheadOf 1 = .ok (.istore_n 2, 1) := by decide +kernel
theorem dX7_aheadOf_2 : decode cX7_aheadOf 2 = .ok (.iconst 0, 1) := by decide +kernel
theorem dX7_aheadOf_3 : decode cX7_aheadOf 3 = .ok (.istore_n 3, 1) := by decide +kernel
theorem dX7_aheadOf_4 : decode cX7_aheadOf 4 = .ok (.iload_n 3, 1) := by decide +kernel
theorem dX7_aheadOf_5 : decode cX7_aheadOf 5 = .ok (.aload_n 0, 1) := by decide +kernel
theorem dX7_aheadOf_6 : decode cX7_aheadOf 6 = .ok (.getfield 120, 3) := by decide +kernel
theorem dX7_aheadOf_9 : decode cX7_aheadOf 9 = .ok (.if_icmp .ge 61, 3) := by decide +kernel
theorem dX7_aheadOf_12 : decode cX7_aheadOf 12 = .ok (.aload_n 0, 1) := by decide +kernel
theorem dX7_aheadOf_13 : decode cX7_aheadOf 13 = .ok (.iload_n 3, 1) := by decide +kernel
theorem dX7_aheadOf_14 : decode cX7_aheadOf 14 = .ok (.iload_n 1, 1) := by decide +kernel
theorem dX7_aheadOf_15 : decode cX7_aheadOf 15 = .ok (.invokevirtual 141, 3) := by decide +kernel
theorem dX7_aheadOf_18 : decode cX7_aheadOf 18 = .ok (.istore 4, 2) := by decide +kernel
theorem dX7_aheadOf_20 : decode cX7_aheadOf 20 = .ok (.iconst 0, 1) := by decide +kernel
theorem dX7_aheadOf_21 : decode cX7_aheadOf 21 = .ok (.istore 5, 2) := by decide +kernel
theorem dX7_aheadOf_23 : decode cX7_aheadOf 23 = .ok (.iload 5, 2) := by decide +kernel
theorem dX7_aheadOf_25 : decode cX7_aheadOf 25 = .ok (.bipush 8, 2) := by decide +kernel
theorem dX7_aheadOf_27 : decode cX7_aheadOf 27 = .ok (.if_icmp .ge 37, 3) := by decide +kernel
theorem dX7_aheadOf_30 : decode cX7_aheadOf 30 = .ok (.iload 4, 2) := by decide +kernel
theorem dX7_aheadOf_32 : decode cX7_aheadOf 32 = .ok (.ifCond .lt 32, 3) := by decide +kernel
theorem dX7_aheadOf_35 : decode cX7_aheadOf 35 = .ok (.iload_n 2, 1) := by decide +kernel
theorem dX7_aheadOf_36 : decode cX7_aheadOf 36 = .ok (.aload_n 0, 1) := by decide +kernel
theorem dX7_aheadOf_37 : decode cX7_aheadOf 37 = .ok (.iload_n 3, 1) := by decide +kernel
theorem dX7_aheadOf_38 : decode cX7_aheadOf 38 = .ok (.iload 5, 2) := by decide +kernel
theorem dX7_aheadOf_40 : decode cX7_aheadOf 40 = .ok (.invokevirtual 141, 3) := by decide +kernel
theorem dX7_aheadOf_43 : decode cX7_aheadOf 43 = .ok (.iload 4, 2) := by decide +kernel
theorem dX7_aheadOf_45 : decode cX7_aheadOf 45 = .ok (.if_icmp .le 10, 3) := by decide +kernel
theorem dX7_aheadOf_48 : decode cX7_aheadOf 48 = .ok (.iconst 1, 1) := by decide +kernel
theorem dX7_aheadOf_49 : decode cX7_aheadOf 49 = .ok (.iload 5, 2) := by decide +kernel
theorem dX7_aheadOf_51 : decode cX7_aheadOf 51 = .ok (.ishl, 1) := by decide +kernel
theorem dX7_aheadOf_52 : decode cX7_aheadOf 52 = .ok (.goto 4, 3) := by decide +kernel
theorem dX7_aheadOf_55 : decode cX7_aheadOf 55 = .ok (.iconst 0, 1) := by decide +kernel
theorem dX7_aheadOf_56 : decode cX7_aheadOf 56 = .ok (.ior, 1) := by decide +kernel
theorem dX7_aheadOf_57 : decode cX7_aheadOf 57 = .ok (.istore_n 2, 1) := by decide +kernel
theorem dX7_aheadOf_58 : decode cX7_aheadOf 58 = .ok (.iinc 5 1, 3) := by decide +kernel
theorem dX7_aheadOf_61 : decode cX7_aheadOf 61 = .ok (.goto (-38), 3) := by decide +kernel
theorem dX7_aheadOf_64 : decode cX7_aheadOf 64 = .ok (.iinc 3 1, 3) := by decide +kernel
theorem dX7_aheadOf_67 : decode cX7_aheadOf 67 = .ok (.goto (-63), 3) := by decide +kernel
theorem dX7_aheadOf_70 : decode cX7_aheadOf 70 = .ok (.iload_n 2, 1) := by decide +kernel
theorem dX7_aheadOf_71 : decode cX7_aheadOf 71 = .ok (.ireturn, 1) := by decide +kernel
theorem dX7_laysChains_0 : decode cX7_laysChains 0 = .ok (.iconst 0, 1) := by decide +kernel
theorem dX7_laysChains_1 : decode cX7_laysChains 1 = .ok (.istore_n 1, 1) := by decide +kernel
theorem dX7_laysChains_2 : decode cX7_laysChains 2 = .ok (.iload_n 1, 1) := by decide +kernel
theorem dX7_laysChains_3 : decode cX7_laysChains 3 = .ok (.bipush 8, 2) := by decide +kernel
theorem dX7_laysChains_5 : decode cX7_laysChains 5 = .ok (.if_icmp .ge 20, 3) := by decide +kernel
theorem dX7_laysChains_8 : decode cX7_laysChains 8 = .ok (.aload_n 0, 1) := by decide +kernel
theorem dX7_laysChains_9 : decode cX7_laysChains 9 = .ok (.getfield 42, 3) := by decide +kernel
theorem dX7_laysChains_12 : decode cX7_laysChains 12 = .ok (.iload_n 1, 1) := by decide +kernel
theorem dX7_laysChains_13 : decode cX7_laysChains 13 = .ok (.aload_n 0, 1) := by decide +kernel
theorem dX7_laysChains_14 : decode cX7_laysChains 14 = .ok (.iload_n 1, 1) := by decide +kernel
theorem dX7_laysChains_15 : decode cX7_laysChains 15 = .ok (.invokevirtual 145, 3) := by decide +kernel
theorem dX7_laysChains_18 : decode cX7_laysChains 18 = .ok (.iastore, 1) := by decide +kernel
theorem dX7_laysChains_19 : decode cX7_laysChains 19 = .ok (.iinc 1 1, 3) := by decide +kernel
theorem dX7_laysChains_22 : decode cX7_laysChains 22 = .ok (.goto (-20), 3) := by decide +kernel
theorem dX7_laysChains_25 : decode cX7_laysChains 25 = .ok (.iconst 1, 1) := by decide +kernel
theorem dX7_laysChains_26 : decode cX7_laysChains 26 = .ok (.istore_n 1, 1) := by decide +kernel
theorem dX7_laysChains_27 : decode cX7_laysChains 27 = .ok (.iload_n 1, 1) := by decide +kernel
theorem dX7_laysChains_28 : decode cX7_laysChains 28 = .ok (.ifCond .eq 84, 3) := by decide +kernel
theorem dX7_laysChains_31 : decode cX7_laysChains 31 = .ok (.iconst 0, 1) := by decide +kernel
theorem dX7_laysChains_32 : decode cX7_laysChains 32 = .ok (.istore_n 1, 1) := by decide +kernel
theorem dX7_laysChains_33 : decode cX7_laysChains 33 = .ok (.iconst 0, 1) := by decide +kernel
theorem dX7_laysChains_34 : decode cX7_laysChains 34 = .ok (.istore_n 2, 1) := by decide +kernel
theorem dX7_laysChains_35 : decode cX7_laysChains 35 = .ok (.iload_n 2, 1) := by decide +kernel
theorem dX7_laysChains_36 : decode cX7_laysChains 36 = .ok (.bipush 64, 2) := by decide +kernel
theorem dX7_laysChains_38 : decode cX7_laysChains 38 = .ok (.if_icmp .ge 71, 3) := by decide +kernel
theorem dX7_laysChains_41 : decode cX7_laysChains 41 = .ok (.iload_n 2, 1) := by decide +kernel
theorem dX7_laysChains_42 : decode cX7_laysChains 42 = .ok (.bipush 8, 2) := by decide +kernel
theorem dX7_laysChains_44 : decode cX7_laysChains 44 = .ok (.idiv, 1) := by decide +kernel
theorem dX7_laysChains_45 : decode cX7_laysChains 45 = .ok (.istore_n 3, 1) := by decide +kernel
theorem dX7_laysChains_46 : decode cX7_laysChains 46 = .ok (.iload_n 2, 1) := by decide +kernel
theorem dX7_laysChains_47 : decode cX7_laysChains 47 = .ok (.bipush 8, 2) := by decide +kernel
theorem dX7_laysChains_49 : decode cX7_laysChains 49 = .ok (.irem, 1) := by decide +kernel
theorem dX7_laysChains_50 : decode cX7_laysChains 50 = .ok (.istore 4, 2) := by decide +kernel
theorem dX7_laysChains_52 : decode cX7_laysChains 52 = .ok (.aload_n 0, 1) := by decide +kernel
theorem dX7_laysChains_53 : decode cX7_laysChains 53 = .ok (.getfield 42, 3) := by decide +kernel
theorem dX7_laysChains_56 : decode cX7_laysChains 56 = .ok (.iload_n 3, 1) := by decide +kernel
theorem dX7_laysChains_57 : decode cX7_laysChains 57 = .ok (.iaload, 1) := by decide +kernel
theorem dX7_laysChains_58 : decode cX7_laysChains 58 = .ok (.iload 4, 2) := by decide +kernel
theorem dX7_laysChains_60 : decode cX7_laysChains 60 = .ok (.invokestatic 135, 3) := by decide +kernel
theorem dX7_laysChains_63 : decode cX7_laysChains 63 = .ok (.ifCond .eq 40, 3) := by decide +kernel
theorem dX7_laysChains_66 : decode cX7_laysChains 66 = .ok (.aload_n 0, 1) := by decide +kernel
theorem dX7_laysChains_67 : decode cX7_laysChains 67 = .ok (.getfield 42, 3) := by decide +kernel
theorem dX7_laysChains_70 : decode cX7_laysChains 70 = .ok (.iload 4, 2) := by decide +kernel
theorem dX7_laysChains_72 : decode cX7_laysChains 72 = .ok (.iaload, 1) := by decide +kernel
theorem dX7_laysChains_73 : decode cX7_laysChains 73 = .ok (.aload_n 0, 1) := by decide +kernel
theorem dX7_laysChains_74 : decode cX7_laysChains 74 = .ok (.getfield 42, 3) := by decide +kernel
theorem dX7_laysChains_77 : decode cX7_laysChains 77 = .ok (.iload_n 3, 1) := by decide +kernel
theorem dX7_laysChains_78 : decode cX7_laysChains 78 = .ok (.iaload, 1) := by decide +kernel
theorem dX7_laysChains_79 : decode cX7_laysChains 79 = .ok (.iconst (-1), 1) := by decide +kernel
theorem dX7_laysChains_80 : decode cX7_laysChains 80 = .ok (.ixor, 1) := by decide +kernel
theorem dX7_laysChains_81 : decode cX7_laysChains 81 = .ok (.iand, 1) := by decide +kernel
theorem dX7_laysChains_82 : decode cX7_laysChains 82 = .ok (.ifCond .eq 21, 3) := by decide +kernel
theorem dX7_laysChains_85 : decode cX7_laysChains 85 = .ok (.aload_n 0, 1) := by decide +kernel
theorem dX7_laysChains_86 : decode cX7_laysChains 86 = .ok (.getfield 42, 3) := by decide +kernel
theorem dX7_laysChains_89 : decode cX7_laysChains 89 = .ok (.iload_n 3, 1) := by decide +kernel
theorem dX7_laysChains_90 : decode cX7_laysChains 90 = .ok (.dup2, 1) := by decide +kernel
theorem dX7_laysChains_91 : decode cX7_laysChains 91 = .ok (.iaload, 1) := by decide +kernel
theorem dX7_laysChains_92 : decode cX7_laysChains 92 = .ok (.aload_n 0, 1) := by decide +kernel
theorem dX7_laysChains_93 : decode cX7_laysChains 93 = .ok (.getfield 42, 3) := by decide +kernel
theorem dX7_laysChains_96 : decode cX7_laysChains 96 = .ok (.iload 4, 2) := by decide +kernel
theorem dX7_laysChains_98 : decode cX7_laysChains 98 = .ok (.iaload, 1) := by decide +kernel
theorem dX7_laysChains_99 : decode cX7_laysChains 99 = .ok (.ior, 1) := by decide +kernel
theorem dX7_laysChains_100 : decode cX7_laysChains 100 = .ok (.iastore, 1) := by decide +kernel
theorem dX7_laysChains_101 : decode cX7_laysChains 101 = .ok (.iconst 1, 1) := by decide +kernel
theorem dX7_laysChains_102 : decode cX7_laysChains 102 = .ok (.istore_n 1, 1) := by decide +kernel
theorem dX7_laysChains_103 : decode cX7_laysChains 103 = .ok (.iinc 2 1, 3) := by decide +kernel
theorem dX7_laysChains_106 : decode cX7_laysChains 106 = .ok (.goto (-71), 3) := by decide +kernel
theorem dX7_laysChains_109 : decode cX7_laysChains 109 = .ok (.goto (-82), 3) := by decide +kernel
theorem dX7_laysChains_112 : decode cX7_laysChains 112 = .ok (.return_, 1) := by decide +kernel
