theorem dX7_tells_0 : decode cX7_tells 0 = .ok (.aload_n 0, 1) := by decide +kernel
theorem dX7_tells_1 : decode cX7_tells 1 = .ok (.iload_n 1, 1) := by decide +kernel
theorem dX7_tells_2 : decode cX7_tells 2 = .ok (.iload_n 2, 1) := by decide +kernel
theorem dX7_tells_3 : decode cX7_tells 3 = .ok (.invokevirtual 129, 3) := by decide +kernel
theorem dX7_tells_6 : decode cX7_tells 6 = .ok (.ifCond .eq 15, 3) := by decide +kernel
theorem dX7_tells_9 : decode cX7_tells 9 = .ok (.iload_n 3, 1) := by decide +kernel
theorem dX7_tells_10 : decode cX7_tells 10 = .ok (.i2l, 1) := by decide +kernel
theorem dX7_tells_11 : decode cX7_tells 11 = .ok (.lconst 0, 1) := by decide +kernel
theorem dX7_tells_12 : decode cX7_tells 12 = .ok (.ldc2_w 211, 3) := by decide +kernel
theorem dX7_tells_15 : decode cX7_tells 15 = .ok (.invokestatic 62, 3) := by decide +kernel
theorem dX7_tells_18 : decode cX7_tells 18 = .ok (.ifCond .ne 5, 3) := by decide +kernel
theorem dX7_tells_21 : decode cX7_tells 21 = .ok (.iconst (-1), 1) := by decide +kernel
theorem dX7_tells_22 : decode cX7_tells 22 = .ok (.ireturn, 1) := by decide +kernel
theorem dX7_tells_23 : decode cX7_tells 23 = .ok (.iconst 1, 1) := by decide +kernel
theorem dX7_tells_24 : decode cX7_tells 24 = .ok (.bipush 6, 2) := by decide +kernel
theorem dX7_tells_26 : decode cX7_tells 26 = .ok (.iload_n 1, 1) := by decide +kernel
theorem dX7_tells_27 : decode cX7_tells 27 = .ok (.imul, 1) := by decide +kernel
theorem dX7_tells_28 : decode cX7_tells 28 = .ok (.iadd, 1) := by decide +kernel
theorem dX7_tells_29 : decode cX7_tells 29 = .ok (.iload_n 2, 1) := by decide +kernel
theorem dX7_tells_30 : decode cX7_tells 30 = .ok (.iadd, 1) := by decide +kernel
theorem dX7_tells_31 : decode cX7_tells 31 = .ok (.istore 4, 2) := by decide +kernel
theorem dX7_tells_33 : decode cX7_tells 33 = .ok (.aload_n 0, 1) := by decide +kernel
theorem dX7_tells_34 : decode cX7_tells 34 = .ok (.getfield 7, 3) := by decide +kernel
theorem dX7_tells_37 : decode cX7_tells 37 = .ok (.iload 4, 2) := by decide +kernel
theorem dX7_tells_39 : decode cX7_tells 39 = .ok (.iaload, 1) := by decide +kernel
theorem dX7_tells_40 : decode cX7_tells 40 = .ok (.istore 5, 2) := by decide +kernel
theorem dX7_tells_42 : decode cX7_tells 42 = .ok (.iload_n 3, 1) := by decide +kernel
theorem dX7_tells_43 : decode cX7_tells 43 = .ok (.iload 5, 2) := by decide +kernel
theorem dX7_tells_45 : decode cX7_tells 45 = .ok (.if_icmp .eq 45, 3) := by decide +kernel
theorem dX7_tells_48 : decode cX7_tells 48 = .ok (.iload_n 2, 1) := by decide +kernel
theorem dX7_tells_49 : decode cX7_tells 49 = .ok (.ifCond .le 16, 3) := by decide +kernel
theorem dX7_tells_52 : decode cX7_tells 52 = .ok (.iload_n 3, 1) := by decide +kernel
theorem dX7_tells_53 : decode cX7_tells 53 = .ok (.aload_n 0, 1) := by decide +kernel
theorem dX7_tells_54 : decode cX7_tells 54 = .ok (.getfield 7, 3) := by decide +kernel
theorem dX7_tells_57 : decode cX7_tells 57 = .ok (.iload 4, 2) := by decide +kernel
theorem dX7_tells_59 : decode cX7_tells 59 = .ok (.iconst 1, 1) := by decide +kernel
theorem dX7_tells_60 : decode cX7_tells 60 = .ok (.isub, 1) := by decide +kernel
theorem dX7_tells_61 : decode cX7_tells 61 = .ok (.iaload, 1) := by decide +kernel
theorem dX7_tells_62 : decode cX7_tells 62 = .ok (.if_icmp .lt 28, 3) := by decide +kernel
theorem dX7_tells_65 : decode cX7_tells 65 = .ok (.iload_n 2, 1) := by decide +kernel
theorem dX7_tells_66 : decode cX7_tells 66 = .ok (.aload_n 0, 1) := by decide +kernel
theorem dX7_tells_67 : decode cX7_tells 67 = .ok (.getfield 23, 3) := by decide +kernel
theorem dX7_tells_70 : decode cX7_tells 70 = .ok (.iload_n 1, 1) := by decide +kernel
theorem dX7_tells_71 : decode cX7_tells 71 = .ok (.iaload, 1) := by decide +kernel
theorem dX7_tells_72 : decode cX7_tells 72 = .ok (.iconst 1, 1) := by decide +kernel
theorem dX7_tells_73 : decode cX7_tells 73 = .ok (.isub, 1) := by decide +kernel
theorem dX7_tells_74 : decode cX7_tells 74 = .ok (.if_icmp .ge 19, 3) := by decide +kernel
theorem dX7_tells_77 : decode cX7_tells 77 = .ok (.iload_n 3, 1) := by decide +kernel
theorem dX7_tells_78 : decode cX7_tells 78 = .ok (.aload_n 0, 1) := by decide +kernel
theorem dX7_tells_79 : decode cX7_tells 79 = .ok (.getfield 7, 3) := by decide +kernel
theorem dX7_tells_82 : decode cX7_tells 82 = .ok (.iload 4, 2) := by decide +kernel
theorem dX7_tells_84 : decode cX7_tells 84 = .ok (.iconst 1, 1) := by decide +kernel
theorem dX7_tells_85 : decode cX7_tells 85 = .ok (.iadd, 1) := by decide +kernel
theorem dX7_tells_86 : decode cX7_tells 86 = .ok (.iaload, 1) := by decide +kernel
theorem dX7_tells_87 : decode cX7_tells 87 = .ok (.if_icmp .le 6, 3) := by decide +kernel
theorem dX7_tells_90 : decode cX7_tells 90 = .ok (.bipush (-2), 2) := by decide +kernel
theorem dX7_tells_92 : decode cX7_tells 92 = .ok (.ireturn, 1) := by decide +kernel
theorem dX7_tells_93 : decode cX7_tells 93 = .ok (.aload_n 0, 1) := by decide +kernel
theorem dX7_tells_94 : decode cX7_tells 94 = .ok (.invokevirtual 208, 3) := by decide +kernel
theorem dX7_tells_97 : decode cX7_tells 97 = .ok (.aload_n 0, 1) := by decide +kernel
theorem dX7_tells_98 : decode cX7_tells 98 = .ok (.getfield 7, 3) := by decide +kernel
theorem dX7_tells_101 : decode cX7_tells 101 = .ok (.iload 4, 2) := by decide +kernel
theorem dX7_tells_103 : decode cX7_tells 103 = .ok (.iload_n 3, 1) := by decide +kernel
theorem dX7_tells_104 : decode cX7_tells 104 = .ok (.iastore, 1) := by decide +kernel
theorem dX7_tells_105 : decode cX7_tells 105 = .ok (.iload 5, 2) := by decide +kernel
theorem dX7_tells_107 : decode cX7_tells 107 = .ok (.ireturn, 1) := by decide +kernel
theorem dX7_slacks_0 : decode cX7_slacks 0 = .ok (.iload_n 1, 1) := by decide +kernel
theorem dX7_slacks_1 : decode cX7_slacks 1 = .ok (.i2l, 1) := by decide +kernel
theorem dX7_slacks_2 : decode cX7_slacks 2 = .ok (.lconst 0, 1) := by decide +kernel
theorem dX7_slacks_3 : decode cX7_slacks 3 = .ok (.ldc2_w 213, 3) := by decide +kernel
theorem dX7_slacks_6 : decode cX7_slacks 6 = .ok (.invokestatic 62, 3) := by decide +kernel
theorem dX7_slacks_9 : decode cX7_slacks 9 = .ok (.ifCond .ne 5, 3) := by decide +kernel
theorem dX7_slacks_12 : decode cX7_slacks 12 = .ok (.iconst (-1), 1) := by decide +kernel
theorem dX7_slacks_13 : decode cX7_slacks 13 = .ok (.ireturn, 1) := by decide +kernel
theorem dX7_slacks_14 : decode cX7_slacks 14 = .ok (.aload_n 0, 1) := by decide +kernel
theorem dX7_slacks_15 : decode cX7_slacks 15 = .ok (.getfield 7, 3) := by decide +kernel
theorem dX7_slacks_18 : decode cX7_slacks 18 = .ok (.iconst 0, 1) := by decide +kernel
theorem dX7_slacks_19 : decode cX7_slacks 19 = .ok (.iaload, 1) := by decide +kernel
theorem dX7_slacks_20 : decode cX7_slacks 20 = .ok (.istore_n 2, 1) := by decide +kernel
theorem dX7_slacks_21 : decode cX7_slacks 21 = .ok (.iload_n 2, 1) := by decide +kernel
theorem dX7_slacks_22 : decode cX7_slacks 22 = .ok (.iload_n 1, 1) := by decide +kernel
theorem dX7_slacks_23 : decode cX7_slacks 23 = .ok (.if_icmp .ne 6, 3) := by decide +kernel
theorem dX7_slacks_26 : decode cX7_slacks 26 = .ok (.bipush (-2), 2) := by decide +kernel
theorem dX7_slacks_28 : decode cX7_slacks 28 = .ok (.ireturn, 1) := by decide +kernel
theorem dX7_slacks_29 : decode cX7_slacks 29 = .ok (.aload_n 0, 1) := by decide +kernel
theorem dX7_slacks_30 : decode cX7_slacks 30 = .ok (.invokevirtual 208, 3) := by decide +kernel
theorem dX7_slacks_33 : decode cX7_slacks 33 = .ok (.aload_n 0, 1) := by decide +kernel
theorem dX7_slacks_34 : decode cX7_slacks 34 = .ok (.getfield 7, 3) := by decide +kernel
theorem dX7_slacks_37 : decode cX7_slacks 37 = .ok (.iconst 0, 1) := by decide +kernel
theorem dX7_slacks_38 : decode cX7_slacks 38 = .ok (.iload_n 1, 1) := by decide +kernel
theorem dX7_slacks_39 : decode cX7_slacks 39 = .ok (.iastore, 1) := by decide +kernel
theorem dX7_slacks_40 : decode cX7_slacks 40 = .ok (.iload_n 2, 1) := by decide +kernel
theorem dX7_slacks_41 : decode cX7_slacks 41 = .ok (.ireturn, 1) := by decide +kernel
theorem dX7_undo_0 : decode cX7_undo 0 = .ok (.aload_n 0, 1) := by decide +kernel
theorem dX7_undo_1 : decode cX7_undo 1 = .ok (.getfield 51, 3) := by decide +kernel
theorem dX7_undo_4 : decode cX7_undo 4 = .ok (.ifCond .ne 6, 3) := by decide +kernel
theorem dX7_undo_7 : decode cX7_undo 7 = .ok (.bipush (-2), 2) := by decide +kernel
theorem dX7_undo_9 : decode cX7_undo 9 = .ok (.ireturn, 1) := by decide +kernel
theorem dX7_undo_10 : decode cX7_undo 10 = .ok (.aload_n 0, 1) := by decide +kernel
theorem dX7_undo_11 : decode cX7_undo 11 = .ok (.dup, 1) := by decide +kernel
theorem dX7_undo_12 : decode cX7_undo 12 = .ok (.getfield 51, 3) := by decide +kernel
theorem dX7_undo_15 : decode cX7_undo 15 = .ok (.iconst 1, 1) := by decide +kernel
theorem dX7_undo_16 : decode cX7_undo 16 = .ok (.isub, 1) := by decide +kernel
theorem dX7_undo_17 : decode cX7_undo 17 = .ok (.putfield 51, 3) := by decide +kernel
theorem dX7_undo_20 : decode cX7_undo 20 = .ok (.aload_n 0, 1) := by decide +kernel
theorem dX7_undo_21 : decode cX7_undo 21 = .ok (.sipush 147, 3) := by decide +kernel
theorem dX7_undo_24 : decode cX7_undo 24 = .ok (.bipush 49, 2) := by decide +kernel
theorem dX7_undo_26 : decode cX7_undo 26 = .ok (.aload_n 0, 1) := by decide +kernel
theorem dX7_undo_27 : decode cX7_undo 27 = .ok (.getfield 51, 3) := by decide +kernel
theorem dX7_undo_30 : decode cX7_undo 30 = .ok (.imul, 1) := by decide +kernel
theorem dX7_undo_31 : decode cX7_undo 31 = .ok (.iadd, 1) := by decide +kernel
theorem dX7_undo_32 : decode cX7_undo 32 = .ok (.iconst 0, 1) := by decide +kernel
theorem dX7_undo_33 : decode cX7_undo 33 = .ok (.invokevirtual 54, 3) := by decide +kernel
theorem dX7_undo_36 : decode cX7_undo 36 = .ok (.aload_n 0, 1) := by decide +kernel
theorem dX7_undo_37 : decode cX7_undo 37 = .ok (.getfield 51, 3) := by decide +kernel
theorem dX7_undo_40 : decode cX7_undo 40 = .ok (.ireturn, 1) := by decide +kernel
theorem dX7_sees_0 : decode cX7_sees 0 = .ok (.iload_n 1, 1) := by decide +kernel
theorem dX7_sees_1 : decode cX7_sees 1 = .ok (.i2l, 1) := by decide +kernel
theorem dX7_sees_2 : decode cX7_sees 2 = .ok (.lconst 0, 1) := by decide +kernel
theorem dX7_sees_3 : decode cX7_sees 3 = .ok (.ldc2_w 215, 3) := by decide +kernel
theorem dX7_sees_6 : decode cX7_sees 6 = .ok (.invokestatic 62, 3) := by decide +kernel
theorem dX7_sees_9 : decode cX7_sees 9 = .ok (.ifCond .ne 5, 3) := by decide +kernel
theorem dX7_sees_12 : decode cX7_sees 12 = .ok (.iconst (-1), 1) := by decide +kernel
theorem dX7_sees_13 : decode cX7_sees 13 = .ok (.ireturn, 1) := by decide +kernel
theorem dX7_sees_14 : decode cX7_sees 14 = .ok (.aload_n 0, 1) := by decide +kernel
theorem dX7_sees_15 : decode cX7_sees 15 = .ok (.getfield 123, 3) := by decide +kernel
theorem dX7_sees_18 : decode cX7_sees 18 = .ok (.bipush 6, 2) := by decide +kernel
theorem dX7_sees_20 : decode cX7_sees 20 = .ok (.if_icmp .ne 6, 3) := by decide +kernel
theorem dX7_sees_23 : decode cX7_sees 23 = .ok (.bipush (-3), 2) := by decide +kernel
theorem dX7_sees_25 : decode cX7_sees 25 = .ok (.ireturn, 1) := by decide +kernel
theorem dX7_sees_26 : decode cX7_sees 26 = .ok (.aload_n 0, 1) := by decide +kernel
theorem dX7_sees_27 : decode cX7_sees 27 = .ok (.getfield 17, 3) := by decide +kernel
theorem dX7_sees_30 : decode cX7_sees 30 = .ok (.aload_n 0, 1) := by decide +kernel
theorem dX7_sees_31 : decode cX7_sees 31 = .ok (.getfield 123, 3) := by decide +kernel
theorem dX7_sees_34 : decode cX7_sees 34 = .ok (.iload_n 1, 1) := by decide +kernel
theorem dX7_sees_35 : decode cX7_sees 35 = .ok (.iastore, 1) := by decide +kernel
theorem dX7_sees_36 : decode cX7_sees 36 = .ok (.aload_n 0, 1) := by decide +kernel
theorem dX7_sees_37 : decode cX7_sees 37 = .ok (.dup, 1) := by decide +kernel
theorem dX7_sees_38 : decode cX7_sees 38 = .ok (.getfield 123, 3) := by decide +kernel
theorem dX7_sees_41 : decode cX7_sees 41 = .ok (.iconst 1, 1) := by decide +kernel
theorem dX7_sees_42 : decode cX7_sees 42 = .ok (.iadd, 1) := by decide +kernel
theorem dX7_sees_43 : decode cX7_sees 43 = .ok (.putfield 123, 3) := by decide +kernel
theorem dX7_sees_46 : decode cX7_sees 46 = .ok (.aload_n 0, 1) := by decide +kernel
theorem dX7_sees_47 : decode cX7_sees 47 = .ok (.getfield 123, 3) := by decide +kernel
theorem dX7_sees_50 : decode cX7_sees 50 = .ok (.ireturn, 1) := by decide +kernel
theorem dX7_forget_0 : decode cX7_forget 0 = .ok (.aload_n 0, 1) := by decide +kernel
theorem dX7_forget_1 : decode cX7_forget 1 = .ok (.getfield 123, 3) := by decide +kernel
theorem dX7_forget_4 : decode cX7_forget 4 = .ok (.istore_n 1, 1) := by decide +kernel
theorem dX7_forget_5 : decode cX7_forget 5 = .ok (.aload_n 0, 1) := by decide +kernel
theorem dX7_forget_6 : decode cX7_forget 6 = .ok (.iconst 0, 1) := by decide +kernel
theorem dX7_forget_7 : decode cX7_forget 7 = .ok (.putfield 123, 3) := by decide +kernel
theorem dX7_forget_10 : decode cX7_forget 10 = .ok (.iload_n 1, 1) := by decide +kernel
theorem dX7_forget_11 : decode cX7_forget 11 = .ok (.ireturn, 1) := by decide +kernel
theorem dX7_isUnseen_0 : decode cX7_isUnseen 0 = .ok (.aload_n 0, 1) := by decide +kernel
theorem dX7_isUnseen_1 : decode cX7_isUnseen 1 = .ok (.iload_n 1, 1) := by decide +kernel
theorem dX7_isUnseen_2 : decode cX7_isUnseen 2 = .ok (.iload_n 2, 1) := by decide +kernel
theorem dX7_isUnseen_3 : decode cX7_isUnseen 3 = .ok (.invokevirtual 138, 3) := by decide +kernel
theorem dX7_isUnseen_6 : decode cX7_isUnseen 6 = .ok (.istore_n 3, 1) := by decide +kernel
theorem dX7_isUnseen_7 : decode cX7_isUnseen 7 = .ok (.iload_n 3, 1) := by decide +kernel
theorem dX7_isUnseen_8 : decode cX7_isUnseen 8 = .ok (.ifCond .eq 68, 3) := by decide +kernel
theorem dX7_isUnseen_11 : decode cX7_isUnseen 11 = .ok (.aload_n 0, 1) := by decide +kernel
theorem dX7_isUnseen_12 : decode cX7_isUnseen 12 = .ok (.bipush 6, 2) := by decide +kernel
theorem dX7_isUnseen_14 : decode cX7_isUnseen 14 = .ok (.iload_n 1, 1) := by decide +kernel
theorem dX7_isUnseen_15 : decode cX7_isUnseen 15 = .ok (.imul, 1) := by decide +kernel
theorem dX7_isUnseen_16 : decode cX7_isUnseen 16 = .ok (.iload_n 2, 1) := by decide +kernel
theorem dX7_isUnseen_17 : decode cX7_isUnseen 17 = .ok (.iadd, 1) := by decide +kernel
theorem dX7_isUnseen_18 : decode cX7_isUnseen 18 = .ok (.putfield 38, 3) := by decide +kernel
theorem dX7_isUnseen_21 : decode cX7_isUnseen 21 = .ok (.aload_n 0, 1) := by decide +kernel
theorem dX7_isUnseen_22 : decode cX7_isUnseen 22 = .ok (.invokevirtual 182, 3) := by decide +kernel
theorem dX7_isUnseen_25 : decode cX7_isUnseen 25 = .ok (.invokestatic 189, 3) := by decide +kernel
theorem dX7_isUnseen_28 : decode cX7_isUnseen 28 = .ok (.istore 4, 2) := by decide +kernel
theorem dX7_isUnseen_30 : decode cX7_isUnseen 30 = .ok (.aload_n 0, 1) := by decide +kernel
theorem dX7_isUnseen_31 : decode cX7_isUnseen 31 = .ok (.bipush (-9), 2) := by decide +kernel
theorem dX7_isUnseen_33 : decode cX7_isUnseen 33 = .ok (.putfield 38, 3) := by decide +kernel
theorem dX7_isUnseen_36 : decode cX7_isUnseen 36 = .ok (.iconst 0, 1) := by decide +kernel
theorem dX7_isUnseen_37 : decode cX7_isUnseen 37 = .ok (.istore 5, 2) := by decide +kernel
theorem dX7_isUnseen_39 : decode cX7_isUnseen 39 = .ok (.iload 5, 2) := by decide +kernel
theorem dX7_isUnseen_41 : decode cX7_isUnseen 41 = .ok (.aload_n 0, 1) := by decide +kernel
theorem dX7_isUnseen_42 : decode cX7_isUnseen 42 = .ok (.getfield 123, 3) := by decide +kernel
theorem dX7_isUnseen_45 : decode cX7_isUnseen 45 = .ok (.if_icmp .ge 31, 3) := by decide +kernel
theorem dX7_isUnseen_48 : decode cX7_isUnseen 48 = .ok (.iload_n 3, 1) := by decide +kernel
theorem dX7_isUnseen_49 : decode cX7_isUnseen 49 = .ok (.ifCond .eq 19, 3) := by decide +kernel
theorem dX7_isUnseen_52 : decode cX7_isUnseen 52 = .ok (.aload_n 0, 1) := by decide +kernel
theorem dX7_isUnseen_53 : decode cX7_isUnseen 53 = .ok (.getfield 17, 3) := by decide +kernel
theorem dX7_isUnseen_56 : decode cX7_isUnseen 56 = .ok (.iload 5, 2) := by decide +kernel
theorem dX7_isUnseen_58 : decode cX7_isUnseen 58 = .ok (.iaload, 1) := by decide +kernel
theorem dX7_isUnseen_59 : decode cX7_isUnseen 59 = .ok (.iload 4, 2) := by decide +kernel
theorem dX7_isUnseen_61 : decode cX7_isUnseen 61 = .ok (.if_icmp .ne 7, 3) := by decide +kernel
theorem dX7_isUnseen_64 : decode cX7_isUnseen 64 = .ok (.iconst 1, 1) := by decide +kernel
theorem dX7_isUnseen_65 : decode cX7_isUnseen 65 = .ok (.goto 4, 3) := by decide +kernel
theorem dX7_isUnseen_68 : decode cX7_isUnseen 68 = .ok (.iconst 0, 1) := by decide +kernel
theorem dX7_isUnseen_69 : decode cX7_isUnseen 69 = .ok (.istore_n 3, 1) := by decide +kernel
theorem dX7_isUnseen_70 : decode cX7_isUnseen 70 = .ok (.iinc 5 1, 3) := by decide +kernel
theorem dX7_isUnseen_73 : decode cX7_isUnseen 73 = .ok (.goto (-34), 3) := by decide +kernel
theorem dX7_isUnseen_76 : decode cX7_isUnseen 76 = .ok (.iload_n 3, 1) := by decide +kernel
theorem dX7_isUnseen_77 : decode cX7_isUnseen 77 = .ok (.ireturn, 1) := by decide +kernel
theorem dX7_unseen_0 : decode cX7_unseen 0 = .ok (.iload_n 1, 1) := by decide +kernel
theorem dX7_unseen_1 : decode cX7_unseen 1 = .ok (.i2l, 1) := by decide +kernel
theorem dX7_unseen_2 : decode cX7_unseen 2 = .ok (.lconst 0, 1) := by decide +kernel
theorem dX7_unseen_3 : decode cX7_unseen 3 = .ok (.lconst 1, 1) := by decide +kernel
theorem dX7_unseen_4 : decode cX7_unseen 4 = .ok (.invokestatic 62, 3) := by decide +kernel
theorem dX7_unseen_7 : decode cX7_unseen 7 = .ok (.ifCond .ne 5, 3) := by decide +kernel
theorem dX7_unseen_10 : decode cX7_unseen 10 = .ok (.iconst (-1), 1) := by decide +kernel
theorem dX7_unseen_11 : decode cX7_unseen 11 = .ok (.ireturn, 1) := by decide +kernel
theorem dX7_unseen_12 : decode cX7_unseen 12 = .ok (.iconst 0, 1) := by decide +kernel
theorem dX7_unseen_13 : decode cX7_unseen 13 = .ok (.istore_n 2, 1) := by decide +kernel
theorem dX7_unseen_14 : decode cX7_unseen 14 = .ok (.bipush (-9), 2) := by decide +kernel
theorem dX7_unseen_16 : decode cX7_unseen 16 = .ok (.istore_n 3, 1) := by decide +kernel
theorem dX7_unseen_17 : decode cX7_unseen 17 = .ok (.bipush 23, 2) := by decide +kernel
theorem dX7_unseen_19 : decode cX7_unseen 19 = .ok (.istore 4, 2) := by decide +kernel
theorem dX7_unseen_21 : decode cX7_unseen 21 = .ok (.iload 4, 2) := by decide +kernel
theorem dX7_unseen_23 : decode cX7_unseen 23 = .ok (.ifCond .lt 44, 3) := by decide +kernel
theorem dX7_unseen_26 : decode cX7_unseen 26 = .ok (.aload_n 0, 1) := by decide +kernel
theorem dX7_unseen_27 : decode cX7_unseen 27 = .ok (.iload 4, 2) := by decide +kernel
theorem dX7_unseen_29 : decode cX7_unseen 29 = .ok (.bipush 6, 2) := by decide +kernel
theorem dX7_unseen_31 : decode cX7_unseen 31 = .ok (.idiv, 1) := by decide +kernel
theorem dX7_unseen_32 : decode cX7_unseen 32 = .ok (.iload 4, 2) := by decide +kernel
theorem dX7_unseen_34 : decode cX7_unseen 34 = .ok (.bipush 6, 2) := by decide +kernel
theorem dX7_unseen_36 : decode cX7_unseen 36 = .ok (.irem, 1) := by decide +kernel
theorem dX7_unseen_37 : decode cX7_unseen 37 = .ok (.invokevirtual 217, 3) := by decide +kernel
theorem dX7_unseen_40 : decode cX7_unseen 40 = .ok (.ifCond .eq 21, 3) := by decide +kernel
theorem dX7_unseen_43 : decode cX7_unseen 43 = .ok (.iinc 2 1, 3) := by decide +kernel
theorem dX7_unseen_46 : decode cX7_unseen 46 = .ok (.iload 4, 2) := by decide +kernel
theorem dX7_unseen_48 : decode cX7_unseen 48 = .ok (.bipush 6, 2) := by decide +kernel
theorem dX7_unseen_50 : decode cX7_unseen 50 = .ok (.idiv, 1) := by decide +kernel
theorem dX7_unseen_51 : decode cX7_unseen 51 = .ok (.bipush 10, 2) := by decide +kernel
theorem dX7_unseen_53 : decode cX7_unseen 53 = .ok (.imul, 1) := by decide +kernel
theorem dX7_unseen_54 : decode cX7_unseen 54 = .ok (.iload 4, 2) := by decide +kernel
theorem dX7_unseen_56 : decode cX7_unseen 56 = .ok (.bipush 6, 2) := by decide +kernel
theorem dX7_unseen_58 : decode cX7_unseen 58 = .ok (.irem, 1) := by decide +kernel
theorem dX7_unseen_59 : decode cX7_unseen 59 = .ok (.iadd, 1) := by decide +kernel
theorem dX7_unseen_60 : decode cX7_unseen 60 = .ok (.istore_n 3, 1) := by decide +kernel
theorem dX7_unseen_61 : decode cX7_unseen 61 = .ok (.iinc 4 (-1), 3) := by decide +kernel
theorem dX7_unseen_64 : decode cX7_unseen 64 = .ok (.goto (-43), 3) := by decide +kernel
theorem dX7_unseen_67 : decode cX7_unseen 67 = .ok (.iload_n 1, 1) := by decide +kernel
theorem dX7_unseen_68 : decode cX7_unseen 68 = .ok (.ifCond .ne 7, 3) := by decide +kernel
theorem dX7_unseen_71 : decode cX7_unseen 71 = .ok (.iload_n 2, 1) := by decide +kernel
theorem dX7_unseen_72 : decode cX7_unseen 72 = .ok (.goto 4, 3) := by decide +kernel
theorem dX7_unseen_75 : decode cX7_unseen 75 = .ok (.iload_n 3, 1) := by decide +kernel
theorem dX7_unseen_76 : decode cX7_unseen 76 = .ok (.ireturn, 1) := by decide +kernel
theorem dX7_keep_0 : decode cX7_keep 0 = .ok (.iload_n 1, 1) := by decide +kernel
theorem dX7_keep_1 : decode cX7_keep 1 = .ok (.i2l, 1) := by decide +kernel
theorem dX7_keep_2 : decode cX7_keep 2 = .ok (.lconst 0, 1) := by decide +kernel
theorem dX7_keep_3 : decode cX7_keep 3 = .ok (.lconst 1, 1) := by decide +kernel
theorem dX7_keep_4 : decode cX7_keep 4 = .ok (.invokestatic 62, 3) := by decide +kernel
theorem dX7_keep_7 : decode cX7_keep 7 = .ok (.ifCond .ne 5, 3) := by decide +kernel
theorem dX7_keep_10 : decode cX7_keep 10 = .ok (.iconst (-1), 1) := by decide +kernel
theorem dX7_keep_11 : decode cX7_keep 11 = .ok (.ireturn, 1) := by decide +kernel
theorem dX7_keep_12 : decode cX7_keep 12 = .ok (.aload_n 0, 1) := by decide +kernel
theorem dX7_keep_13 : decode cX7_keep 13 = .ok (.iconst 0, 1) := by decide +kernel
theorem dX7_keep_14 : decode cX7_keep 14 = .ok (.bipush 49, 2) := by decide +kernel
theorem dX7_keep_16 : decode cX7_keep 16 = .ok (.bipush 49, 2) := by decide +kernel
theorem dX7_keep_18 : decode cX7_keep 18 = .ok (.iload_n 1, 1) := by decide +kernel
theorem dX7_keep_19 : decode cX7_keep 19 = .ok (.imul, 1) := by decide +kernel
theorem dX7_keep_20 : decode cX7_keep 20 = .ok (.iadd, 1) := by decide +kernel
theorem dX7_keep_21 : decode cX7_keep 21 = .ok (.invokevirtual 54, 3) := by decide +kernel
theorem dX7_keep_24 : decode cX7_keep 24 = .ok (.aload_n 0, 1) := by decide +kernel
theorem dX7_keep_25 : decode cX7_keep 25 = .ok (.getfield 13, 3) := by decide +kernel
theorem dX7_keep_28 : decode cX7_keep 28 = .ok (.iload_n 1, 1) := by decide +kernel
theorem dX7_keep_29 : decode cX7_keep 29 = .ok (.iconst 1, 1) := by decide +kernel
theorem dX7_keep_30 : decode cX7_keep 30 = .ok (.bastore, 1) := by decide +kernel
theorem dX7_keep_31 : decode cX7_keep 31 = .ok (.aload_n 0, 1) := by decide +kernel
theorem dX7_keep_32 : decode cX7_keep 32 = .ok (.getfield 120, 3) := by decide +kernel
theorem dX7_keep_35 : decode cX7_keep 35 = .ok (.ireturn, 1) := by decide +kernel
theorem dX7_back_0 : decode cX7_back 0 = .ok (.iload_n 1, 1) := by decide +kernel
theorem dX7_back_1 : decode cX7_back 1 = .ok (.i2l, 1) := by decide +kernel
theorem dX7_back_2 : decode cX7_back 2 = .ok (.lconst 0, 1) := by decide +kernel
theorem dX7_back_3 : decode cX7_back 3 = .ok (.lconst 1, 1) := by decide +kernel
theorem dX7_back_4 : decode cX7_back 4 = .ok (.invokestatic 62, 3) := by decide +kernel
theorem dX7_back_7 : decode cX7_back 7 = .ok (.ifCond .ne 5, 3) := by decide +kernel
theorem dX7_back_10 : decode cX7_back 10 = .ok (.iconst (-1), 1) := by decide +kernel
theorem dX7_back_11 : decode cX7_back 11 = .ok (.ireturn, 1) := by decide +kernel
theorem dX7_back_12 : decode cX7_back 12 = .ok (.aload_n 0, 1) := by decide +kernel
theorem dX7_back_13 : decode cX7_back 13 = .ok (.getfield 13, 3) := by decide +kernel
theorem dX7_back_16 : decode cX7_back 16 = .ok (.iload_n 1, 1) := by decide +kernel
theorem dX7_back_17 : decode cX7_back 17 = .ok (.baload, 1) := by decide +kernel
theorem dX7_back_18 : decode cX7_back 18 = .ok (.ifCond .ne 6, 3) := by decide +kernel
theorem dX7_back_21 : decode cX7_back 21 = .ok (.bipush (-2), 2) := by decide +kernel
theorem dX7_back_23 : decode cX7_back 23 = .ok (.ireturn, 1) := by decide +kernel
theorem dX7_back_24 : decode cX7_back 24 = .ok (.aload_n 0, 1) := by decide +kernel
theorem dX7_back_25 : decode cX7_back 25 = .ok (.bipush 49, 2) := by decide +kernel
theorem dX7_back_27 : decode cX7_back 27 = .ok (.bipush 49, 2) := by decide +kernel
theorem dX7_back_29 : decode cX7_back 29 = .ok (.iload_n 1, 1) := by decide +kernel
theorem dX7_back_30 : decode cX7_back 30 = .ok (.imul, 1) := by decide +kernel
theorem dX7_back_31 : decode cX7_back 31 = .ok (.iadd, 1) := by decide +kernel
theorem dX7_back_32 : decode cX7_back 32 = .ok (.iconst 0, 1) := by decide +kernel
theorem dX7_back_33 : decode cX7_back 33 = .ok (.invokevirtual 54, 3) := by decide +kernel
theorem dX7_back_36 : decode cX7_back 36 = .ok (.aload_n 0, 1) := by decide +kernel
theorem dX7_back_37 : decode cX7_back 37 = .ok (.iconst 0, 1) := by decide +kernel
theorem dX7_back_38 : decode cX7_back 38 = .ok (.putfield 51, 3) := by decide +kernel
theorem dX7_back_41 : decode cX7_back 41 = .ok (.aload_n 0, 1) := by decide +kernel
theorem dX7_back_42 : decode cX7_back 42 = .ok (.getfield 120, 3) := by decide +kernel
theorem dX7_back_45 : decode cX7_back 45 = .ok (.ireturn, 1) := by decide +kernel
theorem dX7_entries_0 : decode cX7_entries 0 = .ok (.iconst 0, 1) := by decide +kernel
theorem dX7_entries_1 : decode cX7_entries 1 = .ok (.istore_n 1, 1) := by decide +kernel
theorem dX7_entries_2 : decode cX7_entries 2 = .ok (.iconst 0, 1) := by decide +kernel
theorem dX7_entries_3 : decode cX7_entries 3 = .ok (.istore_n 2, 1) := by decide +kernel
theorem dX7_entries_4 : decode cX7_entries 4 = .ok (.iload_n 2, 1) := by decide +kernel
theorem dX7_entries_5 : decode cX7_entries 5 = .ok (.aload_n 0, 1) := by decide +kernel
theorem dX7_entries_6 : decode cX7_entries 6 = .ok (.getfield 120, 3) := by decide +kernel
theorem dX7_entries_9 : decode cX7_entries 9 = .ok (.if_icmp .ge 17, 3) := by decide +kernel
theorem dX7_entries_12 : decode cX7_entries 12 = .ok (.iload_n 1, 1) := by decide +kernel
theorem dX7_entries_13 : decode cX7_entries 13 = .ok (.aload_n 0, 1) := by decide +kernel
theorem dX7_entries_14 : decode cX7_entries 14 = .ok (.iload_n 2, 1) := by decide +kernel
theorem dX7_entries_15 : decode cX7_entries 15 = .ok (.invokevirtual 186, 3) := by decide +kernel
theorem dX7_entries_18 : decode cX7_entries 18 = .ok (.iadd, 1) := by decide +kernel
theorem dX7_entries_19 : decode cX7_entries 19 = .ok (.istore_n 1, 1) := by decide +kernel
theorem dX7_entries_20 : decode cX7_entries 20 = .ok (.iinc 2 1, 3) := by decide +kernel
theorem dX7_entries_23 : decode cX7_entries 23 = .ok (.goto (-19), 3) := by decide +kernel
theorem dX7_entries_26 : decode cX7_entries 26 = .ok (.iload_n 1, 1) := by decide +kernel
theorem dX7_entries_27 : decode cX7_entries 27 = .ok (.ireturn, 1) := by decide +kernel
theorem dX7_events_0 : decode cX7_events 0 = .ok (.iconst 0, 1) := by decide +kernel
theorem dX7_events_1 : decode cX7_events 1 = .ok (.istore_n 1, 1) := by decide +kernel
theorem dX7_events_2 : decode cX7_events 2 = .ok (.iconst 0, 1) := by decide +kernel
theorem dX7_events_3 : decode cX7_events 3 = .ok (.istore_n 2, 1) := by decide +kernel
theorem dX7_events_4 : decode cX7_events 4 = .ok (.iload_n 2, 1) := by decide +kernel
theorem dX7_events_5 : decode cX7_events 5 = .ok (.bipush 8, 2) := by decide +kernel
theorem dX7_events_7 : decode cX7_events 7 = .ok (.if_icmp .ge 25, 3) := by decide +kernel
theorem dX7_events_10 : decode cX7_events 10 = .ok (.iload_n 1, 1) := by decide +kernel
theorem dX7_events_11 : decode cX7_events 11 = .ok (.aload_n 0, 1) := by decide +kernel
theorem dX7_events_12 : decode cX7_events 12 = .ok (.iload_n 2, 1) := by decide +kernel
theorem dX7_events_13 : decode cX7_events 13 = .ok (.invokevirtual 179, 3) := by decide +kernel
theorem dX7_events_16 : decode cX7_events 16 = .ok (.ifCond .eq 7, 3) := by decide +kernel
theorem dX7_events_19 : decode cX7_events 19 = .ok (.iconst 1, 1) := by decide +kernel
theorem dX7_events_20 : decode cX7_events 20 = .ok (.goto 4, 3) := by decide +kernel
theorem dX7_events_23 : decode cX7_events 23 = .ok (.iconst 0, 1) := by decide +kernel
theorem dX7_events_24 : decode cX7_events 24 = .ok (.iadd, 1) := by decide +kernel
theorem dX7_events_25 : decode cX7_events 25 = .ok (.istore_n 1, 1) := by decide +kernel
theorem dX7_events_26 : decode cX7_events 26 = .ok (.iinc 2 1, 3) := by decide +kernel
theorem dX7_events_29 : decode cX7_events 29 = .ok (.goto (-25), 3) := by decide +kernel
theorem dX7_events_32 : decode cX7_events 32 = .ok (.iload_n 1, 1) := by decide +kernel
theorem dX7_events_33 : decode cX7_events 33 = .ok (.ireturn, 1) := by decide +kernel
theorem dX7_count_0 : decode cX7_count 0 = .ok (.iload_n 1, 1) := by decide +kernel
theorem dX7_count_1 : decode cX7_count 1 = .ok (.tableswitch 92 0 7 #[47, 52, 57, 62, 70, 77, 82, 87], 47) := by decide +kernel
theorem dX7_count_48 : decode cX7_count 48 = .ok (.aload_n 0, 1) := by decide +kernel
theorem dX7_count_49 : decode cX7_count 49 = .ok (.getfield 120, 3) := by decide +kernel
theorem dX7_count_52 : decode cX7_count 52 = .ok (.ireturn, 1) := by decide +kernel
theorem dX7_count_53 : decode cX7_count 53 = .ok (.aload_n 0, 1) := by decide +kernel
theorem dX7_count_54 : decode cX7_count 54 = .ok (.invokevirtual 220, 3) := by decide +kernel
theorem dX7_count_57 : decode cX7_count 57 = .ok (.ireturn, 1) := by decide +kernel
theorem dX7_count_58 : decode cX7_count 58 = .ok (.aload_n 0, 1) := by decide +kernel
theorem dX7_count_59 : decode cX7_count 59 = .ok (.invokevirtual 223, 3) := by decide +kernel
theorem dX7_count_62 : decode cX7_count 62 = .ok (.ireturn, 1) := by decide +kernel
theorem dX7_count_63 : decode cX7_count 63 = .ok (.aload_n 0, 1) := by decide +kernel
theorem dX7_count_64 : decode cX7_count 64 = .ok (.invokevirtual 182, 3) := by decide +kernel
theorem dX7_count_67 : decode cX7_count 67 = .ok (.invokestatic 189, 3) := by decide +kernel
theorem dX7_count_70 : decode cX7_count 70 = .ok (.ireturn, 1) := by decide +kernel
theorem dX7_count_71 : decode cX7_count 71 = .ok (.aload_n 0, 1) := by decide +kernel
theorem dX7_count_72 : decode cX7_count 72 = .ok (.getfield 7, 3) := by decide +kernel
theorem dX7_count_75 : decode cX7_count 75 = .ok (.iconst 0, 1) := by decide +kernel
theorem dX7_count_76 : decode cX7_count 76 = .ok (.iaload, 1) := by decide +kernel
theorem dX7_count_77 : decode cX7_count 77 = .ok (.ireturn, 1) := by decide +kernel
theorem dX7_count_78 : decode cX7_count 78 = .ok (.aload_n 0, 1) := by decide +kernel
theorem dX7_count_79 : decode cX7_count 79 = .ok (.getfield 123, 3) := by decide +kernel
theorem dX7_count_82 : decode cX7_count 82 = .ok (.ireturn, 1) := by decide +kernel
theorem dX7_count_83 : decode cX7_count 83 = .ok (.aload_n 0, 1) := by decide +kernel
theorem dX7_count_84 : decode cX7_count 84 = .ok (.getfield 69, 3) := by decide +kernel
theorem dX7_count_87 : decode cX7_count 87 = .ok (.ireturn, 1) := by decide +kernel
theorem dX7_count_88 : decode cX7_count 88 = .ok (.aload_n 0, 1) := by decide +kernel
theorem dX7_count_89 : decode cX7_count 89 = .ok (.getfield 51, 3) := by decide +kernel
theorem dX7_count_92 : decode cX7_count 92 = .ok (.ireturn, 1) := by decide +kernel
theorem dX7_count_93 : decode cX7_count 93 = .ok (.iconst (-1), 1) := by decide +kernel
theorem dX7_count_94 : decode cX7_count 94 = .ok (.ireturn, 1) := by decide +kernel
theorem dJ6_bitCount_0f7a4_0 : decode cJ6_bitCount_0f7a4 0 = .ok (.iload_n 0, 1) := by decide +kernel
theorem dJ6_bitCount_0f7a4_1 : decode cJ6_bitCount_0f7a4 1 = .ok (.iload_n 0, 1) := by decide +kernel
theorem dJ6_bitCount_0f7a4_2 : decode cJ6_bitCount_0f7a4 2 = .ok (.iconst 1, 1) := by decide +kernel
theorem dJ6_bitCount_0f7a4_3 : decode cJ6_bitCount_0f7a4 3 = .ok (.iushr, 1) := by decide +kernel
theorem dJ6_bitCount_0f7a4_4 : decode cJ6_bitCount_0f7a4 4 = .ok (.ldc_w 265, 3) := by decide +kernel
theorem dJ6_bitCount_0f7a4_7 : decode cJ6_bitCount_0f7a4 7 = .ok (.iand, 1) := by decide +kernel
theorem dJ6_bitCount_0f7a4_8 : decode cJ6_bitCount_0f7a4 8 = .ok (.isub, 1) := by decide +kernel
theorem dJ6_bitCount_0f7a4_9 : decode cJ6_bitCount_0f7a4 9 = .ok (.istore_n 0, 1) := by decide +kernel
theorem dJ6_bitCount_0f7a4_10 : decode cJ6_bitCount_0f7a4 10 = .ok (.iload_n 0, 1) := by decide +kernel
theorem dJ6_bitCount_0f7a4_11 : decode cJ6_bitCount_0f7a4 11 = .ok (.ldc_w 266, 3) := by decide +kernel
theorem dJ6_bitCount_0f7a4_14 : decode cJ6_bitCount_0f7a4 14 = .ok (.iand, 1) := by decide +kernel
theorem dJ6_bitCount_0f7a4_15 : decode cJ6_bitCount_0f7a4 15 = .ok (.iload_n 0, 1) := by decide +kernel
theorem dJ6_bitCount_0f7a4_16 : decode cJ6_bitCount_0f7a4 16 = .ok (.iconst 2, 1) := by decide +kernel
theorem dJ6_bitCount_0f7a4_17 : decode cJ6_bitCount_0f7a4 17 = .ok (.iushr, 1) := by decide +kernel
theorem dJ6_bitCount_0f7a4_18 : decode cJ6_bitCount_0f7a4 18 = .ok (.ldc_w 266, 3) := by decide +kernel
theorem dJ6_bitCount_0f7a4_21 : decode cJ6_bitCount_0f7a4 21 = .ok (.iand, 1) := by decide +kernel
theorem dJ6_bitCount_0f7a4_22 : decode cJ6_bitCount_0f7a4 22 = .ok (.iadd, 1) := by decide +kernel
theorem dJ6_bitCount_0f7a4_23 : decode cJ6_bitCount_0f7a4 23 = .ok (.istore_n 0, 1) := by decide +kernel
theorem dJ6_bitCount_0f7a4_24 : decode cJ6_bitCount_0f7a4 24 = .ok (.iload_n 0, 1) := by decide +kernel
theorem dJ6_bitCount_0f7a4_25 : decode cJ6_bitCount_0f7a4 25 = .ok (.iload_n 0, 1) := by decide +kernel
theorem dJ6_bitCount_0f7a4_26 : decode cJ6_bitCount_0f7a4 26 = .ok (.iconst 4, 1) := by decide +kernel
theorem dJ6_bitCount_0f7a4_27 : decode cJ6_bitCount_0f7a4 27 = .ok (.iushr, 1) := by decide +kernel
theorem dJ6_bitCount_0f7a4_28 : decode cJ6_bitCount_0f7a4 28 = .ok (.iadd, 1) := by decide +kernel
theorem dJ6_bitCount_0f7a4_29 : decode cJ6_bitCount_0f7a4 29 = .ok (.ldc_w 267, 3) := by decide +kernel
theorem dJ6_bitCount_0f7a4_32 : decode cJ6_bitCount_0f7a4 32 = .ok (.iand, 1) := by decide +kernel
theorem dJ6_bitCount_0f7a4_33 : decode cJ6_bitCount_0f7a4 33 = .ok (.istore_n 0, 1) := by decide +kernel
theorem dJ6_bitCount_0f7a4_34 : decode cJ6_bitCount_0f7a4 34 = .ok (.iload_n 0, 1) := by decide +kernel
theorem dJ6_bitCount_0f7a4_35 : decode cJ6_bitCount_0f7a4 35 = .ok (.iload_n 0, 1) := by decide +kernel
theorem dJ6_bitCount_0f7a4_36 : decode cJ6_bitCount_0f7a4 36 = .ok (.bipush 8, 2) := by decide +kernel
theorem dJ6_bitCount_0f7a4_38 : decode cJ6_bitCount_0f7a4 38 = .ok (.iushr, 1) := by decide +kernel
theorem dJ6_bitCount_0f7a4_39 : decode cJ6_bitCount_0f7a4 39 = .ok (.iadd, 1) := by decide +kernel
theorem dJ6_bitCount_0f7a4_40 : decode cJ6_bitCount_0f7a4 40 = .ok (.istore_n 0, 1) := by decide +kernel
theorem dJ6_bitCount_0f7a4_41 : decode cJ6_bitCount_0f7a4 41 = .ok (.iload_n 0, 1) := by decide +kernel
theorem dJ6_bitCount_0f7a4_42 : decode cJ6_bitCount_0f7a4 42 = .ok (.iload_n 0, 1) := by decide +kernel
theorem dJ6_bitCount_0f7a4_43 : decode cJ6_bitCount_0f7a4 43 = .ok (.bipush 16, 2) := by decide +kernel
theorem dJ6_bitCount_0f7a4_45 : decode cJ6_bitCount_0f7a4 45 = .ok (.iushr, 1) := by decide +kernel
theorem dJ6_bitCount_0f7a4_46 : decode cJ6_bitCount_0f7a4 46 = .ok (.iadd, 1) := by decide +kernel
theorem dJ6_bitCount_0f7a4_47 : decode cJ6_bitCount_0f7a4 47 = .ok (.istore_n 0, 1) := by decide +kernel
theorem dJ6_bitCount_0f7a4_48 : decode cJ6_bitCount_0f7a4 48 = .ok (.iload_n 0, 1) := by decide +kernel
theorem dJ6_bitCount_0f7a4_49 : decode cJ6_bitCount_0f7a4 49 = .ok (.bipush 63, 2) := by decide +kernel
theorem dJ6_bitCount_0f7a4_51 : decode cJ6_bitCount_0f7a4 51 = .ok (.iand, 1) := by decide +kernel
theorem dJ6_bitCount_0f7a4_52 : decode cJ6_bitCount_0f7a4 52 = .ok (.ireturn, 1) := by decide +kernel
theorem dJ9_abs_0f7a4_0 : decode cJ9_abs_0f7a4 0 = .ok (.iload_n 0, 1) := by decide +kernel
theorem dJ9_abs_0f7a4_1 : decode cJ9_abs_0f7a4 1 = .ok (.ifCond .ge 8, 3) := by decide +kernel
theorem dJ9_abs_0f7a4_4 : decode cJ9_abs_0f7a4 4 = .ok (.iload_n 0, 1) := by decide +kernel
theorem dJ9_abs_0f7a4_5 : decode cJ9_abs_0f7a4 5 = .ok (.ineg, 1) := by decide +kernel
theorem dJ9_abs_0f7a4_6 : decode cJ9_abs_0f7a4 6 = .ok (.goto 4, 3) := by decide +kernel
theorem dJ9_abs_0f7a4_9 : decode cJ9_abs_0f7a4 9 = .ok (.iload_n 0, 1) := by decide +kernel
theorem dJ9_abs_0f7a4_10 : decode cJ9_abs_0f7a4 10 = .ok (.ireturn, 1) := by decide +kernel
theorem dJ9_max_7cf53_0 : decode cJ9_max_7cf53 0 = .ok (.iload_n 0, 1) := by decide +kernel
theorem dJ9_max_7cf53_1 : decode cJ9_max_7cf53 1 = .ok (.iload_n 1, 1) := by decide +kernel
theorem dJ9_max_7cf53_2 : decode cJ9_max_7cf53 2 = .ok (.if_icmp .lt 7, 3) := by decide +kernel
theorem dJ9_max_7cf53_5 : decode cJ9_max_7cf53 5 = .ok (.iload_n 0, 1) := by decide +kernel
theorem dJ9_max_7cf53_6 : decode cJ9_max_7cf53 6 = .ok (.goto 4, 3) := by decide +kernel
theorem dJ9_max_7cf53_9 : decode cJ9_max_7cf53 9 = .ok (.iload_n 1, 1) := by decide +kernel
theorem dJ9_max_7cf53_10 : decode cJ9_max_7cf53 10 = .ok (.ireturn, 1) := by decide +kernel
theorem dJ9_min_7cf53_0 : decode cJ9_min_7cf53 0 = .ok (.iload_n 0, 1) := by decide +kernel
theorem dJ9_min_7cf53_1 : decode cJ9_min_7cf53 1 = .ok (.iload_n 1, 1) := by decide +kernel
theorem dJ9_min_7cf53_2 : decode cJ9_min_7cf53 2 = .ok (.if_icmp .gt 7, 3) := by decide +kernel
theorem dJ9_min_7cf53_5 : decode cJ9_min_7cf53 5 = .ok (.iload_n 0, 1) := by decide +kernel
theorem dJ9_min_7cf53_6 : decode cJ9_min_7cf53 6 = .ok (.goto 4, 3) := by decide +kernel
theorem dJ9_min_7cf53_9 : decode cJ9_min_7cf53 9 = .ok (.iload_n 1, 1) := by decide +kernel
theorem dJ9_min_7cf53_10 : decode cJ9_min_7cf53 10 = .ok (.ireturn, 1) := by decide +kernel
