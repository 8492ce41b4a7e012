theorem dX4_join_0 : decode cX4_join 0 = .ok (.aload_n 0, 1) := by decide +kernel
theorem dX4_join_1 : decode cX4_join 1 = .ok (.iconst 0, 1) := by decide +kernel
theorem dX4_join_2 : decode cX4_join 2 = .ok (.putfield 18, 3) := by decide +kernel
theorem dX4_join_5 : decode cX4_join 5 = .ok (.iconst 0, 1) := by decide +kernel
theorem dX4_join_6 : decode cX4_join 6 = .ok (.istore_n 3, 1) := by decide +kernel
theorem dX4_join_7 : decode cX4_join 7 = .ok (.iload_n 3, 1) := by decide +kernel
theorem dX4_join_8 : decode cX4_join 8 = .ok (.aload_n 1, 1) := by decide +kernel
theorem dX4_join_9 : decode cX4_join 9 = .ok (.getfield 22, 3) := by decide +kernel
theorem dX4_join_12 : decode cX4_join 12 = .ok (.if_icmp .ge 86, 3) := by decide +kernel
theorem dX4_join_15 : decode cX4_join 15 = .ok (.aload_n 1, 1) := by decide +kernel
theorem dX4_join_16 : decode cX4_join 16 = .ok (.iload_n 3, 1) := by decide +kernel
theorem dX4_join_17 : decode cX4_join 17 = .ok (.invokevirtual 25, 3) := by decide +kernel
theorem dX4_join_20 : decode cX4_join 20 = .ok (.ifCond .eq 7, 3) := by decide +kernel
theorem dX4_join_23 : decode cX4_join 23 = .ok (.iconst (-1), 1) := by decide +kernel
theorem dX4_join_24 : decode cX4_join 24 = .ok (.goto 13, 3) := by decide +kernel
theorem dX4_join_27 : decode cX4_join 27 = .ok (.aload_n 2, 1) := by decide +kernel
theorem dX4_join_28 : decode cX4_join 28 = .ok (.aload_n 1, 1) := by decide +kernel
theorem dX4_join_29 : decode cX4_join 29 = .ok (.getfield 29, 3) := by decide +kernel
theorem dX4_join_32 : decode cX4_join 32 = .ok (.iload_n 3, 1) := by decide +kernel
theorem dX4_join_33 : decode cX4_join 33 = .ok (.iaload, 1) := by decide +kernel
theorem dX4_join_34 : decode cX4_join 34 = .ok (.invokevirtual 30, 3) := by decide +kernel
theorem dX4_join_37 : decode cX4_join 37 = .ok (.istore 4, 2) := by decide +kernel
theorem dX4_join_39 : decode cX4_join 39 = .ok (.iload 4, 2) := by decide +kernel
theorem dX4_join_41 : decode cX4_join 41 = .ok (.ifCond .lt 51, 3) := by decide +kernel
theorem dX4_join_44 : decode cX4_join 44 = .ok (.aload_n 0, 1) := by decide +kernel
theorem dX4_join_45 : decode cX4_join 45 = .ok (.getfield 9, 3) := by decide +kernel
theorem dX4_join_48 : decode cX4_join 48 = .ok (.aload_n 0, 1) := by decide +kernel
theorem dX4_join_49 : decode cX4_join 49 = .ok (.getfield 18, 3) := by decide +kernel
theorem dX4_join_52 : decode cX4_join 52 = .ok (.aload_n 1, 1) := by decide +kernel
theorem dX4_join_53 : decode cX4_join 53 = .ok (.getfield 29, 3) := by decide +kernel
theorem dX4_join_56 : decode cX4_join 56 = .ok (.iload_n 3, 1) := by decide +kernel
theorem dX4_join_57 : decode cX4_join 57 = .ok (.iaload, 1) := by decide +kernel
theorem dX4_join_58 : decode cX4_join 58 = .ok (.iastore, 1) := by decide +kernel
theorem dX4_join_59 : decode cX4_join 59 = .ok (.aload_n 0, 1) := by decide +kernel
theorem dX4_join_60 : decode cX4_join 60 = .ok (.getfield 15, 3) := by decide +kernel
theorem dX4_join_63 : decode cX4_join 63 = .ok (.aload_n 0, 1) := by decide +kernel
theorem dX4_join_64 : decode cX4_join 64 = .ok (.getfield 18, 3) := by decide +kernel
theorem dX4_join_67 : decode cX4_join 67 = .ok (.aload_n 2, 1) := by decide +kernel
theorem dX4_join_68 : decode cX4_join 68 = .ok (.getfield 34, 3) := by decide +kernel
theorem dX4_join_71 : decode cX4_join 71 = .ok (.iload 4, 2) := by decide +kernel
theorem dX4_join_73 : decode cX4_join 73 = .ok (.iaload, 1) := by decide +kernel
theorem dX4_join_74 : decode cX4_join 74 = .ok (.aload_n 1, 1) := by decide +kernel
theorem dX4_join_75 : decode cX4_join 75 = .ok (.getfield 34, 3) := by decide +kernel
theorem dX4_join_78 : decode cX4_join 78 = .ok (.iload_n 3, 1) := by decide +kernel
theorem dX4_join_79 : decode cX4_join 79 = .ok (.iaload, 1) := by decide +kernel
theorem dX4_join_80 : decode cX4_join 80 = .ok (.isub, 1) := by decide +kernel
theorem dX4_join_81 : decode cX4_join 81 = .ok (.iastore, 1) := by decide +kernel
theorem dX4_join_82 : decode cX4_join 82 = .ok (.aload_n 0, 1) := by decide +kernel
theorem dX4_join_83 : decode cX4_join 83 = .ok (.dup, 1) := by decide +kernel
theorem dX4_join_84 : decode cX4_join 84 = .ok (.getfield 18, 3) := by decide +kernel
theorem dX4_join_87 : decode cX4_join 87 = .ok (.iconst 1, 1) := by decide +kernel
theorem dX4_join_88 : decode cX4_join 88 = .ok (.iadd, 1) := by decide +kernel
theorem dX4_join_89 : decode cX4_join 89 = .ok (.putfield 18, 3) := by decide +kernel
theorem dX4_join_92 : decode cX4_join 92 = .ok (.iinc 3 1, 3) := by decide +kernel
theorem dX4_join_95 : decode cX4_join 95 = .ok (.goto (-88), 3) := by decide +kernel
theorem dX4_join_98 : decode cX4_join 98 = .ok (.return_, 1) := by decide +kernel
theorem dX4_spanEnd_0 : decode cX4_spanEnd 0 = .ok (.aload_n 0, 1) := by decide +kernel
theorem dX4_spanEnd_1 : decode cX4_spanEnd 1 = .ok (.getfield 15, 3) := by decide +kernel
theorem dX4_spanEnd_4 : decode cX4_spanEnd 4 = .ok (.iload_n 1, 1) := by decide +kernel
theorem dX4_spanEnd_5 : decode cX4_spanEnd 5 = .ok (.iaload, 1) := by decide +kernel
theorem dX4_spanEnd_6 : decode cX4_spanEnd 6 = .ok (.istore_n 3, 1) := by decide +kernel
theorem dX4_spanEnd_7 : decode cX4_spanEnd 7 = .ok (.aload_n 0, 1) := by decide +kernel
theorem dX4_spanEnd_8 : decode cX4_spanEnd 8 = .ok (.getfield 15, 3) := by decide +kernel
theorem dX4_spanEnd_11 : decode cX4_spanEnd 11 = .ok (.iload_n 1, 1) := by decide +kernel
theorem dX4_spanEnd_12 : decode cX4_spanEnd 12 = .ok (.iaload, 1) := by decide +kernel
theorem dX4_spanEnd_13 : decode cX4_spanEnd 13 = .ok (.istore 4, 2) := by decide +kernel
theorem dX4_spanEnd_15 : decode cX4_spanEnd 15 = .ok (.iload_n 1, 1) := by decide +kernel
theorem dX4_spanEnd_16 : decode cX4_spanEnd 16 = .ok (.iconst 1, 1) := by decide +kernel
theorem dX4_spanEnd_17 : decode cX4_spanEnd 17 = .ok (.iadd, 1) := by decide +kernel
theorem dX4_spanEnd_18 : decode cX4_spanEnd 18 = .ok (.istore 5, 2) := by decide +kernel
theorem dX4_spanEnd_20 : decode cX4_spanEnd 20 = .ok (.iload 5, 2) := by decide +kernel
theorem dX4_spanEnd_22 : decode cX4_spanEnd 22 = .ok (.aload_n 0, 1) := by decide +kernel
theorem dX4_spanEnd_23 : decode cX4_spanEnd 23 = .ok (.getfield 18, 3) := by decide +kernel
theorem dX4_spanEnd_26 : decode cX4_spanEnd 26 = .ok (.if_icmp .ge 46, 3) := by decide +kernel
theorem dX4_spanEnd_29 : decode cX4_spanEnd 29 = .ok (.iload_n 3, 1) := by decide +kernel
theorem dX4_spanEnd_30 : decode cX4_spanEnd 30 = .ok (.aload_n 0, 1) := by decide +kernel
theorem dX4_spanEnd_31 : decode cX4_spanEnd 31 = .ok (.getfield 15, 3) := by decide +kernel
theorem dX4_spanEnd_34 : decode cX4_spanEnd 34 = .ok (.iload 5, 2) := by decide +kernel
theorem dX4_spanEnd_36 : decode cX4_spanEnd 36 = .ok (.iaload, 1) := by decide +kernel
theorem dX4_spanEnd_37 : decode cX4_spanEnd 37 = .ok (.invokestatic 37, 3) := by decide +kernel
theorem dX4_spanEnd_40 : decode cX4_spanEnd 40 = .ok (.istore_n 3, 1) := by decide +kernel
theorem dX4_spanEnd_41 : decode cX4_spanEnd 41 = .ok (.iload 4, 2) := by decide +kernel
theorem dX4_spanEnd_43 : decode cX4_spanEnd 43 = .ok (.aload_n 0, 1) := by decide +kernel
theorem dX4_spanEnd_44 : decode cX4_spanEnd 44 = .ok (.getfield 15, 3) := by decide +kernel
theorem dX4_spanEnd_47 : decode cX4_spanEnd 47 = .ok (.iload 5, 2) := by decide +kernel
theorem dX4_spanEnd_49 : decode cX4_spanEnd 49 = .ok (.iaload, 1) := by decide +kernel
theorem dX4_spanEnd_50 : decode cX4_spanEnd 50 = .ok (.invokestatic 43, 3) := by decide +kernel
theorem dX4_spanEnd_53 : decode cX4_spanEnd 53 = .ok (.istore 4, 2) := by decide +kernel
theorem dX4_spanEnd_55 : decode cX4_spanEnd 55 = .ok (.iload 4, 2) := by decide +kernel
theorem dX4_spanEnd_57 : decode cX4_spanEnd 57 = .ok (.iload_n 3, 1) := by decide +kernel
theorem dX4_spanEnd_58 : decode cX4_spanEnd 58 = .ok (.isub, 1) := by decide +kernel
theorem dX4_spanEnd_59 : decode cX4_spanEnd 59 = .ok (.iload_n 2, 1) := by decide +kernel
theorem dX4_spanEnd_60 : decode cX4_spanEnd 60 = .ok (.if_icmp .le 6, 3) := by decide +kernel
theorem dX4_spanEnd_63 : decode cX4_spanEnd 63 = .ok (.iload 5, 2) := by decide +kernel
theorem dX4_spanEnd_65 : decode cX4_spanEnd 65 = .ok (.ireturn, 1) := by decide +kernel
theorem dX4_spanEnd_66 : decode cX4_spanEnd 66 = .ok (.iinc 5 1, 3) := by decide +kernel
theorem dX4_spanEnd_69 : decode cX4_spanEnd 69 = .ok (.goto (-49), 3) := by decide +kernel
theorem dX4_spanEnd_72 : decode cX4_spanEnd 72 = .ok (.aload_n 0, 1) := by decide +kernel
theorem dX4_spanEnd_73 : decode cX4_spanEnd 73 = .ok (.getfield 18, 3) := by decide +kernel
theorem dX4_spanEnd_76 : decode cX4_spanEnd 76 = .ok (.ireturn, 1) := by decide +kernel
theorem dX4_spans_0 : decode cX4_spans 0 = .ok (.iconst 0, 1) := by decide +kernel
theorem dX4_spans_1 : decode cX4_spans 1 = .ok (.istore_n 2, 1) := by decide +kernel
theorem dX4_spans_2 : decode cX4_spans 2 = .ok (.iconst 0, 1) := by decide +kernel
theorem dX4_spans_3 : decode cX4_spans 3 = .ok (.istore_n 3, 1) := by decide +kernel
theorem dX4_spans_4 : decode cX4_spans 4 = .ok (.iload_n 3, 1) := by decide +kernel
theorem dX4_spans_5 : decode cX4_spans 5 = .ok (.aload_n 0, 1) := by decide +kernel
theorem dX4_spans_6 : decode cX4_spans 6 = .ok (.getfield 18, 3) := by decide +kernel
theorem dX4_spans_9 : decode cX4_spans 9 = .ok (.if_icmp .ge 22, 3) := by decide +kernel
theorem dX4_spans_12 : decode cX4_spans 12 = .ok (.iload_n 2, 1) := by decide +kernel
theorem dX4_spans_13 : decode cX4_spans 13 = .ok (.bipush 6, 2) := by decide +kernel
theorem dX4_spans_15 : decode cX4_spans 15 = .ok (.if_icmp .ge 16, 3) := by decide +kernel
theorem dX4_spans_18 : decode cX4_spans 18 = .ok (.aload_n 0, 1) := by decide +kernel
theorem dX4_spans_19 : decode cX4_spans 19 = .ok (.iload_n 3, 1) := by decide +kernel
theorem dX4_spans_20 : decode cX4_spans 20 = .ok (.iload_n 1, 1) := by decide +kernel
theorem dX4_spans_21 : decode cX4_spans 21 = .ok (.invokevirtual 46, 3) := by decide +kernel
theorem dX4_spans_24 : decode cX4_spans 24 = .ok (.istore_n 3, 1) := by decide +kernel
theorem dX4_spans_25 : decode cX4_spans 25 = .ok (.iinc 2 1, 3) := by decide +kernel
theorem dX4_spans_28 : decode cX4_spans 28 = .ok (.goto (-24), 3) := by decide +kernel
theorem dX4_spans_31 : decode cX4_spans 31 = .ok (.iload_n 2, 1) := by decide +kernel
theorem dX4_spans_32 : decode cX4_spans 32 = .ok (.ireturn, 1) := by decide +kernel
theorem dX4_spanStart_0 : decode cX4_spanStart 0 = .ok (.iconst 0, 1) := by decide +kernel
theorem dX4_spanStart_1 : decode cX4_spanStart 1 = .ok (.istore_n 3, 1) := by decide +kernel
theorem dX4_spanStart_2 : decode cX4_spanStart 2 = .ok (.iconst 0, 1) := by decide +kernel
theorem dX4_spanStart_3 : decode cX4_spanStart 3 = .ok (.istore 4, 2) := by decide +kernel
theorem dX4_spanStart_5 : decode cX4_spanStart 5 = .ok (.iload 4, 2) := by decide +kernel
theorem dX4_spanStart_7 : decode cX4_spanStart 7 = .ok (.iload_n 1, 1) := by decide +kernel
theorem dX4_spanStart_8 : decode cX4_spanStart 8 = .ok (.if_icmp .ge 24, 3) := by decide +kernel
theorem dX4_spanStart_11 : decode cX4_spanStart 11 = .ok (.iload_n 3, 1) := by decide +kernel
theorem dX4_spanStart_12 : decode cX4_spanStart 12 = .ok (.aload_n 0, 1) := by decide +kernel
theorem dX4_spanStart_13 : decode cX4_spanStart 13 = .ok (.getfield 18, 3) := by decide +kernel
theorem dX4_spanStart_16 : decode cX4_spanStart 16 = .ok (.if_icmp .ge 16, 3) := by decide +kernel
theorem dX4_spanStart_19 : decode cX4_spanStart 19 = .ok (.aload_n 0, 1) := by decide +kernel
theorem dX4_spanStart_20 : decode cX4_spanStart 20 = .ok (.iload_n 3, 1) := by decide +kernel
theorem dX4_spanStart_21 : decode cX4_spanStart 21 = .ok (.iload_n 2, 1) := by decide +kernel
theorem dX4_spanStart_22 : decode cX4_spanStart 22 = .ok (.invokevirtual 46, 3) := by decide +kernel
theorem dX4_spanStart_25 : decode cX4_spanStart 25 = .ok (.istore_n 3, 1) := by decide +kernel
theorem dX4_spanStart_26 : decode cX4_spanStart 26 = .ok (.iinc 4 1, 3) := by decide +kernel
theorem dX4_spanStart_29 : decode cX4_spanStart 29 = .ok (.goto (-24), 3) := by decide +kernel
theorem dX4_spanStart_32 : decode cX4_spanStart 32 = .ok (.iload_n 3, 1) := by decide +kernel
theorem dX4_spanStart_33 : decode cX4_spanStart 33 = .ok (.ireturn, 1) := by decide +kernel
theorem dX4_leastOffset_0 : decode cX4_leastOffset 0 = .ok (.aload_n 0, 1) := by decide +kernel
theorem dX4_leastOffset_1 : decode cX4_leastOffset 1 = .ok (.getfield 15, 3) := by decide +kernel
theorem dX4_leastOffset_4 : decode cX4_leastOffset 4 = .ok (.iload_n 1, 1) := by decide +kernel
theorem dX4_leastOffset_5 : decode cX4_leastOffset 5 = .ok (.iaload, 1) := by decide +kernel
theorem dX4_leastOffset_6 : decode cX4_leastOffset 6 = .ok (.istore_n 3, 1) := by decide +kernel
theorem dX4_leastOffset_7 : decode cX4_leastOffset 7 = .ok (.iload_n 1, 1) := by decide +kernel
theorem dX4_leastOffset_8 : decode cX4_leastOffset 8 = .ok (.iconst 1, 1) := by decide +kernel
theorem dX4_leastOffset_9 : decode cX4_leastOffset 9 = .ok (.iadd, 1) := by decide +kernel
theorem dX4_leastOffset_10 : decode cX4_leastOffset 10 = .ok (.istore 4, 2) := by decide +kernel
theorem dX4_leastOffset_12 : decode cX4_leastOffset 12 = .ok (.iload 4, 2) := by decide +kernel
theorem dX4_leastOffset_14 : decode cX4_leastOffset 14 = .ok (.iload_n 2, 1) := by decide +kernel
theorem dX4_leastOffset_15 : decode cX4_leastOffset 15 = .ok (.if_icmp .ge 21, 3) := by decide +kernel
theorem dX4_leastOffset_18 : decode cX4_leastOffset 18 = .ok (.iload_n 3, 1) := by decide +kernel
theorem dX4_leastOffset_19 : decode cX4_leastOffset 19 = .ok (.aload_n 0, 1) := by decide +kernel
theorem dX4_leastOffset_20 : decode cX4_leastOffset 20 = .ok (.getfield 15, 3) := by decide +kernel
theorem dX4_leastOffset_23 : decode cX4_leastOffset 23 = .ok (.iload 4, 2) := by decide +kernel
theorem dX4_leastOffset_25 : decode cX4_leastOffset 25 = .ok (.iaload, 1) := by decide +kernel
theorem dX4_leastOffset_26 : decode cX4_leastOffset 26 = .ok (.invokestatic 37, 3) := by decide +kernel
theorem dX4_leastOffset_29 : decode cX4_leastOffset 29 = .ok (.istore_n 3, 1) := by decide +kernel
theorem dX4_leastOffset_30 : decode cX4_leastOffset 30 = .ok (.iinc 4 1, 3) := by decide +kernel
theorem dX4_leastOffset_33 : decode cX4_leastOffset 33 = .ok (.goto (-21), 3) := by decide +kernel
theorem dX4_leastOffset_36 : decode cX4_leastOffset 36 = .ok (.iload_n 3, 1) := by decide +kernel
theorem dX4_leastOffset_37 : decode cX4_leastOffset 37 = .ok (.ireturn, 1) := by decide +kernel
theorem dX4_commonestOffset_0 : decode cX4_commonestOffset 0 = .ok (.iconst 0, 1) := by decide +kernel
theorem dX4_commonestOffset_1 : decode cX4_commonestOffset 1 = .ok (.istore_n 1, 1) := by decide +kernel
theorem dX4_commonestOffset_2 : decode cX4_commonestOffset 2 = .ok (.iconst 0, 1) := by decide +kernel
theorem dX4_commonestOffset_3 : decode cX4_commonestOffset 3 = .ok (.istore_n 2, 1) := by decide +kernel
theorem dX4_commonestOffset_4 : decode cX4_commonestOffset 4 = .ok (.iconst 0, 1) := by decide +kernel
theorem dX4_commonestOffset_5 : decode cX4_commonestOffset 5 = .ok (.istore_n 3, 1) := by decide +kernel
theorem dX4_commonestOffset_6 : decode cX4_commonestOffset 6 = .ok (.iload_n 3, 1) := by decide +kernel
theorem dX4_commonestOffset_7 : decode cX4_commonestOffset 7 = .ok (.aload_n 0, 1) := by decide +kernel
theorem dX4_commonestOffset_8 : decode cX4_commonestOffset 8 = .ok (.getfield 18, 3) := by decide +kernel
theorem dX4_commonestOffset_11 : decode cX4_commonestOffset 11 = .ok (.if_icmp .ge 59, 3) := by decide +kernel
theorem dX4_commonestOffset_14 : decode cX4_commonestOffset 14 = .ok (.aload_n 0, 1) := by decide +kernel
theorem dX4_commonestOffset_15 : decode cX4_commonestOffset 15 = .ok (.aload_n 0, 1) := by decide +kernel
theorem dX4_commonestOffset_16 : decode cX4_commonestOffset 16 = .ok (.getfield 15, 3) := by decide +kernel
theorem dX4_commonestOffset_19 : decode cX4_commonestOffset 19 = .ok (.iload_n 3, 1) := by decide +kernel
theorem dX4_commonestOffset_20 : decode cX4_commonestOffset 20 = .ok (.iaload, 1) := by decide +kernel
theorem dX4_commonestOffset_21 : decode cX4_commonestOffset 21 = .ok (.invokevirtual 49, 3) := by decide +kernel
theorem dX4_commonestOffset_24 : decode cX4_commonestOffset 24 = .ok (.invokestatic 52, 3) := by decide +kernel
theorem dX4_commonestOffset_27 : decode cX4_commonestOffset 27 = .ok (.istore 4, 2) := by decide +kernel
theorem dX4_commonestOffset_29 : decode cX4_commonestOffset 29 = .ok (.iload 4, 2) := by decide +kernel
theorem dX4_commonestOffset_31 : decode cX4_commonestOffset 31 = .ok (.iload_n 2, 1) := by decide +kernel
theorem dX4_commonestOffset_32 : decode cX4_commonestOffset 32 = .ok (.if_icmp .gt 22, 3) := by decide +kernel
theorem dX4_commonestOffset_35 : decode cX4_commonestOffset 35 = .ok (.iload 4, 2) := by decide +kernel
theorem dX4_commonestOffset_37 : decode cX4_commonestOffset 37 = .ok (.iload_n 2, 1) := by decide +kernel
theorem dX4_commonestOffset_38 : decode cX4_commonestOffset 38 = .ok (.if_icmp .ne 26, 3) := by decide +kernel
theorem dX4_commonestOffset_41 : decode cX4_commonestOffset 41 = .ok (.aload_n 0, 1) := by decide +kernel
theorem dX4_commonestOffset_42 : decode cX4_commonestOffset 42 = .ok (.getfield 15, 3) := by decide +kernel
theorem dX4_commonestOffset_45 : decode cX4_commonestOffset 45 = .ok (.iload_n 3, 1) := by decide +kernel
theorem dX4_commonestOffset_46 : decode cX4_commonestOffset 46 = .ok (.iaload, 1) := by decide +kernel
theorem dX4_commonestOffset_47 : decode cX4_commonestOffset 47 = .ok (.iload_n 1, 1) := by decide +kernel
theorem dX4_commonestOffset_48 : decode cX4_commonestOffset 48 = .ok (.invokestatic 57, 3) := by decide +kernel
theorem dX4_commonestOffset_51 : decode cX4_commonestOffset 51 = .ok (.ifCond .eq 13, 3) := by decide +kernel
theorem dX4_commonestOffset_54 : decode cX4_commonestOffset 54 = .ok (.aload_n 0, 1) := by decide +kernel
theorem dX4_commonestOffset_55 : decode cX4_commonestOffset 55 = .ok (.getfield 15, 3) := by decide +kernel
theorem dX4_commonestOffset_58 : decode cX4_commonestOffset 58 = .ok (.iload_n 3, 1) := by decide +kernel
theorem dX4_commonestOffset_59 : decode cX4_commonestOffset 59 = .ok (.iaload, 1) := by decide +kernel
theorem dX4_commonestOffset_60 : decode cX4_commonestOffset 60 = .ok (.istore_n 1, 1) := by decide +kernel
theorem dX4_commonestOffset_61 : decode cX4_commonestOffset 61 = .ok (.iload 4, 2) := by decide +kernel
theorem dX4_commonestOffset_63 : decode cX4_commonestOffset 63 = .ok (.istore_n 2, 1) := by decide +kernel
theorem dX4_commonestOffset_64 : decode cX4_commonestOffset 64 = .ok (.iinc 3 1, 3) := by decide +kernel
theorem dX4_commonestOffset_67 : decode cX4_commonestOffset 67 = .ok (.goto (-61), 3) := by decide +kernel
theorem dX4_commonestOffset_70 : decode cX4_commonestOffset 70 = .ok (.iload_n 1, 1) := by decide +kernel
theorem dX4_commonestOffset_71 : decode cX4_commonestOffset 71 = .ok (.ireturn, 1) := by decide +kernel
theorem dX4_isNearer_0 : decode cX4_isNearer 0 = .ok (.iload_n 0, 1) := by decide +kernel
theorem dX4_isNearer_1 : decode cX4_isNearer 1 = .ok (.invokestatic 61, 3) := by decide +kernel
theorem dX4_isNearer_4 : decode cX4_isNearer 4 = .ok (.iload_n 1, 1) := by decide +kernel
theorem dX4_isNearer_5 : decode cX4_isNearer 5 = .ok (.invokestatic 61, 3) := by decide +kernel
theorem dX4_isNearer_8 : decode cX4_isNearer 8 = .ok (.isub, 1) := by decide +kernel
theorem dX4_isNearer_9 : decode cX4_isNearer 9 = .ok (.istore_n 2, 1) := by decide +kernel
theorem dX4_isNearer_10 : decode cX4_isNearer 10 = .ok (.iload_n 2, 1) := by decide +kernel
theorem dX4_isNearer_11 : decode cX4_isNearer 11 = .ok (.ifCond .lt 12, 3) := by decide +kernel
theorem dX4_isNearer_14 : decode cX4_isNearer 14 = .ok (.iload_n 2, 1) := by decide +kernel
theorem dX4_isNearer_15 : decode cX4_isNearer 15 = .ok (.ifCond .ne 12, 3) := by decide +kernel
theorem dX4_isNearer_18 : decode cX4_isNearer 18 = .ok (.iload_n 0, 1) := by decide +kernel
theorem dX4_isNearer_19 : decode cX4_isNearer 19 = .ok (.iload_n 1, 1) := by decide +kernel
theorem dX4_isNearer_20 : decode cX4_isNearer 20 = .ok (.if_icmp .ge 7, 3) := by decide +kernel
theorem dX4_isNearer_23 : decode cX4_isNearer 23 = .ok (.iconst 1, 1) := by decide +kernel
theorem dX4_isNearer_24 : decode cX4_isNearer 24 = .ok (.goto 4, 3) := by decide +kernel
theorem dX4_isNearer_27 : decode cX4_isNearer 27 = .ok (.iconst 0, 1) := by decide +kernel
theorem dX4_isNearer_28 : decode cX4_isNearer 28 = .ok (.ireturn, 1) := by decide +kernel
theorem dX4_eventsWith_0 : decode cX4_eventsWith 0 = .ok (.iconst 0, 1) := by decide +kernel
theorem dX4_eventsWith_1 : decode cX4_eventsWith 1 = .ok (.istore_n 2, 1) := by decide +kernel
theorem dX4_eventsWith_2 : decode cX4_eventsWith 2 = .ok (.iconst 0, 1) := by decide +kernel
theorem dX4_eventsWith_3 : decode cX4_eventsWith 3 = .ok (.istore_n 3, 1) := by decide +kernel
theorem dX4_eventsWith_4 : decode cX4_eventsWith 4 = .ok (.iload_n 3, 1) := by decide +kernel
theorem dX4_eventsWith_5 : decode cX4_eventsWith 5 = .ok (.aload_n 0, 1) := by decide +kernel
theorem dX4_eventsWith_6 : decode cX4_eventsWith 6 = .ok (.getfield 18, 3) := by decide +kernel
theorem dX4_eventsWith_9 : decode cX4_eventsWith 9 = .ok (.if_icmp .ge 30, 3) := by decide +kernel
theorem dX4_eventsWith_12 : decode cX4_eventsWith 12 = .ok (.aload_n 0, 1) := by decide +kernel
theorem dX4_eventsWith_13 : decode cX4_eventsWith 13 = .ok (.getfield 15, 3) := by decide +kernel
theorem dX4_eventsWith_16 : decode cX4_eventsWith 16 = .ok (.iload_n 3, 1) := by decide +kernel
theorem dX4_eventsWith_17 : decode cX4_eventsWith 17 = .ok (.iaload, 1) := by decide +kernel
theorem dX4_eventsWith_18 : decode cX4_eventsWith 18 = .ok (.iload_n 1, 1) := by decide +kernel
theorem dX4_eventsWith_19 : decode cX4_eventsWith 19 = .ok (.if_icmp .ne 14, 3) := by decide +kernel
theorem dX4_eventsWith_22 : decode cX4_eventsWith 22 = .ok (.iload_n 2, 1) := by decide +kernel
theorem dX4_eventsWith_23 : decode cX4_eventsWith 23 = .ok (.iconst 1, 1) := by decide +kernel
theorem dX4_eventsWith_24 : decode cX4_eventsWith 24 = .ok (.aload_n 0, 1) := by decide +kernel
theorem dX4_eventsWith_25 : decode cX4_eventsWith 25 = .ok (.getfield 9, 3) := by decide +kernel
theorem dX4_eventsWith_28 : decode cX4_eventsWith 28 = .ok (.iload_n 3, 1) := by decide +kernel
theorem dX4_eventsWith_29 : decode cX4_eventsWith 29 = .ok (.iaload, 1) := by decide +kernel
theorem dX4_eventsWith_30 : decode cX4_eventsWith 30 = .ok (.ishl, 1) := by decide +kernel
theorem dX4_eventsWith_31 : decode cX4_eventsWith 31 = .ok (.ior, 1) := by decide +kernel
theorem dX4_eventsWith_32 : decode cX4_eventsWith 32 = .ok (.istore_n 2, 1) := by decide +kernel
theorem dX4_eventsWith_33 : decode cX4_eventsWith 33 = .ok (.iinc 3 1, 3) := by decide +kernel
theorem dX4_eventsWith_36 : decode cX4_eventsWith 36 = .ok (.goto (-32), 3) := by decide +kernel
theorem dX4_eventsWith_39 : decode cX4_eventsWith 39 = .ok (.iload_n 2, 1) := by decide +kernel
theorem dX4_eventsWith_40 : decode cX4_eventsWith 40 = .ok (.ireturn, 1) := by decide +kernel
theorem dX4_eventBits_0 : decode cX4_eventBits 0 = .ok (.iconst 0, 1) := by decide +kernel
theorem dX4_eventBits_1 : decode cX4_eventBits 1 = .ok (.istore_n 1, 1) := by decide +kernel
theorem dX4_eventBits_2 : decode cX4_eventBits 2 = .ok (.iconst 0, 1) := by decide +kernel
theorem dX4_eventBits_3 : decode cX4_eventBits 3 = .ok (.istore_n 2, 1) := by decide +kernel
theorem dX4_eventBits_4 : decode cX4_eventBits 4 = .ok (.iload_n 2, 1) := by decide +kernel
theorem dX4_eventBits_5 : decode cX4_eventBits 5 = .ok (.aload_n 0, 1) := by decide +kernel
theorem dX4_eventBits_6 : decode cX4_eventBits 6 = .ok (.getfield 18, 3) := by decide +kernel
theorem dX4_eventBits_9 : decode cX4_eventBits 9 = .ok (.if_icmp .ge 20, 3) := by decide +kernel
theorem dX4_eventBits_12 : decode cX4_eventBits 12 = .ok (.iload_n 1, 1) := by decide +kernel
theorem dX4_eventBits_13 : decode cX4_eventBits 13 = .ok (.iconst 1, 1) := by decide +kernel
theorem dX4_eventBits_14 : decode cX4_eventBits 14 = .ok (.aload_n 0, 1) := by decide +kernel
theorem dX4_eventBits_15 : decode cX4_eventBits 15 = .ok (.getfield 9, 3) := by decide +kernel
theorem dX4_eventBits_18 : decode cX4_eventBits 18 = .ok (.iload_n 2, 1) := by decide +kernel
theorem dX4_eventBits_19 : decode cX4_eventBits 19 = .ok (.iaload, 1) := by decide +kernel
theorem dX4_eventBits_20 : decode cX4_eventBits 20 = .ok (.ishl, 1) := by decide +kernel
theorem dX4_eventBits_21 : decode cX4_eventBits 21 = .ok (.ior, 1) := by decide +kernel
theorem dX4_eventBits_22 : decode cX4_eventBits 22 = .ok (.istore_n 1, 1) := by decide +kernel
theorem dX4_eventBits_23 : decode cX4_eventBits 23 = .ok (.iinc 2 1, 3) := by decide +kernel
theorem dX4_eventBits_26 : decode cX4_eventBits 26 = .ok (.goto (-22), 3) := by decide +kernel
theorem dX4_eventBits_29 : decode cX4_eventBits 29 = .ok (.iload_n 1, 1) := by decide +kernel
theorem dX4_eventBits_30 : decode cX4_eventBits 30 = .ok (.ireturn, 1) := by decide +kernel
theorem dX5_init_0 : decode cX5_init 0 = .ok (.aload_n 0, 1) := by decide +kernel
theorem dX5_init_1 : decode cX5_init 1 = .ok (.invokespecial 3, 3) := by decide +kernel
theorem dX5_init_4 : decode cX5_init 4 = .ok (.aload_n 0, 1) := by decide +kernel
theorem dX5_init_5 : decode cX5_init 5 = .ok (.bipush 110, 2) := by decide +kernel
theorem dX5_init_7 : decode cX5_init 7 = .ok (.newarray .int, 2) := by decide +kernel
theorem dX5_init_9 : decode cX5_init 9 = .ok (.putfield 9, 3) := by decide +kernel
theorem dX5_init_12 : decode cX5_init 12 = .ok (.aload_n 0, 1) := by decide +kernel
theorem dX5_init_13 : decode cX5_init 13 = .ok (.iconst 0, 1) := by decide +kernel
theorem dX5_init_14 : decode cX5_init 14 = .ok (.putfield 15, 3) := by decide +kernel
theorem dX5_init_17 : decode cX5_init 17 = .ok (.return_, 1) := by decide +kernel
theorem dX5_put_0 : decode cX5_put 0 = .ok (.aload_n 0, 1) := by decide +kernel
theorem dX5_put_1 : decode cX5_put 1 = .ok (.getfield 15, 3) := by decide +kernel
theorem dX5_put_4 : decode cX5_put 4 = .ok (.bipush 110, 2) := by decide +kernel
theorem dX5_put_6 : decode cX5_put 6 = .ok (.if_icmp .lt 5, 3) := by decide +kernel
theorem dX5_put_9 : decode cX5_put 9 = .ok (.iconst 0, 1) := by decide +kernel
theorem dX5_put_10 : decode cX5_put 10 = .ok (.ireturn, 1) := by decide +kernel
theorem dX5_put_11 : decode cX5_put 11 = .ok (.aload_n 0, 1) := by decide +kernel
theorem dX5_put_12 : decode cX5_put 12 = .ok (.getfield 9, 3) := by decide +kernel
theorem dX5_put_15 : decode cX5_put 15 = .ok (.aload_n 0, 1) := by decide +kernel
theorem dX5_put_16 : decode cX5_put 16 = .ok (.getfield 15, 3) := by decide +kernel
theorem dX5_put_19 : decode cX5_put 19 = .ok (.iload_n 1, 1) := by decide +kernel
theorem dX5_put_20 : decode cX5_put 20 = .ok (.iastore, 1) := by decide +kernel
theorem dX5_put_21 : decode cX5_put 21 = .ok (.aload_n 0, 1) := by decide +kernel
theorem dX5_put_22 : decode cX5_put 22 = .ok (.dup, 1) := by decide +kernel
theorem dX5_put_23 : decode cX5_put 23 = .ok (.getfield 15, 3) := by decide +kernel
theorem dX5_put_26 : decode cX5_put 26 = .ok (.iconst 1, 1) := by decide +kernel
theorem dX5_put_27 : decode cX5_put 27 = .ok (.iadd, 1) := by decide +kernel
theorem dX5_put_28 : decode cX5_put 28 = .ok (.putfield 15, 3) := by decide +kernel
theorem dX5_put_31 : decode cX5_put 31 = .ok (.iconst 1, 1) := by decide +kernel
theorem dX5_put_32 : decode cX5_put 32 = .ok (.ireturn, 1) := by decide +kernel
theorem dX5_read_0 : decode cX5_read 0 = .ok (.aload_n 1, 1) := by decide +kernel
theorem dX5_read_1 : decode cX5_read 1 = .ok (.invokevirtual 19, 3) := by decide +kernel
theorem dX5_read_4 : decode cX5_read 4 = .ok (.aload_n 0, 1) := by decide +kernel
theorem dX5_read_5 : decode cX5_read 5 = .ok (.iconst 0, 1) := by decide +kernel
theorem dX5_read_6 : decode cX5_read 6 = .ok (.putfield 24, 3) := by decide +kernel
theorem dX5_read_9 : decode cX5_read 9 = .ok (.aload_n 0, 1) := by decide +kernel
theorem dX5_read_10 : decode cX5_read 10 = .ok (.iconst 0, 1) := by decide +kernel
theorem dX5_read_11 : decode cX5_read 11 = .ok (.putfield 27, 3) := by decide +kernel
theorem dX5_read_14 : decode cX5_read 14 = .ok (.aload_n 0, 1) := by decide +kernel
theorem dX5_read_15 : decode cX5_read 15 = .ok (.iconst 0, 1) := by decide +kernel
theorem dX5_read_16 : decode cX5_read 16 = .ok (.putfield 30, 3) := by decide +kernel
theorem dX5_read_19 : decode cX5_read 19 = .ok (.aload_n 0, 1) := by decide +kernel
theorem dX5_read_20 : decode cX5_read 20 = .ok (.iconst 0, 1) := by decide +kernel
theorem dX5_read_21 : decode cX5_read 21 = .ok (.putfield 33, 3) := by decide +kernel
theorem dX5_read_24 : decode cX5_read 24 = .ok (.aload_n 0, 1) := by decide +kernel
theorem dX5_read_25 : decode cX5_read 25 = .ok (.invokevirtual 37, 3) := by decide +kernel
theorem dX5_read_28 : decode cX5_read 28 = .ok (.iconst 0, 1) := by decide +kernel
theorem dX5_read_29 : decode cX5_read 29 = .ok (.istore_n 2, 1) := by decide +kernel
theorem dX5_read_30 : decode cX5_read 30 = .ok (.iload_n 2, 1) := by decide +kernel
theorem dX5_read_31 : decode cX5_read 31 = .ok (.bipush 110, 2) := by decide +kernel
theorem dX5_read_33 : decode cX5_read 33 = .ok (.if_icmp .ge 36, 3) := by decide +kernel
theorem dX5_read_36 : decode cX5_read 36 = .ok (.aload_n 0, 1) := by decide +kernel
theorem dX5_read_37 : decode cX5_read 37 = .ok (.getfield 40, 3) := by decide +kernel
theorem dX5_read_40 : decode cX5_read 40 = .ok (.ifCond .eq 29, 3) := by decide +kernel
theorem dX5_read_43 : decode cX5_read 43 = .ok (.aload_n 0, 1) := by decide +kernel
theorem dX5_read_44 : decode cX5_read 44 = .ok (.aload_n 1, 1) := by decide +kernel
theorem dX5_read_45 : decode cX5_read 45 = .ok (.invokevirtual 43, 3) := by decide +kernel
theorem dX5_read_48 : decode cX5_read 48 = .ok (.ifCond .ne 11, 3) := by decide +kernel
theorem dX5_read_51 : decode cX5_read 51 = .ok (.bipush (-10), 2) := by decide +kernel
theorem dX5_read_53 : decode cX5_read 53 = .ok (.aload_n 0, 1) := by decide +kernel
theorem dX5_read_54 : decode cX5_read 54 = .ok (.getfield 47, 3) := by decide +kernel
theorem dX5_read_57 : decode cX5_read 57 = .ok (.isub, 1) := by decide +kernel
theorem dX5_read_58 : decode cX5_read 58 = .ok (.ireturn, 1) := by decide +kernel
theorem dX5_read_59 : decode cX5_read 59 = .ok (.aload_n 0, 1) := by decide +kernel
theorem dX5_read_60 : decode cX5_read 60 = .ok (.invokevirtual 37, 3) := by decide +kernel
theorem dX5_read_63 : decode cX5_read 63 = .ok (.iinc 2 1, 3) := by decide +kernel
theorem dX5_read_66 : decode cX5_read 66 = .ok (.goto (-36), 3) := by decide +kernel
theorem dX5_read_69 : decode cX5_read 69 = .ok (.aload_n 0, 1) := by decide +kernel
theorem dX5_read_70 : decode cX5_read 70 = .ok (.getfield 27, 3) := by decide +kernel
theorem dX5_read_73 : decode cX5_read 73 = .ok (.ifCond .ne 10, 3) := by decide +kernel
theorem dX5_read_76 : decode cX5_read 76 = .ok (.aload_n 0, 1) := by decide +kernel
theorem dX5_read_77 : decode cX5_read 77 = .ok (.getfield 30, 3) := by decide +kernel
theorem dX5_read_80 : decode cX5_read 80 = .ok (.goto 10, 3) := by decide +kernel
theorem dX5_read_83 : decode cX5_read 83 = .ok (.bipush (-10), 2) := by decide +kernel
theorem dX5_read_85 : decode cX5_read 85 = .ok (.aload_n 0, 1) := by decide +kernel
theorem dX5_read_86 : decode cX5_read 86 = .ok (.getfield 47, 3) := by decide +kernel
theorem dX5_read_89 : decode cX5_read 89 = .ok (.isub, 1) := by decide +kernel
theorem dX5_read_90 : decode cX5_read 90 = .ok (.ireturn, 1) := by decide +kernel
theorem dX5_take_0 : decode cX5_take 0 = .ok (.aload_n 0, 1) := by decide +kernel
theorem dX5_take_1 : decode cX5_take 1 = .ok (.getfield 27, 3) := by decide +kernel
theorem dX5_take_4 : decode cX5_take 4 = .ok (.tableswitch 86 0 3 #[32, 53, 59, 80], 32) := by decide +kernel
theorem dX5_take_36 : decode cX5_take 36 = .ok (.aload_n 0, 1) := by decide +kernel
theorem dX5_take_37 : decode cX5_take 37 = .ok (.getfield 40, 3) := by decide +kernel
theorem dX5_take_40 : decode cX5_take 40 = .ok (.iconst 1, 1) := by decide +kernel
theorem dX5_take_41 : decode cX5_take 41 = .ok (.if_icmp .ne 10, 3) := by decide +kernel
theorem dX5_take_44 : decode cX5_take 44 = .ok (.aload_n 0, 1) := by decide +kernel
theorem dX5_take_45 : decode cX5_take 45 = .ok (.invokevirtual 50, 3) := by decide +kernel
theorem dX5_take_48 : decode cX5_take 48 = .ok (.goto 8, 3) := by decide +kernel
theorem dX5_take_51 : decode cX5_take 51 = .ok (.aload_n 0, 1) := by decide +kernel
theorem dX5_take_52 : decode cX5_take 52 = .ok (.aload_n 1, 1) := by decide +kernel
theorem dX5_take_53 : decode cX5_take 53 = .ok (.invokevirtual 54, 3) := by decide +kernel
theorem dX5_take_56 : decode cX5_take 56 = .ok (.ireturn, 1) := by decide +kernel
theorem dX5_take_57 : decode cX5_take 57 = .ok (.aload_n 0, 1) := by decide +kernel
theorem dX5_take_58 : decode cX5_take 58 = .ok (.aload_n 1, 1) := by decide +kernel
theorem dX5_take_59 : decode cX5_take 59 = .ok (.invokevirtual 57, 3) := by decide +kernel
theorem dX5_take_62 : decode cX5_take 62 = .ok (.ireturn, 1) := by decide +kernel
theorem dX5_take_63 : decode cX5_take 63 = .ok (.aload_n 0, 1) := by decide +kernel
theorem dX5_take_64 : decode cX5_take 64 = .ok (.getfield 40, 3) := by decide +kernel
theorem dX5_take_67 : decode cX5_take 67 = .ok (.iconst 5, 1) := by decide +kernel
theorem dX5_take_68 : decode cX5_take 68 = .ok (.if_icmp .ne 10, 3) := by decide +kernel
theorem dX5_take_71 : decode cX5_take 71 = .ok (.aload_n 0, 1) := by decide +kernel
theorem dX5_take_72 : decode cX5_take 72 = .ok (.invokevirtual 60, 3) := by decide +kernel
theorem dX5_take_75 : decode cX5_take 75 = .ok (.goto 8, 3) := by decide +kernel
theorem dX5_take_78 : decode cX5_take 78 = .ok (.aload_n 0, 1) := by decide +kernel
theorem dX5_take_79 : decode cX5_take 79 = .ok (.aload_n 1, 1) := by decide +kernel
theorem dX5_take_80 : decode cX5_take 80 = .ok (.invokevirtual 63, 3) := by decide +kernel
theorem dX5_take_83 : decode cX5_take 83 = .ok (.ireturn, 1) := by decide +kernel
theorem dX5_take_84 : decode cX5_take 84 = .ok (.aload_n 0, 1) := by decide +kernel
theorem dX5_take_85 : decode cX5_take 85 = .ok (.aload_n 1, 1) := by decide +kernel
theorem dX5_take_86 : decode cX5_take 86 = .ok (.invokevirtual 66, 3) := by decide +kernel
theorem dX5_take_89 : decode cX5_take 89 = .ok (.ireturn, 1) := by decide +kernel
theorem dX5_take_90 : decode cX5_take 90 = .ok (.aload_n 0, 1) := by decide +kernel
theorem dX5_take_91 : decode cX5_take 91 = .ok (.invokevirtual 60, 3) := by decide +kernel
theorem dX5_take_94 : decode cX5_take 94 = .ok (.ireturn, 1) := by decide +kernel
theorem dX5_takeSlackSign_0 : decode cX5_takeSlackSign 0 = .ok (.aload_n 0, 1) := by decide +kernel
theorem dX5_takeSlackSign_1 : decode cX5_takeSlackSign 1 = .ok (.getfield 33, 3) := by decide +kernel
theorem dX5_takeSlackSign_4 : decode cX5_takeSlackSign 4 = .ok (.ifCond .ne 7, 3) := by decide +kernel
theorem dX5_takeSlackSign_7 : decode cX5_takeSlackSign 7 = .ok (.iconst 1, 1) := by decide +kernel
theorem dX5_takeSlackSign_8 : decode cX5_takeSlackSign 8 = .ok (.goto 4, 3) := by decide +kernel
theorem dX5_takeSlackSign_11 : decode cX5_takeSlackSign 11 = .ok (.iconst 0, 1) := by decide +kernel
theorem dX5_takeSlackSign_12 : decode cX5_takeSlackSign 12 = .ok (.istore_n 1, 1) := by decide +kernel
theorem dX5_takeSlackSign_13 : decode cX5_takeSlackSign 13 = .ok (.aload_n 0, 1) := by decide +kernel
theorem dX5_takeSlackSign_14 : decode cX5_takeSlackSign 14 = .ok (.iconst 1, 1) := by decide +kernel
theorem dX5_takeSlackSign_15 : decode cX5_takeSlackSign 15 = .ok (.putfield 33, 3) := by decide +kernel
theorem dX5_takeSlackSign_18 : decode cX5_takeSlackSign 18 = .ok (.aload_n 0, 1) := by decide +kernel
theorem dX5_takeSlackSign_19 : decode cX5_takeSlackSign 19 = .ok (.iconst 1, 1) := by decide +kernel
theorem dX5_takeSlackSign_20 : decode cX5_takeSlackSign 20 = .ok (.putfield 27, 3) := by decide +kernel
theorem dX5_takeSlackSign_23 : decode cX5_takeSlackSign 23 = .ok (.iload_n 1, 1) := by decide +kernel
theorem dX5_takeSlackSign_24 : decode cX5_takeSlackSign 24 = .ok (.ireturn, 1) := by decide +kernel
theorem dX5_takeSlack_0 : decode cX5_takeSlack 0 = .ok (.aload_n 1, 1) := by decide +kernel
theorem dX5_takeSlack_1 : decode cX5_takeSlack 1 = .ok (.aload_n 0, 1) := by decide +kernel
theorem dX5_takeSlack_2 : decode cX5_takeSlack 2 = .ok (.getfield 69, 3) := by decide +kernel
theorem dX5_takeSlack_5 : decode cX5_takeSlack 5 = .ok (.putfield 72, 3) := by decide +kernel
theorem dX5_takeSlack_8 : decode cX5_takeSlack 8 = .ok (.aload_n 0, 1) := by decide +kernel
theorem dX5_takeSlack_9 : decode cX5_takeSlack 9 = .ok (.iconst 4, 1) := by decide +kernel
theorem dX5_takeSlack_10 : decode cX5_takeSlack 10 = .ok (.putfield 27, 3) := by decide +kernel
theorem dX5_takeSlack_13 : decode cX5_takeSlack 13 = .ok (.aload_n 0, 1) := by decide +kernel
theorem dX5_takeSlack_14 : decode cX5_takeSlack 14 = .ok (.getfield 40, 3) := by decide +kernel
theorem dX5_takeSlack_17 : decode cX5_takeSlack 17 = .ok (.iconst 4, 1) := by decide +kernel
theorem dX5_takeSlack_18 : decode cX5_takeSlack 18 = .ok (.if_icmp .ne 16, 3) := by decide +kernel
theorem dX5_takeSlack_21 : decode cX5_takeSlack 21 = .ok (.aload_n 0, 1) := by decide +kernel
theorem dX5_takeSlack_22 : decode cX5_takeSlack 22 = .ok (.getfield 69, 3) := by decide +kernel
theorem dX5_takeSlack_25 : decode cX5_takeSlack 25 = .ok (.bipush 9, 2) := by decide +kernel
theorem dX5_takeSlack_27 : decode cX5_takeSlack 27 = .ok (.if_icmp .gt 7, 3) := by decide +kernel
theorem dX5_takeSlack_30 : decode cX5_takeSlack 30 = .ok (.iconst 1, 1) := by decide +kernel
theorem dX5_takeSlack_31 : decode cX5_takeSlack 31 = .ok (.goto 4, 3) := by decide +kernel
theorem dX5_takeSlack_34 : decode cX5_takeSlack 34 = .ok (.iconst 0, 1) := by decide +kernel
theorem dX5_takeSlack_35 : decode cX5_takeSlack 35 = .ok (.ireturn, 1) := by decide +kernel
theorem dX5_takeHouseSign_0 : decode cX5_takeHouseSign 0 = .ok (.aload_n 0, 1) := by decide +kernel
theorem dX5_takeHouseSign_1 : decode cX5_takeHouseSign 1 = .ok (.getfield 40, 3) := by decide +kernel
theorem dX5_takeHouseSign_4 : decode cX5_takeHouseSign 4 = .ok (.iconst 2, 1) := by decide +kernel
theorem dX5_takeHouseSign_5 : decode cX5_takeHouseSign 5 = .ok (.if_icmp .ne 11, 3) := by decide +kernel
theorem dX5_takeHouseSign_8 : decode cX5_takeHouseSign 8 = .ok (.aload_n 1, 1) := by decide +kernel
theorem dX5_takeHouseSign_9 : decode cX5_takeHouseSign 9 = .ok (.getfield 75, 3) := by decide +kernel
theorem dX5_takeHouseSign_12 : decode cX5_takeHouseSign 12 = .ok (.iconst 4, 1) := by decide +kernel
theorem dX5_takeHouseSign_13 : decode cX5_takeHouseSign 13 = .ok (.if_icmp .lt 5, 3) := by decide +kernel
theorem dX5_takeHouseSign_16 : decode cX5_takeHouseSign 16 = .ok (.iconst 0, 1) := by decide +kernel
theorem dX5_takeHouseSign_17 : decode cX5_takeHouseSign 17 = .ok (.ireturn, 1) := by decide +kernel
theorem dX5_takeHouseSign_18 : decode cX5_takeHouseSign 18 = .ok (.aload_n 1, 1) := by decide +kernel
theorem dX5_takeHouseSign_19 : decode cX5_takeHouseSign 19 = .ok (.dup, 1) := by decide +kernel
theorem dX5_takeHouseSign_20 : decode cX5_takeHouseSign 20 = .ok (.getfield 75, 3) := by decide +kernel
theorem dX5_takeHouseSign_23 : decode cX5_takeHouseSign 23 = .ok (.iconst 1, 1) := by decide +kernel
theorem dX5_takeHouseSign_24 : decode cX5_takeHouseSign 24 = .ok (.iadd, 1) := by decide +kernel
theorem dX5_takeHouseSign_25 : decode cX5_takeHouseSign 25 = .ok (.putfield 75, 3) := by decide +kernel
theorem dX5_takeHouseSign_28 : decode cX5_takeHouseSign 28 = .ok (.aload_n 0, 1) := by decide +kernel
theorem dX5_takeHouseSign_29 : decode cX5_takeHouseSign 29 = .ok (.iconst 2, 1) := by decide +kernel
theorem dX5_takeHouseSign_30 : decode cX5_takeHouseSign 30 = .ok (.putfield 27, 3) := by decide +kernel
theorem dX5_takeHouseSign_33 : decode cX5_takeHouseSign 33 = .ok (.iconst 1, 1) := by decide +kernel
theorem dX5_takeHouseSign_34 : decode cX5_takeHouseSign 34 = .ok (.ireturn, 1) := by decide +kernel
theorem dX5_takeEvent_0 : decode cX5_takeEvent 0 = .ok (.aload_n 1, 1) := by decide +kernel
theorem dX5_takeEvent_1 : decode cX5_takeEvent 1 = .ok (.invokevirtual 76, 3) := by decide +kernel
theorem dX5_takeEvent_4 : decode cX5_takeEvent 4 = .ok (.astore_n 2, 1) := by decide +kernel
theorem dX5_takeEvent_5 : decode cX5_takeEvent 5 = .ok (.aload_n 0, 1) := by decide +kernel
theorem dX5_takeEvent_6 : decode cX5_takeEvent 6 = .ok (.aload_n 0, 1) := by decide +kernel
theorem dX5_takeEvent_7 : decode cX5_takeEvent 7 = .ok (.getfield 69, 3) := by decide +kernel
theorem dX5_takeEvent_10 : decode cX5_takeEvent 10 = .ok (.putfield 80, 3) := by decide +kernel
theorem dX5_takeEvent_13 : decode cX5_takeEvent 13 = .ok (.aload_n 0, 1) := by decide +kernel
theorem dX5_takeEvent_14 : decode cX5_takeEvent 14 = .ok (.iconst 3, 1) := by decide +kernel
theorem dX5_takeEvent_15 : decode cX5_takeEvent 15 = .ok (.putfield 27, 3) := by decide +kernel
theorem dX5_takeEvent_18 : decode cX5_takeEvent 18 = .ok (.aload_n 0, 1) := by decide +kernel
theorem dX5_takeEvent_19 : decode cX5_takeEvent 19 = .ok (.getfield 40, 3) := by decide +kernel
theorem dX5_takeEvent_22 : decode cX5_takeEvent 22 = .ok (.iconst 3, 1) := by decide +kernel
theorem dX5_takeEvent_23 : decode cX5_takeEvent 23 = .ok (.if_icmp .ne 27, 3) := by decide +kernel
theorem dX5_takeEvent_26 : decode cX5_takeEvent 26 = .ok (.aload_n 2, 1) := by decide +kernel
theorem dX5_takeEvent_27 : decode cX5_takeEvent 27 = .ok (.getfield 83, 3) := by decide +kernel
theorem dX5_takeEvent_30 : decode cX5_takeEvent 30 = .ok (.bipush 6, 2) := by decide +kernel
theorem dX5_takeEvent_32 : decode cX5_takeEvent 32 = .ok (.if_icmp .ge 18, 3) := by decide +kernel
theorem dX5_takeEvent_35 : decode cX5_takeEvent 35 = .ok (.aload_n 2, 1) := by decide +kernel
theorem dX5_takeEvent_36 : decode cX5_takeEvent 36 = .ok (.aload_n 0, 1) := by decide +kernel
theorem dX5_takeEvent_37 : decode cX5_takeEvent 37 = .ok (.getfield 69, 3) := by decide +kernel
theorem dX5_takeEvent_40 : decode cX5_takeEvent 40 = .ok (.invokevirtual 86, 3) := by decide +kernel
theorem dX5_takeEvent_43 : decode cX5_takeEvent 43 = .ok (.ifCond .ge 7, 3) := by decide +kernel
theorem dX5_takeEvent_46 : decode cX5_takeEvent 46 = .ok (.iconst 1, 1) := by decide +kernel
theorem dX5_takeEvent_47 : decode cX5_takeEvent 47 = .ok (.goto 4, 3) := by decide +kernel
theorem dX5_takeEvent_50 : decode cX5_takeEvent 50 = .ok (.iconst 0, 1) := by decide +kernel
theorem dX5_takeEvent_51 : decode cX5_takeEvent 51 = .ok (.ireturn, 1) := by decide +kernel
theorem dX5_takeYear_0 : decode cX5_takeYear 0 = .ok (.aload_n 1, 1) := by decide +kernel
theorem dX5_takeYear_1 : decode cX5_takeYear 1 = .ok (.invokevirtual 76, 3) := by decide +kernel
theorem dX5_takeYear_4 : decode cX5_takeYear 4 = .ok (.astore_n 2, 1) := by decide +kernel
theorem dX5_takeYear_5 : decode cX5_takeYear 5 = .ok (.aload_n 0, 1) := by decide +kernel
theorem dX5_takeYear_6 : decode cX5_takeYear 6 = .ok (.iconst 2, 1) := by decide +kernel
theorem dX5_takeYear_7 : decode cX5_takeYear 7 = .ok (.putfield 27, 3) := by decide +kernel
theorem dX5_takeYear_10 : decode cX5_takeYear 10 = .ok (.aload_n 0, 1) := by decide +kernel
theorem dX5_takeYear_11 : decode cX5_takeYear 11 = .ok (.getfield 40, 3) := by decide +kernel
theorem dX5_takeYear_14 : decode cX5_takeYear 14 = .ok (.iconst 4, 1) := by decide +kernel
theorem dX5_takeYear_15 : decode cX5_takeYear 15 = .ok (.if_icmp .ne 37, 3) := by decide +kernel
theorem dX5_takeYear_18 : decode cX5_takeYear 18 = .ok (.aload_n 2, 1) := by decide +kernel
theorem dX5_takeYear_19 : decode cX5_takeYear 19 = .ok (.aload_n 2, 1) := by decide +kernel
theorem dX5_takeYear_20 : decode cX5_takeYear 20 = .ok (.getfield 83, 3) := by decide +kernel
theorem dX5_takeYear_23 : decode cX5_takeYear 23 = .ok (.aload_n 0, 1) := by decide +kernel
theorem dX5_takeYear_24 : decode cX5_takeYear 24 = .ok (.getfield 69, 3) := by decide +kernel
theorem dX5_takeYear_27 : decode cX5_takeYear 27 = .ok (.invokevirtual 90, 3) := by decide +kernel
theorem dX5_takeYear_30 : decode cX5_takeYear 30 = .ok (.ifCond .eq 22, 3) := by decide +kernel
theorem dX5_takeYear_33 : decode cX5_takeYear 33 = .ok (.aload_n 2, 1) := by decide +kernel
theorem dX5_takeYear_34 : decode cX5_takeYear 34 = .ok (.aload_n 0, 1) := by decide +kernel
theorem dX5_takeYear_35 : decode cX5_takeYear 35 = .ok (.getfield 80, 3) := by decide +kernel
theorem dX5_takeYear_38 : decode cX5_takeYear 38 = .ok (.aload_n 0, 1) := by decide +kernel
theorem dX5_takeYear_39 : decode cX5_takeYear 39 = .ok (.getfield 69, 3) := by decide +kernel
theorem dX5_takeYear_42 : decode cX5_takeYear 42 = .ok (.invokevirtual 94, 3) := by decide +kernel
theorem dX5_takeYear_45 : decode cX5_takeYear 45 = .ok (.ifCond .eq 7, 3) := by decide +kernel
theorem dX5_takeYear_48 : decode cX5_takeYear 48 = .ok (.iconst 1, 1) := by decide +kernel
theorem dX5_takeYear_49 : decode cX5_takeYear 49 = .ok (.goto 4, 3) := by decide +kernel
theorem dX5_takeYear_52 : decode cX5_takeYear 52 = .ok (.iconst 0, 1) := by decide +kernel
theorem dX5_takeYear_53 : decode cX5_takeYear 53 = .ok (.ireturn, 1) := by decide +kernel
theorem dX5_takeStop_0 : decode cX5_takeStop 0 = .ok (.aload_n 0, 1) := by decide +kernel
theorem dX5_takeStop_1 : decode cX5_takeStop 1 = .ok (.dup, 1) := by decide +kernel
theorem dX5_takeStop_2 : decode cX5_takeStop 2 = .ok (.getfield 30, 3) := by decide +kernel
theorem dX5_takeStop_5 : decode cX5_takeStop 5 = .ok (.iconst 1, 1) := by decide +kernel
theorem dX5_takeStop_6 : decode cX5_takeStop 6 = .ok (.iadd, 1) := by decide +kernel
theorem dX5_takeStop_7 : decode cX5_takeStop 7 = .ok (.putfield 30, 3) := by decide +kernel
theorem dX5_takeStop_10 : decode cX5_takeStop 10 = .ok (.aload_n 0, 1) := by decide +kernel
theorem dX5_takeStop_11 : decode cX5_takeStop 11 = .ok (.iconst 0, 1) := by decide +kernel
theorem dX5_takeStop_12 : decode cX5_takeStop 12 = .ok (.putfield 27, 3) := by decide +kernel
theorem dX5_takeStop_15 : decode cX5_takeStop 15 = .ok (.aload_n 0, 1) := by decide +kernel
theorem dX5_takeStop_16 : decode cX5_takeStop 16 = .ok (.getfield 40, 3) := by decide +kernel
theorem dX5_takeStop_19 : decode cX5_takeStop 19 = .ok (.iconst 5, 1) := by decide +kernel
theorem dX5_takeStop_20 : decode cX5_takeStop 20 = .ok (.if_icmp .ne 7, 3) := by decide +kernel
theorem dX5_takeStop_23 : decode cX5_takeStop 23 = .ok (.iconst 1, 1) := by decide +kernel
theorem dX5_takeStop_24 : decode cX5_takeStop 24 = .ok (.goto 4, 3) := by decide +kernel
theorem dX5_takeStop_27 : decode cX5_takeStop 27 = .ok (.iconst 0, 1) := by decide +kernel
theorem dX5_takeStop_28 : decode cX5_takeStop 28 = .ok (.ireturn, 1) := by decide +kernel
theorem dX5_advance_0 : decode cX5_advance 0 = .ok (.aload_n 0, 1) := by decide +kernel
theorem dX5_advance_1 : decode cX5_advance 1 = .ok (.getfield 24, 3) := by decide +kernel
theorem dX5_advance_4 : decode cX5_advance 4 = .ok (.aload_n 0, 1) := by decide +kernel
theorem dX5_advance_5 : decode cX5_advance 5 = .ok (.getfield 15, 3) := by decide +kernel
theorem dX5_advance_8 : decode cX5_advance 8 = .ok (.if_icmp .ge 30, 3) := by decide +kernel
theorem dX5_advance_11 : decode cX5_advance 11 = .ok (.aload_n 0, 1) := by decide +kernel
theorem dX5_advance_12 : decode cX5_advance 12 = .ok (.getfield 9, 3) := by decide +kernel
theorem dX5_advance_15 : decode cX5_advance 15 = .ok (.aload_n 0, 1) := by decide +kernel
theorem dX5_advance_16 : decode cX5_advance 16 = .ok (.getfield 24, 3) := by decide +kernel
theorem dX5_advance_19 : decode cX5_advance 19 = .ok (.iaload, 1) := by decide +kernel
theorem dX5_advance_20 : decode cX5_advance 20 = .ok (.bipush 32, 2) := by decide +kernel
theorem dX5_advance_22 : decode cX5_advance 22 = .ok (.if_icmp .ne 16, 3) := by decide +kernel
theorem dX5_advance_25 : decode cX5_advance 25 = .ok (.aload_n 0, 1) := by decide +kernel
theorem dX5_advance_26 : decode cX5_advance 26 = .ok (.dup, 1) := by decide +kernel
theorem dX5_advance_27 : decode cX5_advance 27 = .ok (.getfield 24, 3) := by decide +kernel
theorem dX5_advance_30 : decode cX5_advance 30 = .ok (.iconst 1, 1) := by decide +kernel
theorem dX5_advance_31 : decode cX5_advance 31 = .ok (.iadd, 1) := by decide +kernel
theorem dX5_advance_32 : decode cX5_advance 32 = .ok (.putfield 24, 3) := by decide +kernel
theorem dX5_advance_35 : decode cX5_advance 35 = .ok (.goto (-35), 3) := by decide +kernel
theorem dX5_advance_38 : decode cX5_advance 38 = .ok (.aload_n 0, 1) := by decide +kernel
theorem dX5_advance_39 : decode cX5_advance 39 = .ok (.aload_n 0, 1) := by decide +kernel
theorem dX5_advance_40 : decode cX5_advance 40 = .ok (.getfield 24, 3) := by decide +kernel
theorem dX5_advance_43 : decode cX5_advance 43 = .ok (.putfield 47, 3) := by decide +kernel
theorem dX5_advance_46 : decode cX5_advance 46 = .ok (.aload_n 0, 1) := by decide +kernel
theorem dX5_advance_47 : decode cX5_advance 47 = .ok (.getfield 24, 3) := by decide +kernel
theorem dX5_advance_50 : decode cX5_advance 50 = .ok (.aload_n 0, 1) := by decide +kernel
theorem dX5_advance_51 : decode cX5_advance 51 = .ok (.getfield 15, 3) := by decide +kernel
theorem dX5_advance_54 : decode cX5_advance 54 = .ok (.if_icmp .lt 9, 3) := by decide +kernel
theorem dX5_advance_57 : decode cX5_advance 57 = .ok (.aload_n 0, 1) := by decide +kernel
theorem dX5_advance_58 : decode cX5_advance 58 = .ok (.iconst 0, 1) := by decide +kernel
theorem dX5_advance_59 : decode cX5_advance 59 = .ok (.putfield 40, 3) := by decide +kernel
theorem dX5_advance_62 : decode cX5_advance 62 = .ok (.return_, 1) := by decide +kernel
theorem dX5_advance_63 : decode cX5_advance 63 = .ok (.aload_n 0, 1) := by decide +kernel
theorem dX5_advance_64 : decode cX5_advance 64 = .ok (.getfield 9, 3) := by decide +kernel
theorem dX5_advance_67 : decode cX5_advance 67 = .ok (.aload_n 0, 1) := by decide +kernel
theorem dX5_advance_68 : decode cX5_advance 68 = .ok (.getfield 24, 3) := by decide +kernel
theorem dX5_advance_71 : decode cX5_advance 71 = .ok (.iaload, 1) := by decide +kernel
theorem dX5_advance_72 : decode cX5_advance 72 = .ok (.istore_n 1, 1) := by decide +kernel
theorem dX5_advance_73 : decode cX5_advance 73 = .ok (.iload_n 1, 1) := by decide +kernel
theorem dX5_advance_74 : decode cX5_advance 74 = .ok (.invokestatic 97, 3) := by decide +kernel
theorem dX5_advance_77 : decode cX5_advance 77 = .ok (.ifCond .eq 8, 3) := by decide +kernel
theorem dX5_advance_80 : decode cX5_advance 80 = .ok (.aload_n 0, 1) := by decide +kernel
theorem dX5_advance_81 : decode cX5_advance 81 = .ok (.invokevirtual 101, 3) := by decide +kernel
theorem dX5_advance_84 : decode cX5_advance 84 = .ok (.return_, 1) := by decide +kernel
theorem dX5_advance_85 : decode cX5_advance 85 = .ok (.aload_n 0, 1) := by decide +kernel
theorem dX5_advance_86 : decode cX5_advance 86 = .ok (.dup, 1) := by decide +kernel
theorem dX5_advance_87 : decode cX5_advance 87 = .ok (.getfield 24, 3) := by decide +kernel
theorem dX5_advance_90 : decode cX5_advance 90 = .ok (.iconst 1, 1) := by decide +kernel
theorem dX5_advance_91 : decode cX5_advance 91 = .ok (.iadd, 1) := by decide +kernel
theorem dX5_advance_92 : decode cX5_advance 92 = .ok (.putfield 24, 3) := by decide +kernel
theorem dX5_advance_95 : decode cX5_advance 95 = .ok (.aload_n 0, 1) := by decide +kernel
theorem dX5_advance_96 : decode cX5_advance 96 = .ok (.iload_n 1, 1) := by decide +kernel
theorem dX5_advance_97 : decode cX5_advance 97 = .ok (.invokestatic 104, 3) := by decide +kernel
theorem dX5_advance_100 : decode cX5_advance 100 = .ok (.putfield 40, 3) := by decide +kernel
theorem dX5_advance_103 : decode cX5_advance 103 = .ok (.aload_n 0, 1) := by decide +kernel
theorem dX5_advance_104 : decode cX5_advance 104 = .ok (.iload_n 1, 1) := by decide +kernel
theorem dX5_advance_105 : decode cX5_advance 105 = .ok (.bipush 97, 2) := by decide +kernel
theorem dX5_advance_107 : decode cX5_advance 107 = .ok (.isub, 1) := by decide +kernel
theorem dX5_advance_108 : decode cX5_advance 108 = .ok (.putfield 69, 3) := by decide +kernel
theorem dX5_advance_111 : decode cX5_advance 111 = .ok (.return_, 1) := by decide +kernel
theorem dX5_isFigure_0 : decode cX5_isFigure 0 = .ok (.iload_n 0, 1) := by decide +kernel
theorem dX5_isFigure_1 : decode cX5_isFigure 1 = .ok (.bipush 48, 2) := by decide +kernel
theorem dX5_isFigure_3 : decode cX5_isFigure 3 = .ok (.if_icmp .lt 13, 3) := by decide +kernel
theorem dX5_isFigure_6 : decode cX5_isFigure 6 = .ok (.iload_n 0, 1) := by decide +kernel
theorem dX5_isFigure_7 : decode cX5_isFigure 7 = .ok (.bipush 57, 2) := by decide +kernel
theorem dX5_isFigure_9 : decode cX5_isFigure 9 = .ok (.if_icmp .gt 7, 3) := by decide +kernel
theorem dX5_isFigure_12 : decode cX5_isFigure 12 = .ok (.iconst 1, 1) := by decide +kernel
theorem dX5_isFigure_13 : decode cX5_isFigure 13 = .ok (.goto 4, 3) := by decide +kernel
theorem dX5_isFigure_16 : decode cX5_isFigure 16 = .ok (.iconst 0, 1) := by decide +kernel
theorem dX5_isFigure_17 : decode cX5_isFigure 17 = .ok (.ireturn, 1) := by decide +kernel
theorem dX5_signOf_0 : decode cX5_signOf 0 = .ok (.iload_n 0, 1) := by decide +kernel
theorem dX5_signOf_1 : decode cX5_signOf 1 = .ok (.bipush 97, 2) := by decide +kernel
theorem dX5_signOf_3 : decode cX5_signOf 3 = .ok (.if_icmp .lt 11, 3) := by decide +kernel
theorem dX5_signOf_6 : decode cX5_signOf 6 = .ok (.iload_n 0, 1) := by decide +kernel
theorem dX5_signOf_7 : decode cX5_signOf 7 = .ok (.bipush 105, 2) := by decide +kernel
theorem dX5_signOf_9 : decode cX5_signOf 9 = .ok (.if_icmp .ge 5, 3) := by decide +kernel
theorem dX5_signOf_12 : decode cX5_signOf 12 = .ok (.iconst 3, 1) := by decide +kernel
theorem dX5_signOf_13 : decode cX5_signOf 13 = .ok (.ireturn, 1) := by decide +kernel
theorem dX5_signOf_14 : decode cX5_signOf 14 = .ok (.iload_n 0, 1) := by decide +kernel
theorem dX5_signOf_15 : decode cX5_signOf 15 = .ok (.lookupswitch 39 #[(59, 37), (113, 35), (115, 33)], 33) := by decide +kernel
theorem dX5_signOf_48 : decode cX5_signOf 48 = .ok (.iconst 1, 1) := by decide +kernel
theorem dX5_signOf_49 : decode cX5_signOf 49 = .ok (.ireturn, 1) := by decide +kernel
theorem dX5_signOf_50 : decode cX5_signOf 50 = .ok (.iconst 2, 1) := by decide +kernel
theorem dX5_signOf_51 : decode cX5_signOf 51 = .ok (.ireturn, 1) := by decide +kernel
theorem dX5_signOf_52 : decode cX5_signOf 52 = .ok (.iconst 5, 1) := by decide +kernel
theorem dX5_signOf_53 : decode cX5_signOf 53 = .ok (.ireturn, 1) := by decide +kernel
theorem dX5_signOf_54 : decode cX5_signOf 54 = .ok (.bipush 6, 2) := by decide +kernel
theorem dX5_signOf_56 : decode cX5_signOf 56 = .ok (.ireturn, 1) := by decide +kernel
theorem dX5_takeNumber_0 : decode cX5_takeNumber 0 = .ok (.aload_n 0, 1) := by decide +kernel
theorem dX5_takeNumber_1 : decode cX5_takeNumber 1 = .ok (.getfield 9, 3) := by decide +kernel
theorem dX5_takeNumber_4 : decode cX5_takeNumber 4 = .ok (.aload_n 0, 1) := by decide +kernel
theorem dX5_takeNumber_5 : decode cX5_takeNumber 5 = .ok (.getfield 24, 3) := by decide +kernel
theorem dX5_takeNumber_8 : decode cX5_takeNumber 8 = .ok (.iaload, 1) := by decide +kernel
theorem dX5_takeNumber_9 : decode cX5_takeNumber 9 = .ok (.istore_n 1, 1) := by decide +kernel
theorem dX5_takeNumber_10 : decode cX5_takeNumber 10 = .ok (.iconst 0, 1) := by decide +kernel
theorem dX5_takeNumber_11 : decode cX5_takeNumber 11 = .ok (.istore_n 2, 1) := by decide +kernel
theorem dX5_takeNumber_12 : decode cX5_takeNumber 12 = .ok (.aload_n 0, 1) := by decide +kernel
theorem dX5_takeNumber_13 : decode cX5_takeNumber 13 = .ok (.iconst 0, 1) := by decide +kernel
theorem dX5_takeNumber_14 : decode cX5_takeNumber 14 = .ok (.putfield 69, 3) := by decide +kernel
theorem dX5_takeNumber_17 : decode cX5_takeNumber 17 = .ok (.aload_n 0, 1) := by decide +kernel
theorem dX5_takeNumber_18 : decode cX5_takeNumber 18 = .ok (.getfield 24, 3) := by decide +kernel
theorem dX5_takeNumber_21 : decode cX5_takeNumber 21 = .ok (.aload_n 0, 1) := by decide +kernel
theorem dX5_takeNumber_22 : decode cX5_takeNumber 22 = .ok (.getfield 15, 3) := by decide +kernel
theorem dX5_takeNumber_25 : decode cX5_takeNumber 25 = .ok (.if_icmp .ge 63, 3) := by decide +kernel
theorem dX5_takeNumber_28 : decode cX5_takeNumber 28 = .ok (.aload_n 0, 1) := by decide +kernel
theorem dX5_takeNumber_29 : decode cX5_takeNumber 29 = .ok (.getfield 9, 3) := by decide +kernel
theorem dX5_takeNumber_32 : decode cX5_takeNumber 32 = .ok (.aload_n 0, 1) := by decide +kernel
theorem dX5_takeNumber_33 : decode cX5_takeNumber 33 = .ok (.getfield 24, 3) := by decide +kernel
theorem dX5_takeNumber_36 : decode cX5_takeNumber 36 = .ok (.iaload, 1) := by decide +kernel
theorem dX5_takeNumber_37 : decode cX5_takeNumber 37 = .ok (.invokestatic 97, 3) := by decide +kernel
theorem dX5_takeNumber_40 : decode cX5_takeNumber 40 = .ok (.ifCond .eq 48, 3) := by decide +kernel
theorem dX5_takeNumber_43 : decode cX5_takeNumber 43 = .ok (.iload_n 2, 1) := by decide +kernel
theorem dX5_takeNumber_44 : decode cX5_takeNumber 44 = .ok (.iconst 2, 1) := by decide +kernel
theorem dX5_takeNumber_45 : decode cX5_takeNumber 45 = .ok (.if_icmp .ge 27, 3) := by decide +kernel
theorem dX5_takeNumber_48 : decode cX5_takeNumber 48 = .ok (.aload_n 0, 1) := by decide +kernel
theorem dX5_takeNumber_49 : decode cX5_takeNumber 49 = .ok (.bipush 10, 2) := by decide +kernel
theorem dX5_takeNumber_51 : decode cX5_takeNumber 51 = .ok (.aload_n 0, 1) := by decide +kernel
theorem dX5_takeNumber_52 : decode cX5_takeNumber 52 = .ok (.getfield 69, 3) := by decide +kernel
theorem dX5_takeNumber_55 : decode cX5_takeNumber 55 = .ok (.imul, 1) := by decide +kernel
theorem dX5_takeNumber_56 : decode cX5_takeNumber 56 = .ok (.aload_n 0, 1) := by decide +kernel
theorem dX5_takeNumber_57 : decode cX5_takeNumber 57 = .ok (.getfield 9, 3) := by decide +kernel
theorem dX5_takeNumber_60 : decode cX5_takeNumber 60 = .ok (.aload_n 0, 1) := by decide +kernel
theorem dX5_takeNumber_61 : decode cX5_takeNumber 61 = .ok (.getfield 24, 3) := by decide +kernel
theorem dX5_takeNumber_64 : decode cX5_takeNumber 64 = .ok (.iaload, 1) := by decide +kernel
theorem dX5_takeNumber_65 : decode cX5_takeNumber 65 = .ok (.iadd, 1) := by decide +kernel
theorem dX5_takeNumber_66 : decode cX5_takeNumber 66 = .ok (.bipush 48, 2) := by decide +kernel
theorem dX5_takeNumber_68 : decode cX5_takeNumber 68 = .ok (.isub, 1) := by decide +kernel
theorem dX5_takeNumber_69 : decode cX5_takeNumber 69 = .ok (.putfield 69, 3) := by decide +kernel
theorem dX5_takeNumber_72 : decode cX5_takeNumber 72 = .ok (.iinc 2 1, 3) := by decide +kernel
theorem dX5_takeNumber_75 : decode cX5_takeNumber 75 = .ok (.aload_n 0, 1) := by decide +kernel
theorem dX5_takeNumber_76 : decode cX5_takeNumber 76 = .ok (.dup, 1) := by decide +kernel
theorem dX5_takeNumber_77 : decode cX5_takeNumber 77 = .ok (.getfield 24, 3) := by decide +kernel
theorem dX5_takeNumber_80 : decode cX5_takeNumber 80 = .ok (.iconst 1, 1) := by decide +kernel
theorem dX5_takeNumber_81 : decode cX5_takeNumber 81 = .ok (.iadd, 1) := by decide +kernel
theorem dX5_takeNumber_82 : decode cX5_takeNumber 82 = .ok (.putfield 24, 3) := by decide +kernel
theorem dX5_takeNumber_85 : decode cX5_takeNumber 85 = .ok (.goto (-68), 3) := by decide +kernel
theorem dX5_takeNumber_88 : decode cX5_takeNumber 88 = .ok (.iload_n 2, 1) := by decide +kernel
theorem dX5_takeNumber_89 : decode cX5_takeNumber 89 = .ok (.iconst 2, 1) := by decide +kernel
theorem dX5_takeNumber_90 : decode cX5_takeNumber 90 = .ok (.if_icmp .gt 14, 3) := by decide +kernel
theorem dX5_takeNumber_93 : decode cX5_takeNumber 93 = .ok (.iload_n 2, 1) := by decide +kernel
theorem dX5_takeNumber_94 : decode cX5_takeNumber 94 = .ok (.iconst 2, 1) := by decide +kernel
theorem dX5_takeNumber_95 : decode cX5_takeNumber 95 = .ok (.if_icmp .ne 13, 3) := by decide +kernel
theorem dX5_takeNumber_98 : decode cX5_takeNumber 98 = .ok (.iload_n 1, 1) := by decide +kernel
theorem dX5_takeNumber_99 : decode cX5_takeNumber 99 = .ok (.bipush 48, 2) := by decide +kernel
theorem dX5_takeNumber_101 : decode cX5_takeNumber 101 = .ok (.if_icmp .ne 7, 3) := by decide +kernel
theorem dX5_takeNumber_104 : decode cX5_takeNumber 104 = .ok (.iconst 1, 1) := by decide +kernel
theorem dX5_takeNumber_105 : decode cX5_takeNumber 105 = .ok (.goto 4, 3) := by decide +kernel
theorem dX5_takeNumber_108 : decode cX5_takeNumber 108 = .ok (.iconst 0, 1) := by decide +kernel
theorem dX5_takeNumber_109 : decode cX5_takeNumber 109 = .ok (.istore_n 3, 1) := by decide +kernel
theorem dX5_takeNumber_110 : decode cX5_takeNumber 110 = .ok (.aload_n 0, 1) := by decide +kernel
theorem dX5_takeNumber_111 : decode cX5_takeNumber 111 = .ok (.iload_n 3, 1) := by decide +kernel
theorem dX5_takeNumber_112 : decode cX5_takeNumber 112 = .ok (.ifCond .eq 8, 3) := by decide +kernel
theorem dX5_takeNumber_115 : decode cX5_takeNumber 115 = .ok (.bipush 6, 2) := by decide +kernel
theorem dX5_takeNumber_117 : decode cX5_takeNumber 117 = .ok (.goto 4, 3) := by decide +kernel
theorem dX5_takeNumber_120 : decode cX5_takeNumber 120 = .ok (.iconst 4, 1) := by decide +kernel
theorem dX5_takeNumber_121 : decode cX5_takeNumber 121 = .ok (.putfield 40, 3) := by decide +kernel
theorem dX5_takeNumber_124 : decode cX5_takeNumber 124 = .ok (.return_, 1) := by decide +kernel
theorem dX6_init_0 : decode cX6_init 0 = .ok (.aload_n 0, 1) := by decide +kernel
theorem dX6_init_1 : decode cX6_init 1 = .ok (.invokespecial 1, 3) := by decide +kernel
theorem dX6_init_4 : decode cX6_init 4 = .ok (.aload_n 0, 1) := by decide +kernel
theorem dX6_init_5 : decode cX6_init 5 = .ok (.new 7, 3) := by decide +kernel
theorem dX6_init_8 : decode cX6_init 8 = .ok (.dup, 1) := by decide +kernel
theorem dX6_init_9 : decode cX6_init 9 = .ok (.invokespecial 9, 3) := by decide +kernel
theorem dX6_init_12 : decode cX6_init 12 = .ok (.putfield 10, 3) := by decide +kernel
theorem dX6_init_15 : decode cX6_init 15 = .ok (.aload_n 0, 1) := by decide +kernel
theorem dX6_init_16 : decode cX6_init 16 = .ok (.new 16, 3) := by decide +kernel
theorem dX6_init_19 : decode cX6_init 19 = .ok (.dup, 1) := by decide +kernel
theorem dX6_init_20 : decode cX6_init 20 = .ok (.invokespecial 18, 3) := by decide +kernel
theorem dX6_init_23 : decode cX6_init 23 = .ok (.putfield 19, 3) := by decide +kernel
theorem dX6_init_26 : decode cX6_init 26 = .ok (.aload_n 0, 1) := by decide +kernel
theorem dX6_init_27 : decode cX6_init 27 = .ok (.new 16, 3) := by decide +kernel
theorem dX6_init_30 : decode cX6_init 30 = .ok (.dup, 1) := by decide +kernel
theorem dX6_init_31 : decode cX6_init 31 = .ok (.invokespecial 18, 3) := by decide +kernel
theorem dX6_init_34 : decode cX6_init 34 = .ok (.putfield 23, 3) := by decide +kernel
theorem dX6_init_37 : decode cX6_init 37 = .ok (.aload_n 0, 1) := by decide +kernel
theorem dX6_init_38 : decode cX6_init 38 = .ok (.iconst 2, 1) := by decide +kernel
theorem dX6_init_39 : decode cX6_init 39 = .ok (.anewarray 16, 3) := by decide +kernel
theorem dX6_init_42 : decode cX6_init 42 = .ok (.putfield 26, 3) := by decide +kernel
theorem dX6_init_45 : decode cX6_init 45 = .ok (.iconst 0, 1) := by decide +kernel
theorem dX6_init_46 : decode cX6_init 46 = .ok (.istore_n 1, 1) := by decide +kernel
theorem dX6_init_47 : decode cX6_init 47 = .ok (.iload_n 1, 1) := by decide +kernel
theorem dX6_init_48 : decode cX6_init 48 = .ok (.iconst 2, 1) := by decide +kernel
theorem dX6_init_49 : decode cX6_init 49 = .ok (.if_icmp .ge 22, 3) := by decide +kernel
theorem dX6_init_52 : decode cX6_init 52 = .ok (.aload_n 0, 1) := by decide +kernel
theorem dX6_init_53 : decode cX6_init 53 = .ok (.getfield 26, 3) := by decide +kernel
theorem dX6_init_56 : decode cX6_init 56 = .ok (.iload_n 1, 1) := by decide +kernel
theorem dX6_init_57 : decode cX6_init 57 = .ok (.new 16, 3) := by decide +kernel
theorem dX6_init_60 : decode cX6_init 60 = .ok (.dup, 1) := by decide +kernel
theorem dX6_init_61 : decode cX6_init 61 = .ok (.invokespecial 18, 3) := by decide +kernel
theorem dX6_init_64 : decode cX6_init 64 = .ok (.aastore, 1) := by decide +kernel
theorem dX6_init_65 : decode cX6_init 65 = .ok (.iinc 1 1, 3) := by decide +kernel
theorem dX6_init_68 : decode cX6_init 68 = .ok (.goto (-21), 3) := by decide +kernel
theorem dX6_init_71 : decode cX6_init 71 = .ok (.aload_n 0, 1) := by decide +kernel
theorem dX6_init_72 : decode cX6_init 72 = .ok (.iconst 0, 1) := by decide +kernel
theorem dX6_init_73 : decode cX6_init 73 = .ok (.putfield 30, 3) := by decide +kernel
theorem dX6_init_76 : decode cX6_init 76 = .ok (.aload_n 0, 1) := by decide +kernel
theorem dX6_init_77 : decode cX6_init 77 = .ok (.new 34, 3) := by decide +kernel
theorem dX6_init_80 : decode cX6_init 80 = .ok (.dup, 1) := by decide +kernel
theorem dX6_init_81 : decode cX6_init 81 = .ok (.invokespecial 36, 3) := by decide +kernel
theorem dX6_init_84 : decode cX6_init 84 = .ok (.putfield 37, 3) := by decide +kernel
theorem dX6_init_87 : decode cX6_init 87 = .ok (.aload_n 0, 1) := by decide +kernel
theorem dX6_init_88 : decode cX6_init 88 = .ok (.new 41, 3) := by decide +kernel
theorem dX6_init_91 : decode cX6_init 91 = .ok (.dup, 1) := by decide +kernel
theorem dX6_init_92 : decode cX6_init 92 = .ok (.invokespecial 43, 3) := by decide +kernel
theorem dX6_init_95 : decode cX6_init 95 = .ok (.putfield 44, 3) := by decide +kernel
theorem dX6_init_98 : decode cX6_init 98 = .ok (.aload_n 0, 1) := by decide +kernel
theorem dX6_init_99 : decode cX6_init 99 = .ok (.new 48, 3) := by decide +kernel
theorem dX6_init_102 : decode cX6_init 102 = .ok (.dup, 1) := by decide +kernel
theorem dX6_init_103 : decode cX6_init 103 = .ok (.invokespecial 50, 3) := by decide +kernel
theorem dX6_init_106 : decode cX6_init 106 = .ok (.putfield 51, 3) := by decide +kernel
theorem dX6_init_109 : decode cX6_init 109 = .ok (.aload_n 0, 1) := by decide +kernel
theorem dX6_init_110 : decode cX6_init 110 = .ok (.iconst 4, 1) := by decide +kernel
theorem dX6_init_111 : decode cX6_init 111 = .ok (.newarray .int, 2) := by decide +kernel
theorem dX6_init_113 : decode cX6_init 113 = .ok (.putfield 55, 3) := by decide +kernel
theorem dX6_init_116 : decode cX6_init 116 = .ok (.aload_n 0, 1) := by decide +kernel
theorem dX6_init_117 : decode cX6_init 117 = .ok (.bipush 6, 2) := by decide +kernel
theorem dX6_init_119 : decode cX6_init 119 = .ok (.newarray .int, 2) := by decide +kernel
theorem dX6_init_121 : decode cX6_init 121 = .ok (.putfield 59, 3) := by decide +kernel
theorem dX6_init_124 : decode cX6_init 124 = .ok (.aload_n 0, 1) := by decide +kernel
theorem dX6_init_125 : decode cX6_init 125 = .ok (.iconst 0, 1) := by decide +kernel
theorem dX6_init_126 : decode cX6_init 126 = .ok (.putfield 62, 3) := by decide +kernel
theorem dX6_init_129 : decode cX6_init 129 = .ok (.return_, 1) := by decide +kernel
theorem dX6_type_0 : decode cX6_type 0 = .ok (.iload_n 1, 1) := by decide +kernel
theorem dX6_type_1 : decode cX6_type 1 = .ok (.ifCond .lt 10, 3) := by decide +kernel
theorem dX6_type_4 : decode cX6_type 4 = .ok (.iload_n 1, 1) := by decide +kernel
theorem dX6_type_5 : decode cX6_type 5 = .ok (.sipush 255, 3) := by decide +kernel
theorem dX6_type_8 : decode cX6_type 8 = .ok (.if_icmp .le 5, 3) := by decide +kernel
theorem dX6_type_11 : decode cX6_type 11 = .ok (.iconst (-1), 1) := by decide +kernel
theorem dX6_type_12 : decode cX6_type 12 = .ok (.ireturn, 1) := by decide +kernel
theorem dX6_type_13 : decode cX6_type 13 = .ok (.aload_n 0, 1) := by decide +kernel
theorem dX6_type_14 : decode cX6_type 14 = .ok (.getfield 10, 3) := by decide +kernel
theorem dX6_type_17 : decode cX6_type 17 = .ok (.iload_n 1, 1) := by decide +kernel
theorem dX6_type_18 : decode cX6_type 18 = .ok (.invokevirtual 65, 3) := by decide +kernel
theorem dX6_type_21 : decode cX6_type 21 = .ok (.ifCond .eq 13, 3) := by decide +kernel
theorem dX6_type_24 : decode cX6_type 24 = .ok (.aload_n 0, 1) := by decide +kernel
theorem dX6_type_25 : decode cX6_type 25 = .ok (.getfield 10, 3) := by decide +kernel
theorem dX6_type_28 : decode cX6_type 28 = .ok (.getfield 69, 3) := by decide +kernel
theorem dX6_type_31 : decode cX6_type 31 = .ok (.goto 5, 3) := by decide +kernel
theorem dX6_type_34 : decode cX6_type 34 = .ok (.bipush (-3), 2) := by decide +kernel
theorem dX6_type_36 : decode cX6_type 36 = .ok (.ireturn, 1) := by decide +kernel
theorem dX6_clear_0 : decode cX6_clear 0 = .ok (.aload_n 0, 1) := by decide +kernel
theorem dX6_clear_1 : decode cX6_clear 1 = .ok (.getfield 10, 3) := by decide +kernel
theorem dX6_clear_4 : decode cX6_clear 4 = .ok (.getfield 69, 3) := by decide +kernel
theorem dX6_clear_7 : decode cX6_clear 7 = .ok (.istore_n 1, 1) := by decide +kernel
theorem dX6_clear_8 : decode cX6_clear 8 = .ok (.aload_n 0, 1) := by decide +kernel
theorem dX6_clear_9 : decode cX6_clear 9 = .ok (.getfield 10, 3) := by decide +kernel
theorem dX6_clear_12 : decode cX6_clear 12 = .ok (.iconst 0, 1) := by decide +kernel
theorem dX6_clear_13 : decode cX6_clear 13 = .ok (.putfield 69, 3) := by decide +kernel
theorem dX6_clear_16 : decode cX6_clear 16 = .ok (.iload_n 1, 1) := by decide +kernel
theorem dX6_clear_17 : decode cX6_clear 17 = .ok (.ireturn, 1) := by decide +kernel
theorem dX6_houses_0 : decode cX6_houses 0 = .ok (.aload_n 0, 1) := by decide +kernel
theorem dX6_houses_1 : decode cX6_houses 1 = .ok (.getfield 10, 3) := by decide +kernel
theorem dX6_houses_4 : decode cX6_houses 4 = .ok (.aload_n 0, 1) := by decide +kernel
theorem dX6_houses_5 : decode cX6_houses 5 = .ok (.getfield 23, 3) := by decide +kernel
theorem dX6_houses_8 : decode cX6_houses 8 = .ok (.invokevirtual 72, 3) := by decide +kernel
theorem dX6_houses_11 : decode cX6_houses 11 = .ok (.istore_n 1, 1) := by decide +kernel
theorem dX6_houses_12 : decode cX6_houses 12 = .ok (.iload_n 1, 1) := by decide +kernel
theorem dX6_houses_13 : decode cX6_houses 13 = .ok (.ifCond .ge 5, 3) := by decide +kernel
theorem dX6_houses_16 : decode cX6_houses 16 = .ok (.iload_n 1, 1) := by decide +kernel
theorem dX6_houses_17 : decode cX6_houses 17 = .ok (.ireturn, 1) := by decide +kernel
theorem dX6_houses_18 : decode cX6_houses 18 = .ok (.aload_n 0, 1) := by decide +kernel
theorem dX6_houses_19 : decode cX6_houses 19 = .ok (.getfield 19, 3) := by decide +kernel
theorem dX6_houses_22 : decode cX6_houses 22 = .ok (.aload_n 0, 1) := by decide +kernel
theorem dX6_houses_23 : decode cX6_houses 23 = .ok (.getfield 23, 3) := by decide +kernel
theorem dX6_houses_26 : decode cX6_houses 26 = .ok (.invokevirtual 76, 3) := by decide +kernel
theorem dX6_houses_29 : decode cX6_houses 29 = .ok (.aload_n 0, 1) := by decide +kernel
theorem dX6_houses_30 : decode cX6_houses 30 = .ok (.getfield 10, 3) := by decide +kernel
theorem dX6_houses_33 : decode cX6_houses 33 = .ok (.iconst 0, 1) := by decide +kernel
theorem dX6_houses_34 : decode cX6_houses 34 = .ok (.putfield 69, 3) := by decide +kernel
theorem dX6_houses_37 : decode cX6_houses 37 = .ok (.aload_n 0, 1) := by decide +kernel
theorem dX6_houses_38 : decode cX6_houses 38 = .ok (.iconst 0, 1) := by decide +kernel
theorem dX6_houses_39 : decode cX6_houses 39 = .ok (.putfield 30, 3) := by decide +kernel
theorem dX6_houses_42 : decode cX6_houses 42 = .ok (.aload_n 0, 1) := by decide +kernel
theorem dX6_houses_43 : decode cX6_houses 43 = .ok (.getfield 37, 3) := by decide +kernel
theorem dX6_houses_46 : decode cX6_houses 46 = .ok (.iconst 0, 1) := by decide +kernel
theorem dX6_houses_47 : decode cX6_houses 47 = .ok (.putfield 80, 3) := by decide +kernel
theorem dX6_houses_50 : decode cX6_houses 50 = .ok (.aload_n 0, 1) := by decide +kernel
theorem dX6_houses_51 : decode cX6_houses 51 = .ok (.iconst 0, 1) := by decide +kernel
theorem dX6_houses_52 : decode cX6_houses 52 = .ok (.putfield 62, 3) := by decide +kernel
theorem dX6_houses_55 : decode cX6_houses 55 = .ok (.iload_n 1, 1) := by decide +kernel
theorem dX6_houses_56 : decode cX6_houses 56 = .ok (.ireturn, 1) := by decide +kernel
theorem dX6_entry_0 : decode cX6_entry 0 = .ok (.aload_n 0, 1) := by decide +kernel
theorem dX6_entry_1 : decode cX6_entry 1 = .ok (.getfield 19, 3) := by decide +kernel
theorem dX6_entry_4 : decode cX6_entry 4 = .ok (.iload_n 1, 1) := by decide +kernel
theorem dX6_entry_5 : decode cX6_entry 5 = .ok (.iload_n 2, 1) := by decide +kernel
theorem dX6_entry_6 : decode cX6_entry 6 = .ok (.invokevirtual 81, 3) := by decide +kernel
theorem dX6_entry_9 : decode cX6_entry 9 = .ok (.ifCond .ne 5, 3) := by decide +kernel
theorem dX6_entry_12 : decode cX6_entry 12 = .ok (.iconst (-1), 1) := by decide +kernel
theorem dX6_entry_13 : decode cX6_entry 13 = .ok (.ireturn, 1) := by decide +kernel
theorem dX6_entry_14 : decode cX6_entry 14 = .ok (.aload_n 0, 1) := by decide +kernel
theorem dX6_entry_15 : decode cX6_entry 15 = .ok (.getfield 19, 3) := by decide +kernel
theorem dX6_entry_18 : decode cX6_entry 18 = .ok (.getfield 85, 3) := by decide +kernel
theorem dX6_entry_21 : decode cX6_entry 21 = .ok (.iload_n 1, 1) := by decide +kernel
theorem dX6_entry_22 : decode cX6_entry 22 = .ok (.aaload, 1) := by decide +kernel
theorem dX6_entry_23 : decode cX6_entry 23 = .ok (.astore 4, 2) := by decide +kernel
theorem dX6_entry_25 : decode cX6_entry 25 = .ok (.iload_n 3, 1) := by decide +kernel
theorem dX6_entry_26 : decode cX6_entry 26 = .ok (.tableswitch 57 0 2 #[26, 34, 42], 26) := by decide +kernel
theorem dX6_entry_52 : decode cX6_entry 52 = .ok (.aload 4, 2) := by decide +kernel
theorem dX6_entry_54 : decode cX6_entry 54 = .ok (.getfield 89, 3) := by decide +kernel
theorem dX6_entry_57 : decode cX6_entry 57 = .ok (.iload_n 2, 1) := by decide +kernel
theorem dX6_entry_58 : decode cX6_entry 58 = .ok (.iaload, 1) := by decide +kernel
theorem dX6_entry_59 : decode cX6_entry 59 = .ok (.ireturn, 1) := by decide +kernel
theorem dX6_entry_60 : decode cX6_entry 60 = .ok (.aload 4, 2) := by decide +kernel
theorem dX6_entry_62 : decode cX6_entry 62 = .ok (.getfield 94, 3) := by decide +kernel
theorem dX6_entry_65 : decode cX6_entry 65 = .ok (.iload_n 2, 1) := by decide +kernel
theorem dX6_entry_66 : decode cX6_entry 66 = .ok (.iaload, 1) := by decide +kernel
theorem dX6_entry_67 : decode cX6_entry 67 = .ok (.ireturn, 1) := by decide +kernel
theorem dX6_entry_68 : decode cX6_entry 68 = .ok (.aload 4, 2) := by decide +kernel
theorem dX6_entry_70 : decode cX6_entry 70 = .ok (.iload_n 2, 1) := by decide +kernel
theorem dX6_entry_71 : decode cX6_entry 71 = .ok (.invokevirtual 97, 3) := by decide +kernel
theorem dX6_entry_74 : decode cX6_entry 74 = .ok (.ifCond .eq 7, 3) := by decide +kernel
theorem dX6_entry_77 : decode cX6_entry 77 = .ok (.iconst 1, 1) := by decide +kernel
theorem dX6_entry_78 : decode cX6_entry 78 = .ok (.goto 4, 3) := by decide +kernel
theorem dX6_entry_81 : decode cX6_entry 81 = .ok (.iconst 0, 1) := by decide +kernel
theorem dX6_entry_82 : decode cX6_entry 82 = .ok (.ireturn, 1) := by decide +kernel
theorem dX6_entry_83 : decode cX6_entry 83 = .ok (.iconst (-1), 1) := by decide +kernel
theorem dX6_entry_84 : decode cX6_entry 84 = .ok (.ireturn, 1) := by decide +kernel
theorem dX6_strikes_0 : decode cX6_strikes 0 = .ok (.aload_n 0, 1) := by decide +kernel
theorem dX6_strikes_1 : decode cX6_strikes 1 = .ok (.getfield 19, 3) := by decide +kernel
theorem dX6_strikes_4 : decode cX6_strikes 4 = .ok (.iload_n 1, 1) := by decide +kernel
theorem dX6_strikes_5 : decode cX6_strikes 5 = .ok (.iload_n 2, 1) := by decide +kernel
theorem dX6_strikes_6 : decode cX6_strikes 6 = .ok (.invokevirtual 81, 3) := by decide +kernel
theorem dX6_strikes_9 : decode cX6_strikes 9 = .ok (.ifCond .ne 5, 3) := by decide +kernel
theorem dX6_strikes_12 : decode cX6_strikes 12 = .ok (.iconst (-1), 1) := by decide +kernel
theorem dX6_strikes_13 : decode cX6_strikes 13 = .ok (.ireturn, 1) := by decide +kernel
theorem dX6_strikes_14 : decode cX6_strikes 14 = .ok (.aload_n 0, 1) := by decide +kernel
theorem dX6_strikes_15 : decode cX6_strikes 15 = .ok (.getfield 19, 3) := by decide +kernel
theorem dX6_strikes_18 : decode cX6_strikes 18 = .ok (.getfield 85, 3) := by decide +kernel
theorem dX6_strikes_21 : decode cX6_strikes 21 = .ok (.iload_n 1, 1) := by decide +kernel
theorem dX6_strikes_22 : decode cX6_strikes 22 = .ok (.aaload, 1) := by decide +kernel
theorem dX6_strikes_23 : decode cX6_strikes 23 = .ok (.astore_n 3, 1) := by decide +kernel
theorem dX6_strikes_24 : decode cX6_strikes 24 = .ok (.aload_n 0, 1) := by decide +kernel
theorem dX6_strikes_25 : decode cX6_strikes 25 = .ok (.getfield 37, 3) := by decide +kernel
theorem dX6_strikes_28 : decode cX6_strikes 28 = .ok (.iconst 0, 1) := by decide +kernel
theorem dX6_strikes_29 : decode cX6_strikes 29 = .ok (.iload_n 1, 1) := by decide +kernel
theorem dX6_strikes_30 : decode cX6_strikes 30 = .ok (.iload_n 2, 1) := by decide +kernel
theorem dX6_strikes_31 : decode cX6_strikes 31 = .ok (.iconst 0, 1) := by decide +kernel
theorem dX6_strikes_32 : decode cX6_strikes 32 = .ok (.invokevirtual 100, 3) := by decide +kernel
theorem dX6_strikes_35 : decode cX6_strikes 35 = .ok (.aload_n 3, 1) := by decide +kernel
theorem dX6_strikes_36 : decode cX6_strikes 36 = .ok (.iload_n 2, 1) := by decide +kernel
theorem dX6_strikes_37 : decode cX6_strikes 37 = .ok (.invokevirtual 104, 3) := by decide +kernel
theorem dX6_strikes_40 : decode cX6_strikes 40 = .ok (.aload_n 3, 1) := by decide +kernel
theorem dX6_strikes_41 : decode cX6_strikes 41 = .ok (.iload_n 2, 1) := by decide +kernel
theorem dX6_strikes_42 : decode cX6_strikes 42 = .ok (.invokevirtual 97, 3) := by decide +kernel
theorem dX6_strikes_45 : decode cX6_strikes 45 = .ok (.ifCond .eq 7, 3) := by decide +kernel
theorem dX6_strikes_48 : decode cX6_strikes 48 = .ok (.iconst 1, 1) := by decide +kernel
theorem dX6_strikes_49 : decode cX6_strikes 49 = .ok (.goto 4, 3) := by decide +kernel
theorem dX6_strikes_52 : decode cX6_strikes 52 = .ok (.iconst 0, 1) := by decide +kernel
theorem dX6_strikes_53 : decode cX6_strikes 53 = .ok (.ireturn, 1) := by decide +kernel
