theorem dX7_knots_0 : decode cX7_knots 0 = .ok (.aload_n 0, 1) := by decide +kernel
theorem dX7_knots_1 : decode cX7_knots 1 = .ok (.invokevirtual 149, 3) := by decide +kernel
theorem dX7_knots_4 : decode cX7_knots 4 = .ok (.iconst 0, 1) := by decide +kernel
theorem dX7_knots_5 : decode cX7_knots 5 = .ok (.istore_n 1, 1) := by decide +kernel
theorem dX7_knots_6 : decode cX7_knots 6 = .ok (.iconst 0, 1) := by decide +kernel
theorem dX7_knots_7 : decode cX7_knots 7 = .ok (.istore_n 2, 1) := by decide +kernel
theorem dX7_knots_8 : decode cX7_knots 8 = .ok (.iload_n 2, 1) := by decide +kernel
theorem dX7_knots_9 : decode cX7_knots 9 = .ok (.bipush 8, 2) := by decide +kernel
theorem dX7_knots_11 : decode cX7_knots 11 = .ok (.if_icmp .ge 22, 3) := by decide +kernel
theorem dX7_knots_14 : decode cX7_knots 14 = .ok (.iload_n 1, 1) := by decide +kernel
theorem dX7_knots_15 : decode cX7_knots 15 = .ok (.aload_n 0, 1) := by decide +kernel
theorem dX7_knots_16 : decode cX7_knots 16 = .ok (.getfield 42, 3) := by decide +kernel
theorem dX7_knots_19 : decode cX7_knots 19 = .ok (.iload_n 2, 1) := by decide +kernel
theorem dX7_knots_20 : decode cX7_knots 20 = .ok (.iaload, 1) := by decide +kernel
theorem dX7_knots_21 : decode cX7_knots 21 = .ok (.iconst 1, 1) := by decide +kernel
theorem dX7_knots_22 : decode cX7_knots 22 = .ok (.iload_n 2, 1) := by decide +kernel
theorem dX7_knots_23 : decode cX7_knots 23 = .ok (.ishl, 1) := by decide +kernel
theorem dX7_knots_24 : decode cX7_knots 24 = .ok (.iand, 1) := by decide +kernel
theorem dX7_knots_25 : decode cX7_knots 25 = .ok (.ior, 1) := by decide +kernel
theorem dX7_knots_26 : decode cX7_knots 26 = .ok (.istore_n 1, 1) := by decide +kernel
theorem dX7_knots_27 : decode cX7_knots 27 = .ok (.iinc 2 1, 3) := by decide +kernel
theorem dX7_knots_30 : decode cX7_knots 30 = .ok (.goto (-22), 3) := by decide +kernel
theorem dX7_knots_33 : decode cX7_knots 33 = .ok (.iload_n 1, 1) := by decide +kernel
theorem dX7_knots_34 : decode cX7_knots 34 = .ok (.ireturn, 1) := by decide +kernel
theorem dX7_both_0 : decode cX7_both 0 = .ok (.iconst 0, 1) := by decide +kernel
theorem dX7_both_1 : decode cX7_both 1 = .ok (.istore_n 3, 1) := by decide +kernel
theorem dX7_both_2 : decode cX7_both 2 = .ok (.iconst 0, 1) := by decide +kernel
theorem dX7_both_3 : decode cX7_both 3 = .ok (.istore 4, 2) := by decide +kernel
theorem dX7_both_5 : decode cX7_both 5 = .ok (.iload 4, 2) := by decide +kernel
theorem dX7_both_7 : decode cX7_both 7 = .ok (.bipush 6, 2) := by decide +kernel
theorem dX7_both_9 : decode cX7_both 9 = .ok (.if_icmp .ge 87, 3) := by decide +kernel
theorem dX7_both_12 : decode cX7_both 12 = .ok (.bipush 6, 2) := by decide +kernel
theorem dX7_both_14 : decode cX7_both 14 = .ok (.iload_n 1, 1) := by decide +kernel
theorem dX7_both_15 : decode cX7_both 15 = .ok (.imul, 1) := by decide +kernel
theorem dX7_both_16 : decode cX7_both 16 = .ok (.iload 4, 2) := by decide +kernel
theorem dX7_both_18 : decode cX7_both 18 = .ok (.iadd, 1) := by decide +kernel
theorem dX7_both_19 : decode cX7_both 19 = .ok (.istore 5, 2) := by decide +kernel
theorem dX7_both_21 : decode cX7_both 21 = .ok (.aload_n 0, 1) := by decide +kernel
theorem dX7_both_22 : decode cX7_both 22 = .ok (.iload_n 1, 1) := by decide +kernel
theorem dX7_both_23 : decode cX7_both 23 = .ok (.iload 4, 2) := by decide +kernel
theorem dX7_both_25 : decode cX7_both 25 = .ok (.invokevirtual 138, 3) := by decide +kernel
theorem dX7_both_28 : decode cX7_both 28 = .ok (.ifCond .eq 62, 3) := by decide +kernel
theorem dX7_both_31 : decode cX7_both 31 = .ok (.aload_n 0, 1) := by decide +kernel
theorem dX7_both_32 : decode cX7_both 32 = .ok (.iload_n 2, 1) := by decide +kernel
theorem dX7_both_33 : decode cX7_both 33 = .ok (.aload_n 0, 1) := by decide +kernel
theorem dX7_both_34 : decode cX7_both 34 = .ok (.getfield 26, 3) := by decide +kernel
theorem dX7_both_37 : decode cX7_both 37 = .ok (.iload 5, 2) := by decide +kernel
theorem dX7_both_39 : decode cX7_both 39 = .ok (.iaload, 1) := by decide +kernel
theorem dX7_both_40 : decode cX7_both 40 = .ok (.invokevirtual 141, 3) := by decide +kernel
theorem dX7_both_43 : decode cX7_both 43 = .ok (.ifCond .lt 47, 3) := by decide +kernel
theorem dX7_both_46 : decode cX7_both 46 = .ok (.aload_n 0, 1) := by decide +kernel
theorem dX7_both_47 : decode cX7_both 47 = .ok (.getfield 45, 3) := by decide +kernel
theorem dX7_both_50 : decode cX7_both 50 = .ok (.iload_n 3, 1) := by decide +kernel
theorem dX7_both_51 : decode cX7_both 51 = .ok (.aload_n 0, 1) := by decide +kernel
theorem dX7_both_52 : decode cX7_both 52 = .ok (.getfield 26, 3) := by decide +kernel
theorem dX7_both_55 : decode cX7_both 55 = .ok (.iload 5, 2) := by decide +kernel
theorem dX7_both_57 : decode cX7_both 57 = .ok (.iaload, 1) := by decide +kernel
theorem dX7_both_58 : decode cX7_both 58 = .ok (.iastore, 1) := by decide +kernel
theorem dX7_both_59 : decode cX7_both 59 = .ok (.aload_n 0, 1) := by decide +kernel
theorem dX7_both_60 : decode cX7_both 60 = .ok (.getfield 48, 3) := by decide +kernel
theorem dX7_both_63 : decode cX7_both 63 = .ok (.iload_n 3, 1) := by decide +kernel
theorem dX7_both_64 : decode cX7_both 64 = .ok (.aload_n 0, 1) := by decide +kernel
theorem dX7_both_65 : decode cX7_both 65 = .ok (.iload_n 2, 1) := by decide +kernel
theorem dX7_both_66 : decode cX7_both 66 = .ok (.aload_n 0, 1) := by decide +kernel
theorem dX7_both_67 : decode cX7_both 67 = .ok (.getfield 26, 3) := by decide +kernel
theorem dX7_both_70 : decode cX7_both 70 = .ok (.iload 5, 2) := by decide +kernel
theorem dX7_both_72 : decode cX7_both 72 = .ok (.iaload, 1) := by decide +kernel
theorem dX7_both_73 : decode cX7_both 73 = .ok (.invokevirtual 141, 3) := by decide +kernel
theorem dX7_both_76 : decode cX7_both 76 = .ok (.aload_n 0, 1) := by decide +kernel
theorem dX7_both_77 : decode cX7_both 77 = .ok (.getfield 7, 3) := by decide +kernel
theorem dX7_both_80 : decode cX7_both 80 = .ok (.iconst 1, 1) := by decide +kernel
theorem dX7_both_81 : decode cX7_both 81 = .ok (.iload 5, 2) := by decide +kernel
theorem dX7_both_83 : decode cX7_both 83 = .ok (.iadd, 1) := by decide +kernel
theorem dX7_both_84 : decode cX7_both 84 = .ok (.iaload, 1) := by decide +kernel
theorem dX7_both_85 : decode cX7_both 85 = .ok (.isub, 1) := by decide +kernel
theorem dX7_both_86 : decode cX7_both 86 = .ok (.iastore, 1) := by decide +kernel
theorem dX7_both_87 : decode cX7_both 87 = .ok (.iinc 3 1, 3) := by decide +kernel
theorem dX7_both_90 : decode cX7_both 90 = .ok (.iinc 4 1, 3) := by decide +kernel
theorem dX7_both_93 : decode cX7_both 93 = .ok (.goto (-88), 3) := by decide +kernel
theorem dX7_both_96 : decode cX7_both 96 = .ok (.iload_n 3, 1) := by decide +kernel
theorem dX7_both_97 : decode cX7_both 97 = .ok (.ireturn, 1) := by decide +kernel
theorem dX7_spanEnd_0 : decode cX7_spanEnd 0 = .ok (.aload_n 0, 1) := by decide +kernel
theorem dX7_spanEnd_1 : decode cX7_spanEnd 1 = .ok (.getfield 48, 3) := by decide +kernel
theorem dX7_spanEnd_4 : decode cX7_spanEnd 4 = .ok (.iload_n 1, 1) := by decide +kernel
theorem dX7_spanEnd_5 : decode cX7_spanEnd 5 = .ok (.iaload, 1) := by decide +kernel
theorem dX7_spanEnd_6 : decode cX7_spanEnd 6 = .ok (.istore_n 3, 1) := by decide +kernel
theorem dX7_spanEnd_7 : decode cX7_spanEnd 7 = .ok (.aload_n 0, 1) := by decide +kernel
theorem dX7_spanEnd_8 : decode cX7_spanEnd 8 = .ok (.iload_n 3, 1) := by decide +kernel
theorem dX7_spanEnd_9 : decode cX7_spanEnd 9 = .ok (.putfield 152, 3) := by decide +kernel
theorem dX7_spanEnd_12 : decode cX7_spanEnd 12 = .ok (.iload_n 1, 1) := by decide +kernel
theorem dX7_spanEnd_13 : decode cX7_spanEnd 13 = .ok (.iconst 1, 1) := by decide +kernel
theorem dX7_spanEnd_14 : decode cX7_spanEnd 14 = .ok (.iadd, 1) := by decide +kernel
theorem dX7_spanEnd_15 : decode cX7_spanEnd 15 = .ok (.istore 4, 2) := by decide +kernel
theorem dX7_spanEnd_17 : decode cX7_spanEnd 17 = .ok (.iload 4, 2) := by decide +kernel
theorem dX7_spanEnd_19 : decode cX7_spanEnd 19 = .ok (.iload_n 2, 1) := by decide +kernel
theorem dX7_spanEnd_20 : decode cX7_spanEnd 20 = .ok (.if_icmp .ge 103, 3) := by decide +kernel
theorem dX7_spanEnd_23 : decode cX7_spanEnd 23 = .ok (.aload_n 0, 1) := by decide +kernel
theorem dX7_spanEnd_24 : decode cX7_spanEnd 24 = .ok (.getfield 48, 3) := by decide +kernel
theorem dX7_spanEnd_27 : decode cX7_spanEnd 27 = .ok (.iload 4, 2) := by decide +kernel
theorem dX7_spanEnd_29 : decode cX7_spanEnd 29 = .ok (.iaload, 1) := by decide +kernel
theorem dX7_spanEnd_30 : decode cX7_spanEnd 30 = .ok (.aload_n 0, 1) := by decide +kernel
theorem dX7_spanEnd_31 : decode cX7_spanEnd 31 = .ok (.getfield 152, 3) := by decide +kernel
theorem dX7_spanEnd_34 : decode cX7_spanEnd 34 = .ok (.isub, 1) := by decide +kernel
theorem dX7_spanEnd_35 : decode cX7_spanEnd 35 = .ok (.aload_n 0, 1) := by decide +kernel
theorem dX7_spanEnd_36 : decode cX7_spanEnd 36 = .ok (.getfield 7, 3) := by decide +kernel
theorem dX7_spanEnd_39 : decode cX7_spanEnd 39 = .ok (.iconst 0, 1) := by decide +kernel
theorem dX7_spanEnd_40 : decode cX7_spanEnd 40 = .ok (.iaload, 1) := by decide +kernel
theorem dX7_spanEnd_41 : decode cX7_spanEnd 41 = .ok (.if_icmp .gt 82, 3) := by decide +kernel
theorem dX7_spanEnd_44 : decode cX7_spanEnd 44 = .ok (.iload_n 3, 1) := by decide +kernel
theorem dX7_spanEnd_45 : decode cX7_spanEnd 45 = .ok (.aload_n 0, 1) := by decide +kernel
theorem dX7_spanEnd_46 : decode cX7_spanEnd 46 = .ok (.getfield 48, 3) := by decide +kernel
theorem dX7_spanEnd_49 : decode cX7_spanEnd 49 = .ok (.iload 4, 2) := by decide +kernel
theorem dX7_spanEnd_51 : decode cX7_spanEnd 51 = .ok (.iaload, 1) := by decide +kernel
theorem dX7_spanEnd_52 : decode cX7_spanEnd 52 = .ok (.isub, 1) := by decide +kernel
theorem dX7_spanEnd_53 : decode cX7_spanEnd 53 = .ok (.aload_n 0, 1) := by decide +kernel
theorem dX7_spanEnd_54 : decode cX7_spanEnd 54 = .ok (.getfield 7, 3) := by decide +kernel
theorem dX7_spanEnd_57 : decode cX7_spanEnd 57 = .ok (.iconst 0, 1) := by decide +kernel
theorem dX7_spanEnd_58 : decode cX7_spanEnd 58 = .ok (.iaload, 1) := by decide +kernel
theorem dX7_spanEnd_59 : decode cX7_spanEnd 59 = .ok (.if_icmp .gt 64, 3) := by decide +kernel
theorem dX7_spanEnd_62 : decode cX7_spanEnd 62 = .ok (.aload_n 0, 1) := by decide +kernel
theorem dX7_spanEnd_63 : decode cX7_spanEnd 63 = .ok (.aload_n 0, 1) := by decide +kernel
theorem dX7_spanEnd_64 : decode cX7_spanEnd 64 = .ok (.getfield 48, 3) := by decide +kernel
theorem dX7_spanEnd_67 : decode cX7_spanEnd 67 = .ok (.iload 4, 2) := by decide +kernel
theorem dX7_spanEnd_69 : decode cX7_spanEnd 69 = .ok (.iaload, 1) := by decide +kernel
theorem dX7_spanEnd_70 : decode cX7_spanEnd 70 = .ok (.aload_n 0, 1) := by decide +kernel
theorem dX7_spanEnd_71 : decode cX7_spanEnd 71 = .ok (.getfield 152, 3) := by decide +kernel
theorem dX7_spanEnd_74 : decode cX7_spanEnd 74 = .ok (.if_icmp .ge 13, 3) := by decide +kernel
theorem dX7_spanEnd_77 : decode cX7_spanEnd 77 = .ok (.aload_n 0, 1) := by decide +kernel
theorem dX7_spanEnd_78 : decode cX7_spanEnd 78 = .ok (.getfield 48, 3) := by decide +kernel
theorem dX7_spanEnd_81 : decode cX7_spanEnd 81 = .ok (.iload 4, 2) := by decide +kernel
theorem dX7_spanEnd_83 : decode cX7_spanEnd 83 = .ok (.iaload, 1) := by decide +kernel
theorem dX7_spanEnd_84 : decode cX7_spanEnd 84 = .ok (.goto 7, 3) := by decide +kernel
theorem dX7_spanEnd_87 : decode cX7_spanEnd 87 = .ok (.aload_n 0, 1) := by decide +kernel
theorem dX7_spanEnd_88 : decode cX7_spanEnd 88 = .ok (.getfield 152, 3) := by decide +kernel
theorem dX7_spanEnd_91 : decode cX7_spanEnd 91 = .ok (.putfield 152, 3) := by decide +kernel
theorem dX7_spanEnd_94 : decode cX7_spanEnd 94 = .ok (.aload_n 0, 1) := by decide +kernel
theorem dX7_spanEnd_95 : decode cX7_spanEnd 95 = .ok (.getfield 48, 3) := by decide +kernel
theorem dX7_spanEnd_98 : decode cX7_spanEnd 98 = .ok (.iload 4, 2) := by decide +kernel
theorem dX7_spanEnd_100 : decode cX7_spanEnd 100 = .ok (.iaload, 1) := by decide +kernel
theorem dX7_spanEnd_101 : decode cX7_spanEnd 101 = .ok (.iload_n 3, 1) := by decide +kernel
theorem dX7_spanEnd_102 : decode cX7_spanEnd 102 = .ok (.if_icmp .le 13, 3) := by decide +kernel
theorem dX7_spanEnd_105 : decode cX7_spanEnd 105 = .ok (.aload_n 0, 1) := by decide +kernel
theorem dX7_spanEnd_106 : decode cX7_spanEnd 106 = .ok (.getfield 48, 3) := by decide +kernel
theorem dX7_spanEnd_109 : decode cX7_spanEnd 109 = .ok (.iload 4, 2) := by decide +kernel
theorem dX7_spanEnd_111 : decode cX7_spanEnd 111 = .ok (.iaload, 1) := by decide +kernel
theorem dX7_spanEnd_112 : decode cX7_spanEnd 112 = .ok (.goto 4, 3) := by decide +kernel
theorem dX7_spanEnd_115 : decode cX7_spanEnd 115 = .ok (.iload_n 3, 1) := by decide +kernel
theorem dX7_spanEnd_116 : decode cX7_spanEnd 116 = .ok (.istore_n 3, 1) := by decide +kernel
theorem dX7_spanEnd_117 : decode cX7_spanEnd 117 = .ok (.iinc 4 1, 3) := by decide +kernel
theorem dX7_spanEnd_120 : decode cX7_spanEnd 120 = .ok (.goto (-103), 3) := by decide +kernel
theorem dX7_spanEnd_123 : decode cX7_spanEnd 123 = .ok (.iload 4, 2) := by decide +kernel
theorem dX7_spanEnd_125 : decode cX7_spanEnd 125 = .ok (.ireturn, 1) := by decide +kernel
theorem dX7_spans_0 : decode cX7_spans 0 = .ok (.aload_n 0, 1) := by decide +kernel
theorem dX7_spans_1 : decode cX7_spans 1 = .ok (.iload_n 1, 1) := by decide +kernel
theorem dX7_spans_2 : decode cX7_spans 2 = .ok (.iload_n 2, 1) := by decide +kernel
theorem dX7_spans_3 : decode cX7_spans 3 = .ok (.invokevirtual 155, 3) := by decide +kernel
theorem dX7_spans_6 : decode cX7_spans 6 = .ok (.istore_n 3, 1) := by decide +kernel
theorem dX7_spans_7 : decode cX7_spans 7 = .ok (.iconst 0, 1) := by decide +kernel
theorem dX7_spans_8 : decode cX7_spans 8 = .ok (.istore 4, 2) := by decide +kernel
theorem dX7_spans_10 : decode cX7_spans 10 = .ok (.iconst 0, 1) := by decide +kernel
theorem dX7_spans_11 : decode cX7_spans 11 = .ok (.istore 5, 2) := by decide +kernel
theorem dX7_spans_13 : decode cX7_spans 13 = .ok (.iload 5, 2) := by decide +kernel
theorem dX7_spans_15 : decode cX7_spans 15 = .ok (.iload_n 3, 1) := by decide +kernel
theorem dX7_spans_16 : decode cX7_spans 16 = .ok (.if_icmp .ge 18, 3) := by decide +kernel
theorem dX7_spans_19 : decode cX7_spans 19 = .ok (.iinc 4 1, 3) := by decide +kernel
theorem dX7_spans_22 : decode cX7_spans 22 = .ok (.aload_n 0, 1) := by decide +kernel
theorem dX7_spans_23 : decode cX7_spans 23 = .ok (.iload 5, 2) := by decide +kernel
theorem dX7_spans_25 : decode cX7_spans 25 = .ok (.iload_n 3, 1) := by decide +kernel
theorem dX7_spans_26 : decode cX7_spans 26 = .ok (.invokevirtual 158, 3) := by decide +kernel
theorem dX7_spans_29 : decode cX7_spans 29 = .ok (.istore 5, 2) := by decide +kernel
theorem dX7_spans_31 : decode cX7_spans 31 = .ok (.goto (-18), 3) := by decide +kernel
theorem dX7_spans_34 : decode cX7_spans 34 = .ok (.iload 4, 2) := by decide +kernel
theorem dX7_spans_36 : decode cX7_spans 36 = .ok (.ireturn, 1) := by decide +kernel
theorem dX7_span_0 : decode cX7_span 0 = .ok (.aload_n 0, 1) := by decide +kernel
theorem dX7_span_1 : decode cX7_span 1 = .ok (.iload_n 1, 1) := by decide +kernel
theorem dX7_span_2 : decode cX7_span 2 = .ok (.invokevirtual 126, 3) := by decide +kernel
theorem dX7_span_5 : decode cX7_span 5 = .ok (.ifCond .eq 38, 3) := by decide +kernel
theorem dX7_span_8 : decode cX7_span 8 = .ok (.aload_n 0, 1) := by decide +kernel
theorem dX7_span_9 : decode cX7_span 9 = .ok (.iload_n 2, 1) := by decide +kernel
theorem dX7_span_10 : decode cX7_span 10 = .ok (.invokevirtual 126, 3) := by decide +kernel
theorem dX7_span_13 : decode cX7_span 13 = .ok (.ifCond .eq 30, 3) := by decide +kernel
theorem dX7_span_16 : decode cX7_span 16 = .ok (.iload_n 1, 1) := by decide +kernel
theorem dX7_span_17 : decode cX7_span 17 = .ok (.iload_n 2, 1) := by decide +kernel
theorem dX7_span_18 : decode cX7_span 18 = .ok (.if_icmp .eq 25, 3) := by decide +kernel
theorem dX7_span_21 : decode cX7_span 21 = .ok (.iload_n 3, 1) := by decide +kernel
theorem dX7_span_22 : decode cX7_span 22 = .ok (.iconst (-1), 1) := by decide +kernel
theorem dX7_span_23 : decode cX7_span 23 = .ok (.if_icmp .lt 20, 3) := by decide +kernel
theorem dX7_span_26 : decode cX7_span 26 = .ok (.iload_n 3, 1) := by decide +kernel
theorem dX7_span_27 : decode cX7_span 27 = .ok (.ifCond .lt 19, 3) := by decide +kernel
theorem dX7_span_30 : decode cX7_span 30 = .ok (.iload 4, 2) := by decide +kernel
theorem dX7_span_32 : decode cX7_span 32 = .ok (.i2l, 1) := by decide +kernel
theorem dX7_span_33 : decode cX7_span 33 = .ok (.lconst 0, 1) := by decide +kernel
theorem dX7_span_34 : decode cX7_span 34 = .ok (.ldc2_w 161, 3) := by decide +kernel
theorem dX7_span_37 : decode cX7_span 37 = .ok (.invokestatic 62, 3) := by decide +kernel
theorem dX7_span_40 : decode cX7_span 40 = .ok (.ifCond .ne 6, 3) := by decide +kernel
theorem dX7_span_43 : decode cX7_span 43 = .ok (.ldc 163, 2) := by decide +kernel
theorem dX7_span_45 : decode cX7_span 45 = .ok (.ireturn, 1) := by decide +kernel
theorem dX7_span_46 : decode cX7_span 46 = .ok (.aload_n 0, 1) := by decide +kernel
theorem dX7_span_47 : decode cX7_span 47 = .ok (.iload_n 1, 1) := by decide +kernel
theorem dX7_span_48 : decode cX7_span 48 = .ok (.iload_n 2, 1) := by decide +kernel
theorem dX7_span_49 : decode cX7_span 49 = .ok (.invokevirtual 164, 3) := by decide +kernel
theorem dX7_span_52 : decode cX7_span 52 = .ok (.istore 5, 2) := by decide +kernel
theorem dX7_span_54 : decode cX7_span 54 = .ok (.iload_n 3, 1) := by decide +kernel
theorem dX7_span_55 : decode cX7_span 55 = .ok (.ifCond .lt 9, 3) := by decide +kernel
theorem dX7_span_58 : decode cX7_span 58 = .ok (.iload_n 3, 1) := by decide +kernel
theorem dX7_span_59 : decode cX7_span 59 = .ok (.iload 5, 2) := by decide +kernel
theorem dX7_span_61 : decode cX7_span 61 = .ok (.if_icmp .lt 15, 3) := by decide +kernel
theorem dX7_span_64 : decode cX7_span 64 = .ok (.iload_n 3, 1) := by decide +kernel
theorem dX7_span_65 : decode cX7_span 65 = .ok (.ifCond .ge 8, 3) := by decide +kernel
theorem dX7_span_68 : decode cX7_span 68 = .ok (.iload 5, 2) := by decide +kernel
theorem dX7_span_70 : decode cX7_span 70 = .ok (.goto 5, 3) := by decide +kernel
theorem dX7_span_73 : decode cX7_span 73 = .ok (.ldc 163, 2) := by decide +kernel
theorem dX7_span_75 : decode cX7_span 75 = .ok (.ireturn, 1) := by decide +kernel
theorem dX7_span_76 : decode cX7_span 76 = .ok (.aload_n 0, 1) := by decide +kernel
theorem dX7_span_77 : decode cX7_span 77 = .ok (.iload_n 1, 1) := by decide +kernel
theorem dX7_span_78 : decode cX7_span 78 = .ok (.iload_n 2, 1) := by decide +kernel
theorem dX7_span_79 : decode cX7_span 79 = .ok (.invokevirtual 155, 3) := by decide +kernel
theorem dX7_span_82 : decode cX7_span 82 = .ok (.istore 6, 2) := by decide +kernel
theorem dX7_span_84 : decode cX7_span 84 = .ok (.iconst 0, 1) := by decide +kernel
theorem dX7_span_85 : decode cX7_span 85 = .ok (.istore 7, 2) := by decide +kernel
theorem dX7_span_87 : decode cX7_span 87 = .ok (.iconst 0, 1) := by decide +kernel
theorem dX7_span_88 : decode cX7_span 88 = .ok (.istore 8, 2) := by decide +kernel
theorem dX7_span_90 : decode cX7_span 90 = .ok (.iload 8, 2) := by decide +kernel
theorem dX7_span_92 : decode cX7_span 92 = .ok (.iload_n 3, 1) := by decide +kernel
theorem dX7_span_93 : decode cX7_span 93 = .ok (.if_icmp .ge 19, 3) := by decide +kernel
theorem dX7_span_96 : decode cX7_span 96 = .ok (.aload_n 0, 1) := by decide +kernel
theorem dX7_span_97 : decode cX7_span 97 = .ok (.iload 7, 2) := by decide +kernel
theorem dX7_span_99 : decode cX7_span 99 = .ok (.iload 6, 2) := by decide +kernel
theorem dX7_span_101 : decode cX7_span 101 = .ok (.invokevirtual 158, 3) := by decide +kernel
theorem dX7_span_104 : decode cX7_span 104 = .ok (.istore 7, 2) := by decide +kernel
theorem dX7_span_106 : decode cX7_span 106 = .ok (.iinc 8 1, 3) := by decide +kernel
theorem dX7_span_109 : decode cX7_span 109 = .ok (.goto (-19), 3) := by decide +kernel
theorem dX7_span_112 : decode cX7_span 112 = .ok (.aload_n 0, 1) := by decide +kernel
theorem dX7_span_113 : decode cX7_span 113 = .ok (.iload 7, 2) := by decide +kernel
theorem dX7_span_115 : decode cX7_span 115 = .ok (.iload 6, 2) := by decide +kernel
theorem dX7_span_117 : decode cX7_span 117 = .ok (.invokevirtual 158, 3) := by decide +kernel
theorem dX7_span_120 : decode cX7_span 120 = .ok (.istore 8, 2) := by decide +kernel
theorem dX7_span_122 : decode cX7_span 122 = .ok (.iload 4, 2) := by decide +kernel
theorem dX7_span_124 : decode cX7_span 124 = .ok (.ifCond .ne 13, 3) := by decide +kernel
theorem dX7_span_127 : decode cX7_span 127 = .ok (.aload_n 0, 1) := by decide +kernel
theorem dX7_span_128 : decode cX7_span 128 = .ok (.getfield 45, 3) := by decide +kernel
theorem dX7_span_131 : decode cX7_span 131 = .ok (.iload 7, 2) := by decide +kernel
theorem dX7_span_133 : decode cX7_span 133 = .ok (.iaload, 1) := by decide +kernel
theorem dX7_span_134 : decode cX7_span 134 = .ok (.goto 39, 3) := by decide +kernel
theorem dX7_span_137 : decode cX7_span 137 = .ok (.iload 4, 2) := by decide +kernel
theorem dX7_span_139 : decode cX7_span 139 = .ok (.iconst 1, 1) := by decide +kernel
theorem dX7_span_140 : decode cX7_span 140 = .ok (.if_icmp .ne 15, 3) := by decide +kernel
theorem dX7_span_143 : decode cX7_span 143 = .ok (.aload_n 0, 1) := by decide +kernel
theorem dX7_span_144 : decode cX7_span 144 = .ok (.getfield 45, 3) := by decide +kernel
theorem dX7_span_147 : decode cX7_span 147 = .ok (.iload 8, 2) := by decide +kernel
theorem dX7_span_149 : decode cX7_span 149 = .ok (.iconst 1, 1) := by decide +kernel
theorem dX7_span_150 : decode cX7_span 150 = .ok (.isub, 1) := by decide +kernel
theorem dX7_span_151 : decode cX7_span 151 = .ok (.iaload, 1) := by decide +kernel
theorem dX7_span_152 : decode cX7_span 152 = .ok (.goto 21, 3) := by decide +kernel
theorem dX7_span_155 : decode cX7_span 155 = .ok (.iload 4, 2) := by decide +kernel
theorem dX7_span_157 : decode cX7_span 157 = .ok (.iconst 2, 1) := by decide +kernel
theorem dX7_span_158 : decode cX7_span 158 = .ok (.if_icmp .ne 11, 3) := by decide +kernel
theorem dX7_span_161 : decode cX7_span 161 = .ok (.iload 8, 2) := by decide +kernel
theorem dX7_span_163 : decode cX7_span 163 = .ok (.iload 7, 2) := by decide +kernel
theorem dX7_span_165 : decode cX7_span 165 = .ok (.isub, 1) := by decide +kernel
theorem dX7_span_166 : decode cX7_span 166 = .ok (.goto 7, 3) := by decide +kernel
theorem dX7_span_169 : decode cX7_span 169 = .ok (.aload_n 0, 1) := by decide +kernel
theorem dX7_span_170 : decode cX7_span 170 = .ok (.getfield 152, 3) := by decide +kernel
theorem dX7_span_173 : decode cX7_span 173 = .ok (.ireturn, 1) := by decide +kernel
theorem dX7_plain_0 : decode cX7_plain 0 = .ok (.iload_n 0, 1) := by decide +kernel
theorem dX7_plain_1 : decode cX7_plain 1 = .ok (.ifCond .ge 8, 3) := by decide +kernel
theorem dX7_plain_4 : decode cX7_plain 4 = .ok (.iload_n 0, 1) := by decide +kernel
theorem dX7_plain_5 : decode cX7_plain 5 = .ok (.ineg, 1) := by decide +kernel
theorem dX7_plain_6 : decode cX7_plain 6 = .ok (.goto 4, 3) := by decide +kernel
theorem dX7_plain_9 : decode cX7_plain 9 = .ok (.iload_n 0, 1) := by decide +kernel
theorem dX7_plain_10 : decode cX7_plain 10 = .ok (.ireturn, 1) := by decide +kernel
theorem dX7_shiftOf_0 : decode cX7_shiftOf 0 = .ok (.iload_n 1, 1) := by decide +kernel
theorem dX7_shiftOf_1 : decode cX7_shiftOf 1 = .ok (.ifCond .ne 7, 3) := by decide +kernel
theorem dX7_shiftOf_4 : decode cX7_shiftOf 4 = .ok (.iconst 0, 1) := by decide +kernel
theorem dX7_shiftOf_5 : decode cX7_shiftOf 5 = .ok (.goto 9, 3) := by decide +kernel
theorem dX7_shiftOf_8 : decode cX7_shiftOf 8 = .ok (.aload_n 0, 1) := by decide +kernel
theorem dX7_shiftOf_9 : decode cX7_shiftOf 9 = .ok (.iconst 0, 1) := by decide +kernel
theorem dX7_shiftOf_10 : decode cX7_shiftOf 10 = .ok (.iload_n 1, 1) := by decide +kernel
theorem dX7_shiftOf_11 : decode cX7_shiftOf 11 = .ok (.invokevirtual 155, 3) := by decide +kernel
theorem dX7_shiftOf_14 : decode cX7_shiftOf 14 = .ok (.istore_n 2, 1) := by decide +kernel
theorem dX7_shiftOf_15 : decode cX7_shiftOf 15 = .ok (.iconst 0, 1) := by decide +kernel
theorem dX7_shiftOf_16 : decode cX7_shiftOf 16 = .ok (.istore_n 3, 1) := by decide +kernel
theorem dX7_shiftOf_17 : decode cX7_shiftOf 17 = .ok (.iconst 0, 1) := by decide +kernel
theorem dX7_shiftOf_18 : decode cX7_shiftOf 18 = .ok (.istore 4, 2) := by decide +kernel
theorem dX7_shiftOf_20 : decode cX7_shiftOf 20 = .ok (.iconst 0, 1) := by decide +kernel
theorem dX7_shiftOf_21 : decode cX7_shiftOf 21 = .ok (.istore 5, 2) := by decide +kernel
theorem dX7_shiftOf_23 : decode cX7_shiftOf 23 = .ok (.iload 5, 2) := by decide +kernel
theorem dX7_shiftOf_25 : decode cX7_shiftOf 25 = .ok (.iload_n 2, 1) := by decide +kernel
theorem dX7_shiftOf_26 : decode cX7_shiftOf 26 = .ok (.if_icmp .ge 135, 3) := by decide +kernel
theorem dX7_shiftOf_29 : decode cX7_shiftOf 29 = .ok (.aload_n 0, 1) := by decide +kernel
theorem dX7_shiftOf_30 : decode cX7_shiftOf 30 = .ok (.getfield 48, 3) := by decide +kernel
theorem dX7_shiftOf_33 : decode cX7_shiftOf 33 = .ok (.iload 5, 2) := by decide +kernel
theorem dX7_shiftOf_35 : decode cX7_shiftOf 35 = .ok (.iaload, 1) := by decide +kernel
theorem dX7_shiftOf_36 : decode cX7_shiftOf 36 = .ok (.istore 6, 2) := by decide +kernel
theorem dX7_shiftOf_38 : decode cX7_shiftOf 38 = .ok (.iconst 0, 1) := by decide +kernel
theorem dX7_shiftOf_39 : decode cX7_shiftOf 39 = .ok (.istore 7, 2) := by decide +kernel
theorem dX7_shiftOf_41 : decode cX7_shiftOf 41 = .ok (.iconst 0, 1) := by decide +kernel
theorem dX7_shiftOf_42 : decode cX7_shiftOf 42 = .ok (.istore 8, 2) := by decide +kernel
theorem dX7_shiftOf_44 : decode cX7_shiftOf 44 = .ok (.iload 8, 2) := by decide +kernel
theorem dX7_shiftOf_46 : decode cX7_shiftOf 46 = .ok (.iload_n 2, 1) := by decide +kernel
theorem dX7_shiftOf_47 : decode cX7_shiftOf 47 = .ok (.if_icmp .ge 31, 3) := by decide +kernel
theorem dX7_shiftOf_50 : decode cX7_shiftOf 50 = .ok (.iload 7, 2) := by decide +kernel
theorem dX7_shiftOf_52 : decode cX7_shiftOf 52 = .ok (.aload_n 0, 1) := by decide +kernel
theorem dX7_shiftOf_53 : decode cX7_shiftOf 53 = .ok (.getfield 48, 3) := by decide +kernel
theorem dX7_shiftOf_56 : decode cX7_shiftOf 56 = .ok (.iload 8, 2) := by decide +kernel
theorem dX7_shiftOf_58 : decode cX7_shiftOf 58 = .ok (.iaload, 1) := by decide +kernel
theorem dX7_shiftOf_59 : decode cX7_shiftOf 59 = .ok (.iload 6, 2) := by decide +kernel
theorem dX7_shiftOf_61 : decode cX7_shiftOf 61 = .ok (.if_icmp .ne 7, 3) := by decide +kernel
theorem dX7_shiftOf_64 : decode cX7_shiftOf 64 = .ok (.iconst 1, 1) := by decide +kernel
theorem dX7_shiftOf_65 : decode cX7_shiftOf 65 = .ok (.goto 4, 3) := by decide +kernel
theorem dX7_shiftOf_68 : decode cX7_shiftOf 68 = .ok (.iconst 0, 1) := by decide +kernel
theorem dX7_shiftOf_69 : decode cX7_shiftOf 69 = .ok (.iadd, 1) := by decide +kernel
theorem dX7_shiftOf_70 : decode cX7_shiftOf 70 = .ok (.istore 7, 2) := by decide +kernel
theorem dX7_shiftOf_72 : decode cX7_shiftOf 72 = .ok (.iinc 8 1, 3) := by decide +kernel
theorem dX7_shiftOf_75 : decode cX7_shiftOf 75 = .ok (.goto (-31), 3) := by decide +kernel
theorem dX7_shiftOf_78 : decode cX7_shiftOf 78 = .ok (.iload 7, 2) := by decide +kernel
theorem dX7_shiftOf_80 : decode cX7_shiftOf 80 = .ok (.iload 4, 2) := by decide +kernel
theorem dX7_shiftOf_82 : decode cX7_shiftOf 82 = .ok (.if_icmp .gt 40, 3) := by decide +kernel
theorem dX7_shiftOf_85 : decode cX7_shiftOf 85 = .ok (.iload 7, 2) := by decide +kernel
theorem dX7_shiftOf_87 : decode cX7_shiftOf 87 = .ok (.iload 4, 2) := by decide +kernel
theorem dX7_shiftOf_89 : decode cX7_shiftOf 89 = .ok (.if_icmp .ne 37, 3) := by decide +kernel
theorem dX7_shiftOf_92 : decode cX7_shiftOf 92 = .ok (.iload 6, 2) := by decide +kernel
theorem dX7_shiftOf_94 : decode cX7_shiftOf 94 = .ok (.invokestatic 167, 3) := by decide +kernel
theorem dX7_shiftOf_97 : decode cX7_shiftOf 97 = .ok (.iload_n 3, 1) := by decide +kernel
theorem dX7_shiftOf_98 : decode cX7_shiftOf 98 = .ok (.invokestatic 167, 3) := by decide +kernel
theorem dX7_shiftOf_101 : decode cX7_shiftOf 101 = .ok (.if_icmp .lt 21, 3) := by decide +kernel
theorem dX7_shiftOf_104 : decode cX7_shiftOf 104 = .ok (.iload 6, 2) := by decide +kernel
theorem dX7_shiftOf_106 : decode cX7_shiftOf 106 = .ok (.invokestatic 167, 3) := by decide +kernel
theorem dX7_shiftOf_109 : decode cX7_shiftOf 109 = .ok (.iload_n 3, 1) := by decide +kernel
theorem dX7_shiftOf_110 : decode cX7_shiftOf 110 = .ok (.invokestatic 167, 3) := by decide +kernel
theorem dX7_shiftOf_113 : decode cX7_shiftOf 113 = .ok (.if_icmp .ne 13, 3) := by decide +kernel
theorem dX7_shiftOf_116 : decode cX7_shiftOf 116 = .ok (.iload 6, 2) := by decide +kernel
theorem dX7_shiftOf_118 : decode cX7_shiftOf 118 = .ok (.iload_n 3, 1) := by decide +kernel
theorem dX7_shiftOf_119 : decode cX7_shiftOf 119 = .ok (.if_icmp .ge 7, 3) := by decide +kernel
theorem dX7_shiftOf_122 : decode cX7_shiftOf 122 = .ok (.iconst 1, 1) := by decide +kernel
theorem dX7_shiftOf_123 : decode cX7_shiftOf 123 = .ok (.goto 4, 3) := by decide +kernel
theorem dX7_shiftOf_126 : decode cX7_shiftOf 126 = .ok (.iconst 0, 1) := by decide +kernel
theorem dX7_shiftOf_127 : decode cX7_shiftOf 127 = .ok (.istore 8, 2) := by decide +kernel
theorem dX7_shiftOf_129 : decode cX7_shiftOf 129 = .ok (.iload 8, 2) := by decide +kernel
theorem dX7_shiftOf_131 : decode cX7_shiftOf 131 = .ok (.ifCond .eq 8, 3) := by decide +kernel
theorem dX7_shiftOf_134 : decode cX7_shiftOf 134 = .ok (.iload 6, 2) := by decide +kernel
theorem dX7_shiftOf_136 : decode cX7_shiftOf 136 = .ok (.goto 4, 3) := by decide +kernel
theorem dX7_shiftOf_139 : decode cX7_shiftOf 139 = .ok (.iload_n 3, 1) := by decide +kernel
theorem dX7_shiftOf_140 : decode cX7_shiftOf 140 = .ok (.istore_n 3, 1) := by decide +kernel
theorem dX7_shiftOf_141 : decode cX7_shiftOf 141 = .ok (.iload 8, 2) := by decide +kernel
theorem dX7_shiftOf_143 : decode cX7_shiftOf 143 = .ok (.ifCond .eq 8, 3) := by decide +kernel
theorem dX7_shiftOf_146 : decode cX7_shiftOf 146 = .ok (.iload 7, 2) := by decide +kernel
theorem dX7_shiftOf_148 : decode cX7_shiftOf 148 = .ok (.goto 5, 3) := by decide +kernel
theorem dX7_shiftOf_151 : decode cX7_shiftOf 151 = .ok (.iload 4, 2) := by decide +kernel
theorem dX7_shiftOf_153 : decode cX7_shiftOf 153 = .ok (.istore 4, 2) := by decide +kernel
theorem dX7_shiftOf_155 : decode cX7_shiftOf 155 = .ok (.iinc 5 1, 3) := by decide +kernel
theorem dX7_shiftOf_158 : decode cX7_shiftOf 158 = .ok (.goto (-135), 3) := by decide +kernel
theorem dX7_shiftOf_161 : decode cX7_shiftOf 161 = .ok (.iload_n 3, 1) := by decide +kernel
theorem dX7_shiftOf_162 : decode cX7_shiftOf 162 = .ok (.ireturn, 1) := by decide +kernel
theorem dX7_agreed_0 : decode cX7_agreed 0 = .ok (.iconst 0, 1) := by decide +kernel
theorem dX7_agreed_1 : decode cX7_agreed 1 = .ok (.istore_n 3, 1) := by decide +kernel
theorem dX7_agreed_2 : decode cX7_agreed 2 = .ok (.aload_n 0, 1) := by decide +kernel
theorem dX7_agreed_3 : decode cX7_agreed 3 = .ok (.iload_n 1, 1) := by decide +kernel
theorem dX7_agreed_4 : decode cX7_agreed 4 = .ok (.invokevirtual 170, 3) := by decide +kernel
theorem dX7_agreed_7 : decode cX7_agreed 7 = .ok (.istore 4, 2) := by decide +kernel
theorem dX7_agreed_9 : decode cX7_agreed 9 = .ok (.iconst 0, 1) := by decide +kernel
theorem dX7_agreed_10 : decode cX7_agreed 10 = .ok (.istore 5, 2) := by decide +kernel
theorem dX7_agreed_12 : decode cX7_agreed 12 = .ok (.iload 5, 2) := by decide +kernel
theorem dX7_agreed_14 : decode cX7_agreed 14 = .ok (.bipush 8, 2) := by decide +kernel
theorem dX7_agreed_16 : decode cX7_agreed 16 = .ok (.if_icmp .ge 67, 3) := by decide +kernel
theorem dX7_agreed_19 : decode cX7_agreed 19 = .ok (.aload_n 0, 1) := by decide +kernel
theorem dX7_agreed_20 : decode cX7_agreed 20 = .ok (.iconst 0, 1) := by decide +kernel
theorem dX7_agreed_21 : decode cX7_agreed 21 = .ok (.iload 5, 2) := by decide +kernel
theorem dX7_agreed_23 : decode cX7_agreed 23 = .ok (.invokevirtual 141, 3) := by decide +kernel
theorem dX7_agreed_26 : decode cX7_agreed 26 = .ok (.istore 6, 2) := by decide +kernel
theorem dX7_agreed_28 : decode cX7_agreed 28 = .ok (.aload_n 0, 1) := by decide +kernel
theorem dX7_agreed_29 : decode cX7_agreed 29 = .ok (.iload_n 1, 1) := by decide +kernel
theorem dX7_agreed_30 : decode cX7_agreed 30 = .ok (.iload 5, 2) := by decide +kernel
theorem dX7_agreed_32 : decode cX7_agreed 32 = .ok (.invokevirtual 141, 3) := by decide +kernel
theorem dX7_agreed_35 : decode cX7_agreed 35 = .ok (.istore 7, 2) := by decide +kernel
theorem dX7_agreed_37 : decode cX7_agreed 37 = .ok (.iload_n 3, 1) := by decide +kernel
theorem dX7_agreed_38 : decode cX7_agreed 38 = .ok (.iload 6, 2) := by decide +kernel
theorem dX7_agreed_40 : decode cX7_agreed 40 = .ok (.ifCond .lt 34, 3) := by decide +kernel
theorem dX7_agreed_43 : decode cX7_agreed 43 = .ok (.iload 7, 2) := by decide +kernel
theorem dX7_agreed_45 : decode cX7_agreed 45 = .ok (.ifCond .lt 29, 3) := by decide +kernel
theorem dX7_agreed_48 : decode cX7_agreed 48 = .ok (.iload 7, 2) := by decide +kernel
theorem dX7_agreed_50 : decode cX7_agreed 50 = .ok (.iload 6, 2) := by decide +kernel
theorem dX7_agreed_52 : decode cX7_agreed 52 = .ok (.isub, 1) := by decide +kernel
theorem dX7_agreed_53 : decode cX7_agreed 53 = .ok (.iload 4, 2) := by decide +kernel
theorem dX7_agreed_55 : decode cX7_agreed 55 = .ok (.if_icmp .ne 7, 3) := by decide +kernel
theorem dX7_agreed_58 : decode cX7_agreed 58 = .ok (.iconst 1, 1) := by decide +kernel
theorem dX7_agreed_59 : decode cX7_agreed 59 = .ok (.goto 4, 3) := by decide +kernel
theorem dX7_agreed_62 : decode cX7_agreed 62 = .ok (.iconst 0, 1) := by decide +kernel
theorem dX7_agreed_63 : decode cX7_agreed 63 = .ok (.iload_n 2, 1) := by decide +kernel
theorem dX7_agreed_64 : decode cX7_agreed 64 = .ok (.if_icmp .ne 10, 3) := by decide +kernel
theorem dX7_agreed_67 : decode cX7_agreed 67 = .ok (.iconst 1, 1) := by decide +kernel
theorem dX7_agreed_68 : decode cX7_agreed 68 = .ok (.iload 5, 2) := by decide +kernel
theorem dX7_agreed_70 : decode cX7_agreed 70 = .ok (.ishl, 1) := by decide +kernel
theorem dX7_agreed_71 : decode cX7_agreed 71 = .ok (.goto 4, 3) := by decide +kernel
theorem dX7_agreed_74 : decode cX7_agreed 74 = .ok (.iconst 0, 1) := by decide +kernel
theorem dX7_agreed_75 : decode cX7_agreed 75 = .ok (.ior, 1) := by decide +kernel
theorem dX7_agreed_76 : decode cX7_agreed 76 = .ok (.istore_n 3, 1) := by decide +kernel
theorem dX7_agreed_77 : decode cX7_agreed 77 = .ok (.iinc 5 1, 3) := by decide +kernel
theorem dX7_agreed_80 : decode cX7_agreed 80 = .ok (.goto (-68), 3) := by decide +kernel
theorem dX7_agreed_83 : decode cX7_agreed 83 = .ok (.iload_n 3, 1) := by decide +kernel
theorem dX7_agreed_84 : decode cX7_agreed 84 = .ok (.ireturn, 1) := by decide +kernel
theorem dX7_shift_0 : decode cX7_shift 0 = .ok (.aload_n 0, 1) := by decide +kernel
theorem dX7_shift_1 : decode cX7_shift 1 = .ok (.iload_n 1, 1) := by decide +kernel
theorem dX7_shift_2 : decode cX7_shift 2 = .ok (.invokevirtual 126, 3) := by decide +kernel
theorem dX7_shift_5 : decode cX7_shift 5 = .ok (.ifCond .eq 15, 3) := by decide +kernel
theorem dX7_shift_8 : decode cX7_shift 8 = .ok (.iload_n 2, 1) := by decide +kernel
theorem dX7_shift_9 : decode cX7_shift 9 = .ok (.i2l, 1) := by decide +kernel
theorem dX7_shift_10 : decode cX7_shift 10 = .ok (.lconst 0, 1) := by decide +kernel
theorem dX7_shift_11 : decode cX7_shift 11 = .ok (.ldc2_w 173, 3) := by decide +kernel
theorem dX7_shift_14 : decode cX7_shift 14 = .ok (.invokestatic 62, 3) := by decide +kernel
theorem dX7_shift_17 : decode cX7_shift 17 = .ok (.ifCond .ne 6, 3) := by decide +kernel
theorem dX7_shift_20 : decode cX7_shift 20 = .ok (.ldc 163, 2) := by decide +kernel
theorem dX7_shift_22 : decode cX7_shift 22 = .ok (.ireturn, 1) := by decide +kernel
theorem dX7_shift_23 : decode cX7_shift 23 = .ok (.iload_n 2, 1) := by decide +kernel
theorem dX7_shift_24 : decode cX7_shift 24 = .ok (.ifCond .ne 11, 3) := by decide +kernel
theorem dX7_shift_27 : decode cX7_shift 27 = .ok (.aload_n 0, 1) := by decide +kernel
theorem dX7_shift_28 : decode cX7_shift 28 = .ok (.iload_n 1, 1) := by decide +kernel
theorem dX7_shift_29 : decode cX7_shift 29 = .ok (.invokevirtual 170, 3) := by decide +kernel
theorem dX7_shift_32 : decode cX7_shift 32 = .ok (.goto 18, 3) := by decide +kernel
theorem dX7_shift_35 : decode cX7_shift 35 = .ok (.aload_n 0, 1) := by decide +kernel
theorem dX7_shift_36 : decode cX7_shift 36 = .ok (.iload_n 1, 1) := by decide +kernel
theorem dX7_shift_37 : decode cX7_shift 37 = .ok (.iload_n 2, 1) := by decide +kernel
theorem dX7_shift_38 : decode cX7_shift 38 = .ok (.iconst 1, 1) := by decide +kernel
theorem dX7_shift_39 : decode cX7_shift 39 = .ok (.if_icmp .ne 7, 3) := by decide +kernel
theorem dX7_shift_42 : decode cX7_shift 42 = .ok (.iconst 1, 1) := by decide +kernel
theorem dX7_shift_43 : decode cX7_shift 43 = .ok (.goto 4, 3) := by decide +kernel
theorem dX7_shift_46 : decode cX7_shift 46 = .ok (.iconst 0, 1) := by decide +kernel
theorem dX7_shift_47 : decode cX7_shift 47 = .ok (.invokevirtual 175, 3) := by decide +kernel
theorem dX7_shift_50 : decode cX7_shift 50 = .ok (.ireturn, 1) := by decide +kernel
theorem dX7_aloneIn_0 : decode cX7_aloneIn 0 = .ok (.iconst 0, 1) := by decide +kernel
theorem dX7_aloneIn_1 : decode cX7_aloneIn 1 = .ok (.istore_n 2, 1) := by decide +kernel
theorem dX7_aloneIn_2 : decode cX7_aloneIn 2 = .ok (.iconst 0, 1) := by decide +kernel
theorem dX7_aloneIn_3 : decode cX7_aloneIn 3 = .ok (.istore_n 3, 1) := by decide +kernel
theorem dX7_aloneIn_4 : decode cX7_aloneIn 4 = .ok (.iload_n 3, 1) := by decide +kernel
theorem dX7_aloneIn_5 : decode cX7_aloneIn 5 = .ok (.bipush 8, 2) := by decide +kernel
theorem dX7_aloneIn_7 : decode cX7_aloneIn 7 = .ok (.if_icmp .ge 28, 3) := by decide +kernel
theorem dX7_aloneIn_10 : decode cX7_aloneIn 10 = .ok (.iload_n 2, 1) := by decide +kernel
theorem dX7_aloneIn_11 : decode cX7_aloneIn 11 = .ok (.aload_n 0, 1) := by decide +kernel
theorem dX7_aloneIn_12 : decode cX7_aloneIn 12 = .ok (.iload_n 3, 1) := by decide +kernel
theorem dX7_aloneIn_13 : decode cX7_aloneIn 13 = .ok (.invokevirtual 179, 3) := by decide +kernel
theorem dX7_aloneIn_16 : decode cX7_aloneIn 16 = .ok (.iconst 1, 1) := by decide +kernel
theorem dX7_aloneIn_17 : decode cX7_aloneIn 17 = .ok (.iload_n 1, 1) := by decide +kernel
theorem dX7_aloneIn_18 : decode cX7_aloneIn 18 = .ok (.ishl, 1) := by decide +kernel
theorem dX7_aloneIn_19 : decode cX7_aloneIn 19 = .ok (.if_icmp .ne 7, 3) := by decide +kernel
theorem dX7_aloneIn_22 : decode cX7_aloneIn 22 = .ok (.iconst 1, 1) := by decide +kernel
theorem dX7_aloneIn_23 : decode cX7_aloneIn 23 = .ok (.goto 4, 3) := by decide +kernel
theorem dX7_aloneIn_26 : decode cX7_aloneIn 26 = .ok (.iconst 0, 1) := by decide +kernel
theorem dX7_aloneIn_27 : decode cX7_aloneIn 27 = .ok (.iadd, 1) := by decide +kernel
theorem dX7_aloneIn_28 : decode cX7_aloneIn 28 = .ok (.istore_n 2, 1) := by decide +kernel
theorem dX7_aloneIn_29 : decode cX7_aloneIn 29 = .ok (.iinc 3 1, 3) := by decide +kernel
theorem dX7_aloneIn_32 : decode cX7_aloneIn 32 = .ok (.goto (-28), 3) := by decide +kernel
theorem dX7_aloneIn_35 : decode cX7_aloneIn 35 = .ok (.iload_n 2, 1) := by decide +kernel
theorem dX7_aloneIn_36 : decode cX7_aloneIn 36 = .ok (.ireturn, 1) := by decide +kernel
theorem dX7_knotsIn_0 : decode cX7_knotsIn 0 = .ok (.aload_n 0, 1) := by decide +kernel
theorem dX7_knotsIn_1 : decode cX7_knotsIn 1 = .ok (.invokevirtual 182, 3) := by decide +kernel
theorem dX7_knotsIn_4 : decode cX7_knotsIn 4 = .ok (.istore_n 2, 1) := by decide +kernel
theorem dX7_knotsIn_5 : decode cX7_knotsIn 5 = .ok (.iconst 0, 1) := by decide +kernel
theorem dX7_knotsIn_6 : decode cX7_knotsIn 6 = .ok (.istore_n 3, 1) := by decide +kernel
theorem dX7_knotsIn_7 : decode cX7_knotsIn 7 = .ok (.iconst 0, 1) := by decide +kernel
theorem dX7_knotsIn_8 : decode cX7_knotsIn 8 = .ok (.istore 4, 2) := by decide +kernel
theorem dX7_knotsIn_10 : decode cX7_knotsIn 10 = .ok (.iload 4, 2) := by decide +kernel
theorem dX7_knotsIn_12 : decode cX7_knotsIn 12 = .ok (.bipush 8, 2) := by decide +kernel
theorem dX7_knotsIn_14 : decode cX7_knotsIn 14 = .ok (.if_icmp .ge 36, 3) := by decide +kernel
theorem dX7_knotsIn_17 : decode cX7_knotsIn 17 = .ok (.iload_n 3, 1) := by decide +kernel
theorem dX7_knotsIn_18 : decode cX7_knotsIn 18 = .ok (.iload_n 2, 1) := by decide +kernel
theorem dX7_knotsIn_19 : decode cX7_knotsIn 19 = .ok (.iload 4, 2) := by decide +kernel
theorem dX7_knotsIn_21 : decode cX7_knotsIn 21 = .ok (.invokestatic 135, 3) := by decide +kernel
theorem dX7_knotsIn_24 : decode cX7_knotsIn 24 = .ok (.ifCond .eq 17, 3) := by decide +kernel
theorem dX7_knotsIn_27 : decode cX7_knotsIn 27 = .ok (.aload_n 0, 1) := by decide +kernel
theorem dX7_knotsIn_28 : decode cX7_knotsIn 28 = .ok (.iload_n 1, 1) := by decide +kernel
theorem dX7_knotsIn_29 : decode cX7_knotsIn 29 = .ok (.iload 4, 2) := by decide +kernel
theorem dX7_knotsIn_31 : decode cX7_knotsIn 31 = .ok (.invokevirtual 141, 3) := by decide +kernel
theorem dX7_knotsIn_34 : decode cX7_knotsIn 34 = .ok (.ifCond .lt 7, 3) := by decide +kernel
theorem dX7_knotsIn_37 : decode cX7_knotsIn 37 = .ok (.iconst 1, 1) := by decide +kernel
theorem dX7_knotsIn_38 : decode cX7_knotsIn 38 = .ok (.goto 4, 3) := by decide +kernel
theorem dX7_knotsIn_41 : decode cX7_knotsIn 41 = .ok (.iconst 0, 1) := by decide +kernel
theorem dX7_knotsIn_42 : decode cX7_knotsIn 42 = .ok (.iadd, 1) := by decide +kernel
theorem dX7_knotsIn_43 : decode cX7_knotsIn 43 = .ok (.istore_n 3, 1) := by decide +kernel
theorem dX7_knotsIn_44 : decode cX7_knotsIn 44 = .ok (.iinc 4 1, 3) := by decide +kernel
theorem dX7_knotsIn_47 : decode cX7_knotsIn 47 = .ok (.goto (-37), 3) := by decide +kernel
theorem dX7_knotsIn_50 : decode cX7_knotsIn 50 = .ok (.iload_n 3, 1) := by decide +kernel
theorem dX7_knotsIn_51 : decode cX7_knotsIn 51 = .ok (.ireturn, 1) := by decide +kernel
theorem dX7_measured_0 : decode cX7_measured 0 = .ok (.iload_n 2, 1) := by decide +kernel
theorem dX7_measured_1 : decode cX7_measured 1 = .ok (.tableswitch 80 0 3 #[31, 37, 47, 74], 31) := by decide +kernel
theorem dX7_measured_32 : decode cX7_measured 32 = .ok (.aload_n 0, 1) := by decide +kernel
theorem dX7_measured_33 : decode cX7_measured 33 = .ok (.iload_n 1, 1) := by decide +kernel
theorem dX7_measured_34 : decode cX7_measured 34 = .ok (.invokevirtual 186, 3) := by decide +kernel
theorem dX7_measured_37 : decode cX7_measured 37 = .ok (.ireturn, 1) := by decide +kernel
theorem dX7_measured_38 : decode cX7_measured 38 = .ok (.aload_n 0, 1) := by decide +kernel
theorem dX7_measured_39 : decode cX7_measured 39 = .ok (.iload_n 1, 1) := by decide +kernel
theorem dX7_measured_40 : decode cX7_measured 40 = .ok (.iconst 1, 1) := by decide +kernel
theorem dX7_measured_41 : decode cX7_measured 41 = .ok (.invokevirtual 175, 3) := by decide +kernel
theorem dX7_measured_44 : decode cX7_measured 44 = .ok (.invokestatic 189, 3) := by decide +kernel
theorem dX7_measured_47 : decode cX7_measured 47 = .ok (.ireturn, 1) := by decide +kernel
theorem dX7_measured_48 : decode cX7_measured 48 = .ok (.iload_n 1, 1) := by decide +kernel
theorem dX7_measured_49 : decode cX7_measured 49 = .ok (.ifCond .le 12, 3) := by decide +kernel
theorem dX7_measured_52 : decode cX7_measured 52 = .ok (.aload_n 0, 1) := by decide +kernel
theorem dX7_measured_53 : decode cX7_measured 53 = .ok (.iconst 0, 1) := by decide +kernel
theorem dX7_measured_54 : decode cX7_measured 54 = .ok (.iload_n 1, 1) := by decide +kernel
theorem dX7_measured_55 : decode cX7_measured 55 = .ok (.invokevirtual 164, 3) := by decide +kernel
theorem dX7_measured_58 : decode cX7_measured 58 = .ok (.goto 16, 3) := by decide +kernel
theorem dX7_measured_61 : decode cX7_measured 61 = .ok (.aload_n 0, 1) := by decide +kernel
theorem dX7_measured_62 : decode cX7_measured 62 = .ok (.iconst 0, 1) := by decide +kernel
theorem dX7_measured_63 : decode cX7_measured 63 = .ok (.invokevirtual 186, 3) := by decide +kernel
theorem dX7_measured_66 : decode cX7_measured 66 = .ok (.ifCond .le 7, 3) := by decide +kernel
theorem dX7_measured_69 : decode cX7_measured 69 = .ok (.iconst 1, 1) := by decide +kernel
theorem dX7_measured_70 : decode cX7_measured 70 = .ok (.goto 4, 3) := by decide +kernel
theorem dX7_measured_73 : decode cX7_measured 73 = .ok (.iconst 0, 1) := by decide +kernel
theorem dX7_measured_74 : decode cX7_measured 74 = .ok (.ireturn, 1) := by decide +kernel
theorem dX7_measured_75 : decode cX7_measured 75 = .ok (.aload_n 0, 1) := by decide +kernel
theorem dX7_measured_76 : decode cX7_measured 76 = .ok (.iload_n 1, 1) := by decide +kernel
theorem dX7_measured_77 : decode cX7_measured 77 = .ok (.invokevirtual 192, 3) := by decide +kernel
theorem dX7_measured_80 : decode cX7_measured 80 = .ok (.ireturn, 1) := by decide +kernel
theorem dX7_measured_81 : decode cX7_measured 81 = .ok (.aload_n 0, 1) := by decide +kernel
theorem dX7_measured_82 : decode cX7_measured 82 = .ok (.iload_n 1, 1) := by decide +kernel
theorem dX7_measured_83 : decode cX7_measured 83 = .ok (.invokevirtual 195, 3) := by decide +kernel
theorem dX7_measured_86 : decode cX7_measured 86 = .ok (.ireturn, 1) := by decide +kernel
theorem dX7_measure_0 : decode cX7_measure 0 = .ok (.aload_n 0, 1) := by decide +kernel
theorem dX7_measure_1 : decode cX7_measure 1 = .ok (.iload_n 1, 1) := by decide +kernel
theorem dX7_measure_2 : decode cX7_measure 2 = .ok (.invokevirtual 126, 3) := by decide +kernel
theorem dX7_measure_5 : decode cX7_measure 5 = .ok (.ifCond .eq 15, 3) := by decide +kernel
theorem dX7_measure_8 : decode cX7_measure 8 = .ok (.iload_n 2, 1) := by decide +kernel
theorem dX7_measure_9 : decode cX7_measure 9 = .ok (.i2l, 1) := by decide +kernel
theorem dX7_measure_10 : decode cX7_measure 10 = .ok (.lconst 0, 1) := by decide +kernel
theorem dX7_measure_11 : decode cX7_measure 11 = .ok (.ldc2_w 198, 3) := by decide +kernel
theorem dX7_measure_14 : decode cX7_measure 14 = .ok (.invokestatic 62, 3) := by decide +kernel
theorem dX7_measure_17 : decode cX7_measure 17 = .ok (.ifCond .ne 7, 3) := by decide +kernel
theorem dX7_measure_20 : decode cX7_measure 20 = .ok (.iconst (-1), 1) := by decide +kernel
theorem dX7_measure_21 : decode cX7_measure 21 = .ok (.goto 9, 3) := by decide +kernel
theorem dX7_measure_24 : decode cX7_measure 24 = .ok (.aload_n 0, 1) := by decide +kernel
theorem dX7_measure_25 : decode cX7_measure 25 = .ok (.iload_n 1, 1) := by decide +kernel
theorem dX7_measure_26 : decode cX7_measure 26 = .ok (.iload_n 2, 1) := by decide +kernel
theorem dX7_measure_27 : decode cX7_measure 27 = .ok (.invokevirtual 200, 3) := by decide +kernel
theorem dX7_measure_30 : decode cX7_measure 30 = .ok (.ireturn, 1) := by decide +kernel
theorem dX7_rank_0 : decode cX7_rank 0 = .ok (.iload_n 1, 1) := by decide +kernel
theorem dX7_rank_1 : decode cX7_rank 1 = .ok (.i2l, 1) := by decide +kernel
theorem dX7_rank_2 : decode cX7_rank 2 = .ok (.lconst 0, 1) := by decide +kernel
theorem dX7_rank_3 : decode cX7_rank 3 = .ok (.ldc2_w 198, 3) := by decide +kernel
theorem dX7_rank_6 : decode cX7_rank 6 = .ok (.invokestatic 62, 3) := by decide +kernel
theorem dX7_rank_9 : decode cX7_rank 9 = .ok (.ifCond .eq 7, 3) := by decide +kernel
theorem dX7_rank_12 : decode cX7_rank 12 = .ok (.iload_n 2, 1) := by decide +kernel
theorem dX7_rank_13 : decode cX7_rank 13 = .ok (.ifCond .ge 5, 3) := by decide +kernel
theorem dX7_rank_16 : decode cX7_rank 16 = .ok (.iconst (-1), 1) := by decide +kernel
theorem dX7_rank_17 : decode cX7_rank 17 = .ok (.ireturn, 1) := by decide +kernel
theorem dX7_rank_18 : decode cX7_rank 18 = .ok (.iconst 0, 1) := by decide +kernel
theorem dX7_rank_19 : decode cX7_rank 19 = .ok (.istore_n 3, 1) := by decide +kernel
theorem dX7_rank_20 : decode cX7_rank 20 = .ok (.iload_n 3, 1) := by decide +kernel
theorem dX7_rank_21 : decode cX7_rank 21 = .ok (.aload_n 0, 1) := by decide +kernel
theorem dX7_rank_22 : decode cX7_rank 22 = .ok (.getfield 120, 3) := by decide +kernel
theorem dX7_rank_25 : decode cX7_rank 25 = .ok (.if_icmp .ge 85, 3) := by decide +kernel
theorem dX7_rank_28 : decode cX7_rank 28 = .ok (.aload_n 0, 1) := by decide +kernel
theorem dX7_rank_29 : decode cX7_rank 29 = .ok (.iload_n 3, 1) := by decide +kernel
theorem dX7_rank_30 : decode cX7_rank 30 = .ok (.iload_n 1, 1) := by decide +kernel
theorem dX7_rank_31 : decode cX7_rank 31 = .ok (.invokevirtual 200, 3) := by decide +kernel
theorem dX7_rank_34 : decode cX7_rank 34 = .ok (.istore 4, 2) := by decide +kernel
theorem dX7_rank_36 : decode cX7_rank 36 = .ok (.iconst 0, 1) := by decide +kernel
theorem dX7_rank_37 : decode cX7_rank 37 = .ok (.istore 5, 2) := by decide +kernel
theorem dX7_rank_39 : decode cX7_rank 39 = .ok (.iconst 0, 1) := by decide +kernel
theorem dX7_rank_40 : decode cX7_rank 40 = .ok (.istore 6, 2) := by decide +kernel
theorem dX7_rank_42 : decode cX7_rank 42 = .ok (.iload 6, 2) := by decide +kernel
theorem dX7_rank_44 : decode cX7_rank 44 = .ok (.aload_n 0, 1) := by decide +kernel
theorem dX7_rank_45 : decode cX7_rank 45 = .ok (.getfield 120, 3) := by decide +kernel
theorem dX7_rank_48 : decode cX7_rank 48 = .ok (.if_icmp .ge 48, 3) := by decide +kernel
theorem dX7_rank_51 : decode cX7_rank 51 = .ok (.aload_n 0, 1) := by decide +kernel
theorem dX7_rank_52 : decode cX7_rank 52 = .ok (.iload 6, 2) := by decide +kernel
theorem dX7_rank_54 : decode cX7_rank 54 = .ok (.iload_n 1, 1) := by decide +kernel
theorem dX7_rank_55 : decode cX7_rank 55 = .ok (.invokevirtual 200, 3) := by decide +kernel
theorem dX7_rank_58 : decode cX7_rank 58 = .ok (.istore 7, 2) := by decide +kernel
theorem dX7_rank_60 : decode cX7_rank 60 = .ok (.iload 5, 2) := by decide +kernel
theorem dX7_rank_62 : decode cX7_rank 62 = .ok (.iload 7, 2) := by decide +kernel
theorem dX7_rank_64 : decode cX7_rank 64 = .ok (.iload 4, 2) := by decide +kernel
theorem dX7_rank_66 : decode cX7_rank 66 = .ok (.if_icmp .gt 16, 3) := by decide +kernel
theorem dX7_rank_69 : decode cX7_rank 69 = .ok (.iload 7, 2) := by decide +kernel
theorem dX7_rank_71 : decode cX7_rank 71 = .ok (.iload 4, 2) := by decide +kernel
theorem dX7_rank_73 : decode cX7_rank 73 = .ok (.if_icmp .ne 13, 3) := by decide +kernel
theorem dX7_rank_76 : decode cX7_rank 76 = .ok (.iload 6, 2) := by decide +kernel
theorem dX7_rank_78 : decode cX7_rank 78 = .ok (.iload_n 3, 1) := by decide +kernel
theorem dX7_rank_79 : decode cX7_rank 79 = .ok (.if_icmp .ge 7, 3) := by decide +kernel
theorem dX7_rank_82 : decode cX7_rank 82 = .ok (.iconst 1, 1) := by decide +kernel
theorem dX7_rank_83 : decode cX7_rank 83 = .ok (.goto 4, 3) := by decide +kernel
theorem dX7_rank_86 : decode cX7_rank 86 = .ok (.iconst 0, 1) := by decide +kernel
theorem dX7_rank_87 : decode cX7_rank 87 = .ok (.iadd, 1) := by decide +kernel
theorem dX7_rank_88 : decode cX7_rank 88 = .ok (.istore 5, 2) := by decide +kernel
theorem dX7_rank_90 : decode cX7_rank 90 = .ok (.iinc 6 1, 3) := by decide +kernel
theorem dX7_rank_93 : decode cX7_rank 93 = .ok (.goto (-51), 3) := by decide +kernel
theorem dX7_rank_96 : decode cX7_rank 96 = .ok (.iload 5, 2) := by decide +kernel
theorem dX7_rank_98 : decode cX7_rank 98 = .ok (.iload_n 2, 1) := by decide +kernel
theorem dX7_rank_99 : decode cX7_rank 99 = .ok (.if_icmp .ne 5, 3) := by decide +kernel
theorem dX7_rank_102 : decode cX7_rank 102 = .ok (.iload_n 3, 1) := by decide +kernel
theorem dX7_rank_103 : decode cX7_rank 103 = .ok (.ireturn, 1) := by decide +kernel
theorem dX7_rank_104 : decode cX7_rank 104 = .ok (.iinc 3 1, 3) := by decide +kernel
theorem dX7_rank_107 : decode cX7_rank 107 = .ok (.goto (-87), 3) := by decide +kernel
theorem dX7_rank_110 : decode cX7_rank 110 = .ok (.bipush (-9), 2) := by decide +kernel
theorem dX7_rank_112 : decode cX7_rank 112 = .ok (.ireturn, 1) := by decide +kernel
theorem dX7_event_0 : decode cX7_event 0 = .ok (.iload_n 1, 1) := by decide +kernel
theorem dX7_event_1 : decode cX7_event 1 = .ok (.i2l, 1) := by decide +kernel
theorem dX7_event_2 : decode cX7_event 2 = .ok (.lconst 0, 1) := by decide +kernel
theorem dX7_event_3 : decode cX7_event 3 = .ok (.ldc2_w 203, 3) := by decide +kernel
theorem dX7_event_6 : decode cX7_event 6 = .ok (.invokestatic 62, 3) := by decide +kernel
theorem dX7_event_9 : decode cX7_event 9 = .ok (.ifCond .eq 15, 3) := by decide +kernel
theorem dX7_event_12 : decode cX7_event 12 = .ok (.iload_n 2, 1) := by decide +kernel
theorem dX7_event_13 : decode cX7_event 13 = .ok (.i2l, 1) := by decide +kernel
theorem dX7_event_14 : decode cX7_event 14 = .ok (.lconst 0, 1) := by decide +kernel
theorem dX7_event_15 : decode cX7_event 15 = .ok (.ldc2_w 161, 3) := by decide +kernel
theorem dX7_event_18 : decode cX7_event 18 = .ok (.invokestatic 62, 3) := by decide +kernel
theorem dX7_event_21 : decode cX7_event 21 = .ok (.ifCond .ne 5, 3) := by decide +kernel
theorem dX7_event_24 : decode cX7_event 24 = .ok (.iconst (-1), 1) := by decide +kernel
theorem dX7_event_25 : decode cX7_event 25 = .ok (.ireturn, 1) := by decide +kernel
theorem dX7_event_26 : decode cX7_event 26 = .ok (.aload_n 0, 1) := by decide +kernel
theorem dX7_event_27 : decode cX7_event 27 = .ok (.invokevirtual 182, 3) := by decide +kernel
theorem dX7_event_30 : decode cX7_event 30 = .ok (.istore_n 3, 1) := by decide +kernel
theorem dX7_event_31 : decode cX7_event 31 = .ok (.iload_n 2, 1) := by decide +kernel
theorem dX7_event_32 : decode cX7_event 32 = .ok (.ifCond .ne 11, 3) := by decide +kernel
theorem dX7_event_35 : decode cX7_event 35 = .ok (.aload_n 0, 1) := by decide +kernel
theorem dX7_event_36 : decode cX7_event 36 = .ok (.iload_n 1, 1) := by decide +kernel
theorem dX7_event_37 : decode cX7_event 37 = .ok (.invokevirtual 179, 3) := by decide +kernel
theorem dX7_event_40 : decode cX7_event 40 = .ok (.goto 35, 3) := by decide +kernel
theorem dX7_event_43 : decode cX7_event 43 = .ok (.iload_n 2, 1) := by decide +kernel
theorem dX7_event_44 : decode cX7_event 44 = .ok (.iconst 1, 1) := by decide +kernel
theorem dX7_event_45 : decode cX7_event 45 = .ok (.if_icmp .ne 11, 3) := by decide +kernel
theorem dX7_event_48 : decode cX7_event 48 = .ok (.aload_n 0, 1) := by decide +kernel
theorem dX7_event_49 : decode cX7_event 49 = .ok (.iload_n 1, 1) := by decide +kernel
theorem dX7_event_50 : decode cX7_event 50 = .ok (.invokevirtual 145, 3) := by decide +kernel
theorem dX7_event_53 : decode cX7_event 53 = .ok (.goto 22, 3) := by decide +kernel
theorem dX7_event_56 : decode cX7_event 56 = .ok (.iload_n 2, 1) := by decide +kernel
theorem dX7_event_57 : decode cX7_event 57 = .ok (.iconst 2, 1) := by decide +kernel
theorem dX7_event_58 : decode cX7_event 58 = .ok (.if_icmp .ne 12, 3) := by decide +kernel
theorem dX7_event_61 : decode cX7_event 61 = .ok (.aload_n 0, 1) := by decide +kernel
theorem dX7_event_62 : decode cX7_event 62 = .ok (.getfield 42, 3) := by decide +kernel
theorem dX7_event_65 : decode cX7_event 65 = .ok (.iload_n 1, 1) := by decide +kernel
theorem dX7_event_66 : decode cX7_event 66 = .ok (.iaload, 1) := by decide +kernel
theorem dX7_event_67 : decode cX7_event 67 = .ok (.goto 8, 3) := by decide +kernel
theorem dX7_event_70 : decode cX7_event 70 = .ok (.iload_n 3, 1) := by decide +kernel
theorem dX7_event_71 : decode cX7_event 71 = .ok (.iload_n 1, 1) := by decide +kernel
theorem dX7_event_72 : decode cX7_event 72 = .ok (.ishr, 1) := by decide +kernel
theorem dX7_event_73 : decode cX7_event 73 = .ok (.iconst 1, 1) := by decide +kernel
theorem dX7_event_74 : decode cX7_event 74 = .ok (.iand, 1) := by decide +kernel
theorem dX7_event_75 : decode cX7_event 75 = .ok (.ireturn, 1) := by decide +kernel
theorem dX7_date_0 : decode cX7_date 0 = .ok (.iconst 0, 1) := by decide +kernel
theorem dX7_date_1 : decode cX7_date 1 = .ok (.istore_n 2, 1) := by decide +kernel
theorem dX7_date_2 : decode cX7_date 2 = .ok (.iload_n 2, 1) := by decide +kernel
theorem dX7_date_3 : decode cX7_date 3 = .ok (.aload_n 0, 1) := by decide +kernel
theorem dX7_date_4 : decode cX7_date 4 = .ok (.getfield 120, 3) := by decide +kernel
theorem dX7_date_7 : decode cX7_date 7 = .ok (.if_icmp .ge 43, 3) := by decide +kernel
theorem dX7_date_10 : decode cX7_date 10 = .ok (.iload_n 1, 1) := by decide +kernel
theorem dX7_date_11 : decode cX7_date 11 = .ok (.i2l, 1) := by decide +kernel
theorem dX7_date_12 : decode cX7_date 12 = .ok (.lconst 0, 1) := by decide +kernel
theorem dX7_date_13 : decode cX7_date 13 = .ok (.ldc2_w 203, 3) := by decide +kernel
theorem dX7_date_16 : decode cX7_date 16 = .ok (.invokestatic 62, 3) := by decide +kernel
theorem dX7_date_19 : decode cX7_date 19 = .ok (.ifCond .eq 31, 3) := by decide +kernel
theorem dX7_date_22 : decode cX7_date 22 = .ok (.aload_n 0, 1) := by decide +kernel
theorem dX7_date_23 : decode cX7_date 23 = .ok (.iload_n 2, 1) := by decide +kernel
theorem dX7_date_24 : decode cX7_date 24 = .ok (.iload_n 1, 1) := by decide +kernel
theorem dX7_date_25 : decode cX7_date 25 = .ok (.invokevirtual 141, 3) := by decide +kernel
theorem dX7_date_28 : decode cX7_date 28 = .ok (.ifCond .lt 16, 3) := by decide +kernel
theorem dX7_date_31 : decode cX7_date 31 = .ok (.aload_n 0, 1) := by decide +kernel
theorem dX7_date_32 : decode cX7_date 32 = .ok (.iload_n 2, 1) := by decide +kernel
theorem dX7_date_33 : decode cX7_date 33 = .ok (.iload_n 1, 1) := by decide +kernel
theorem dX7_date_34 : decode cX7_date 34 = .ok (.invokevirtual 141, 3) := by decide +kernel
theorem dX7_date_37 : decode cX7_date 37 = .ok (.aload_n 0, 1) := by decide +kernel
theorem dX7_date_38 : decode cX7_date 38 = .ok (.iload_n 2, 1) := by decide +kernel
theorem dX7_date_39 : decode cX7_date 39 = .ok (.invokevirtual 170, 3) := by decide +kernel
theorem dX7_date_42 : decode cX7_date 42 = .ok (.isub, 1) := by decide +kernel
theorem dX7_date_43 : decode cX7_date 43 = .ok (.ireturn, 1) := by decide +kernel
theorem dX7_date_44 : decode cX7_date 44 = .ok (.iinc 2 1, 3) := by decide +kernel
theorem dX7_date_47 : decode cX7_date 47 = .ok (.goto (-45), 3) := by decide +kernel
theorem dX7_date_50 : decode cX7_date 50 = .ok (.ldc 163, 2) := by decide +kernel
theorem dX7_date_52 : decode cX7_date 52 = .ok (.ireturn, 1) := by decide +kernel
theorem dX7_late_0 : decode cX7_late 0 = .ok (.aload_n 0, 1) := by decide +kernel
theorem dX7_late_1 : decode cX7_late 1 = .ok (.iload_n 1, 1) := by decide +kernel
theorem dX7_late_2 : decode cX7_late 2 = .ok (.invokevirtual 205, 3) := by decide +kernel
theorem dX7_late_5 : decode cX7_late 5 = .ok (.istore_n 3, 1) := by decide +kernel
theorem dX7_late_6 : decode cX7_late 6 = .ok (.aload_n 0, 1) := by decide +kernel
theorem dX7_late_7 : decode cX7_late 7 = .ok (.iload_n 2, 1) := by decide +kernel
theorem dX7_late_8 : decode cX7_late 8 = .ok (.invokevirtual 205, 3) := by decide +kernel
theorem dX7_late_11 : decode cX7_late 11 = .ok (.istore 4, 2) := by decide +kernel
theorem dX7_late_13 : decode cX7_late 13 = .ok (.iload_n 3, 1) := by decide +kernel
theorem dX7_late_14 : decode cX7_late 14 = .ok (.ldc 163, 2) := by decide +kernel
theorem dX7_late_16 : decode cX7_late 16 = .ok (.if_icmp .eq 10, 3) := by decide +kernel
theorem dX7_late_19 : decode cX7_late 19 = .ok (.iload 4, 2) := by decide +kernel
theorem dX7_late_21 : decode cX7_late 21 = .ok (.ldc 163, 2) := by decide +kernel
theorem dX7_late_23 : decode cX7_late 23 = .ok (.if_icmp .ne 8, 3) := by decide +kernel
theorem dX7_late_26 : decode cX7_late 26 = .ok (.ldc 163, 2) := by decide +kernel
theorem dX7_late_28 : decode cX7_late 28 = .ok (.goto 7, 3) := by decide +kernel
theorem dX7_late_31 : decode cX7_late 31 = .ok (.iload_n 3, 1) := by decide +kernel
theorem dX7_late_32 : decode cX7_late 32 = .ok (.iload 4, 2) := by decide +kernel
theorem dX7_late_34 : decode cX7_late 34 = .ok (.isub, 1) := by decide +kernel
theorem dX7_late_35 : decode cX7_late 35 = .ok (.ireturn, 1) := by decide +kernel
theorem dX7_line_0 : decode cX7_line 0 = .ok (.iload_n 1, 1) := by decide +kernel
theorem dX7_line_1 : decode cX7_line 1 = .ok (.ifCond .ge 5, 3) := by decide +kernel
theorem dX7_line_4 : decode cX7_line 4 = .ok (.iconst (-1), 1) := by decide +kernel
theorem dX7_line_5 : decode cX7_line 5 = .ok (.ireturn, 1) := by decide +kernel
theorem dX7_line_6 : decode cX7_line 6 = .ok (.aload_n 0, 1) := by decide +kernel
theorem dX7_line_7 : decode cX7_line 7 = .ok (.invokevirtual 182, 3) := by decide +kernel
theorem dX7_line_10 : decode cX7_line 10 = .ok (.ifCond .eq 6, 3) := by decide +kernel
theorem dX7_line_13 : decode cX7_line 13 = .ok (.bipush (-9), 2) := by decide +kernel
theorem dX7_line_15 : decode cX7_line 15 = .ok (.ireturn, 1) := by decide +kernel
theorem dX7_line_16 : decode cX7_line 16 = .ok (.iconst 0, 1) := by decide +kernel
theorem dX7_line_17 : decode cX7_line 17 = .ok (.istore_n 2, 1) := by decide +kernel
theorem dX7_line_18 : decode cX7_line 18 = .ok (.iconst 0, 1) := by decide +kernel
theorem dX7_line_19 : decode cX7_line 19 = .ok (.istore_n 3, 1) := by decide +kernel
theorem dX7_line_20 : decode cX7_line 20 = .ok (.iload_n 3, 1) := by decide +kernel
theorem dX7_line_21 : decode cX7_line 21 = .ok (.bipush 8, 2) := by decide +kernel
theorem dX7_line_23 : decode cX7_line 23 = .ok (.if_icmp .ge 27, 3) := by decide +kernel
theorem dX7_line_26 : decode cX7_line 26 = .ok (.iload_n 2, 1) := by decide +kernel
theorem dX7_line_27 : decode cX7_line 27 = .ok (.aload_n 0, 1) := by decide +kernel
theorem dX7_line_28 : decode cX7_line 28 = .ok (.iload_n 3, 1) := by decide +kernel
theorem dX7_line_29 : decode cX7_line 29 = .ok (.invokevirtual 179, 3) := by decide +kernel
theorem dX7_line_32 : decode cX7_line 32 = .ok (.ifCond .eq 9, 3) := by decide +kernel
theorem dX7_line_35 : decode cX7_line 35 = .ok (.iconst 1, 1) := by decide +kernel
theorem dX7_line_36 : decode cX7_line 36 = .ok (.iload_n 3, 1) := by decide +kernel
theorem dX7_line_37 : decode cX7_line 37 = .ok (.ishl, 1) := by decide +kernel
theorem dX7_line_38 : decode cX7_line 38 = .ok (.goto 4, 3) := by decide +kernel
theorem dX7_line_41 : decode cX7_line 41 = .ok (.iconst 0, 1) := by decide +kernel
theorem dX7_line_42 : decode cX7_line 42 = .ok (.ior, 1) := by decide +kernel
theorem dX7_line_43 : decode cX7_line 43 = .ok (.istore_n 2, 1) := by decide +kernel
theorem dX7_line_44 : decode cX7_line 44 = .ok (.iinc 3 1, 3) := by decide +kernel
theorem dX7_line_47 : decode cX7_line 47 = .ok (.goto (-27), 3) := by decide +kernel
theorem dX7_line_50 : decode cX7_line 50 = .ok (.iconst 0, 1) := by decide +kernel
theorem dX7_line_51 : decode cX7_line 51 = .ok (.istore_n 3, 1) := by decide +kernel
theorem dX7_line_52 : decode cX7_line 52 = .ok (.iload_n 2, 1) := by decide +kernel
theorem dX7_line_53 : decode cX7_line 53 = .ok (.ifCond .eq 92, 3) := by decide +kernel
theorem dX7_line_56 : decode cX7_line 56 = .ok (.iconst 0, 1) := by decide +kernel
theorem dX7_line_57 : decode cX7_line 57 = .ok (.istore 4, 2) := by decide +kernel
theorem dX7_line_59 : decode cX7_line 59 = .ok (.iconst 0, 1) := by decide +kernel
theorem dX7_line_60 : decode cX7_line 60 = .ok (.istore 5, 2) := by decide +kernel
theorem dX7_line_62 : decode cX7_line 62 = .ok (.iload 5, 2) := by decide +kernel
theorem dX7_line_64 : decode cX7_line 64 = .ok (.bipush 8, 2) := by decide +kernel
theorem dX7_line_66 : decode cX7_line 66 = .ok (.if_icmp .ge 33, 3) := by decide +kernel
theorem dX7_line_69 : decode cX7_line 69 = .ok (.iload 4, 2) := by decide +kernel
theorem dX7_line_71 : decode cX7_line 71 = .ok (.iload_n 2, 1) := by decide +kernel
theorem dX7_line_72 : decode cX7_line 72 = .ok (.iload 5, 2) := by decide +kernel
theorem dX7_line_74 : decode cX7_line 74 = .ok (.invokestatic 135, 3) := by decide +kernel
theorem dX7_line_77 : decode cX7_line 77 = .ok (.ifCond .eq 12, 3) := by decide +kernel
theorem dX7_line_80 : decode cX7_line 80 = .ok (.aload_n 0, 1) := by decide +kernel
theorem dX7_line_81 : decode cX7_line 81 = .ok (.iload 5, 2) := by decide +kernel
theorem dX7_line_83 : decode cX7_line 83 = .ok (.invokevirtual 145, 3) := by decide +kernel
theorem dX7_line_86 : decode cX7_line 86 = .ok (.goto 4, 3) := by decide +kernel
theorem dX7_line_89 : decode cX7_line 89 = .ok (.iconst 0, 1) := by decide +kernel
theorem dX7_line_90 : decode cX7_line 90 = .ok (.ior, 1) := by decide +kernel
theorem dX7_line_91 : decode cX7_line 91 = .ok (.istore 4, 2) := by decide +kernel
theorem dX7_line_93 : decode cX7_line 93 = .ok (.iinc 5 1, 3) := by decide +kernel
theorem dX7_line_96 : decode cX7_line 96 = .ok (.goto (-34), 3) := by decide +kernel
theorem dX7_line_99 : decode cX7_line 99 = .ok (.iconst 0, 1) := by decide +kernel
theorem dX7_line_100 : decode cX7_line 100 = .ok (.istore 5, 2) := by decide +kernel
theorem dX7_line_102 : decode cX7_line 102 = .ok (.iload_n 2, 1) := by decide +kernel
theorem dX7_line_103 : decode cX7_line 103 = .ok (.iload 4, 2) := by decide +kernel
theorem dX7_line_105 : decode cX7_line 105 = .ok (.iconst (-1), 1) := by decide +kernel
theorem dX7_line_106 : decode cX7_line 106 = .ok (.ixor, 1) := by decide +kernel
theorem dX7_line_107 : decode cX7_line 107 = .ok (.iand, 1) := by decide +kernel
theorem dX7_line_108 : decode cX7_line 108 = .ok (.iload 5, 2) := by decide +kernel
theorem dX7_line_110 : decode cX7_line 110 = .ok (.invokestatic 135, 3) := by decide +kernel
theorem dX7_line_113 : decode cX7_line 113 = .ok (.ifCond .ne 9, 3) := by decide +kernel
theorem dX7_line_116 : decode cX7_line 116 = .ok (.iinc 5 1, 3) := by decide +kernel
theorem dX7_line_119 : decode cX7_line 119 = .ok (.goto (-17), 3) := by decide +kernel
theorem dX7_line_122 : decode cX7_line 122 = .ok (.iload_n 3, 1) := by decide +kernel
theorem dX7_line_123 : decode cX7_line 123 = .ok (.iload_n 1, 1) := by decide +kernel
theorem dX7_line_124 : decode cX7_line 124 = .ok (.if_icmp .ne 6, 3) := by decide +kernel
theorem dX7_line_127 : decode cX7_line 127 = .ok (.iload 5, 2) := by decide +kernel
theorem dX7_line_129 : decode cX7_line 129 = .ok (.ireturn, 1) := by decide +kernel
theorem dX7_line_130 : decode cX7_line 130 = .ok (.iload_n 2, 1) := by decide +kernel
theorem dX7_line_131 : decode cX7_line 131 = .ok (.iconst 1, 1) := by decide +kernel
theorem dX7_line_132 : decode cX7_line 132 = .ok (.iload 5, 2) := by decide +kernel
theorem dX7_line_134 : decode cX7_line 134 = .ok (.ishl, 1) := by decide +kernel
theorem dX7_line_135 : decode cX7_line 135 = .ok (.iconst (-1), 1) := by decide +kernel
theorem dX7_line_136 : decode cX7_line 136 = .ok (.ixor, 1) := by decide +kernel
theorem dX7_line_137 : decode cX7_line 137 = .ok (.iand, 1) := by decide +kernel
theorem dX7_line_138 : decode cX7_line 138 = .ok (.istore_n 2, 1) := by decide +kernel
theorem dX7_line_139 : decode cX7_line 139 = .ok (.iinc 3 1, 3) := by decide +kernel
theorem dX7_line_142 : decode cX7_line 142 = .ok (.goto (-90), 3) := by decide +kernel
theorem dX7_line_145 : decode cX7_line 145 = .ok (.bipush (-9), 2) := by decide +kernel
theorem dX7_line_147 : decode cX7_line 147 = .ok (.ireturn, 1) := by decide +kernel
theorem dX7_without_0 : decode cX7_without 0 = .ok (.bipush 15, 2) := by decide +kernel
theorem dX7_without_2 : decode cX7_without 2 = .ok (.istore_n 1, 1) := by decide +kernel
theorem dX7_without_3 : decode cX7_without 3 = .ok (.iconst 0, 1) := by decide +kernel
theorem dX7_without_4 : decode cX7_without 4 = .ok (.istore_n 2, 1) := by decide +kernel
theorem dX7_without_5 : decode cX7_without 5 = .ok (.iload_n 2, 1) := by decide +kernel
theorem dX7_without_6 : decode cX7_without 6 = .ok (.iconst 1, 1) := by decide +kernel
theorem dX7_without_7 : decode cX7_without 7 = .ok (.aload_n 0, 1) := by decide +kernel
theorem dX7_without_8 : decode cX7_without 8 = .ok (.getfield 120, 3) := by decide +kernel
theorem dX7_without_11 : decode cX7_without 11 = .ok (.ishl, 1) := by decide +kernel
theorem dX7_without_12 : decode cX7_without 12 = .ok (.if_icmp .ge 43, 3) := by decide +kernel
theorem dX7_without_15 : decode cX7_without 15 = .ok (.iload_n 2, 1) := by decide +kernel
theorem dX7_without_16 : decode cX7_without 16 = .ok (.invokestatic 189, 3) := by decide +kernel
theorem dX7_without_19 : decode cX7_without 19 = .ok (.iload_n 1, 1) := by decide +kernel
theorem dX7_without_20 : decode cX7_without 20 = .ok (.invokestatic 189, 3) := by decide +kernel
theorem dX7_without_23 : decode cX7_without 23 = .ok (.if_icmp .ge 26, 3) := by decide +kernel
theorem dX7_without_26 : decode cX7_without 26 = .ok (.aload_n 0, 1) := by decide +kernel
theorem dX7_without_27 : decode cX7_without 27 = .ok (.iload_n 2, 1) := by decide +kernel
theorem dX7_without_28 : decode cX7_without 28 = .ok (.putfield 132, 3) := by decide +kernel
theorem dX7_without_31 : decode cX7_without 31 = .ok (.aload_n 0, 1) := by decide +kernel
theorem dX7_without_32 : decode cX7_without 32 = .ok (.invokevirtual 182, 3) := by decide +kernel
theorem dX7_without_35 : decode cX7_without 35 = .ok (.ifCond .ne 7, 3) := by decide +kernel
theorem dX7_without_38 : decode cX7_without 38 = .ok (.iload_n 2, 1) := by decide +kernel
theorem dX7_without_39 : decode cX7_without 39 = .ok (.goto 4, 3) := by decide +kernel
theorem dX7_without_42 : decode cX7_without 42 = .ok (.iload_n 1, 1) := by decide +kernel
theorem dX7_without_43 : decode cX7_without 43 = .ok (.istore_n 1, 1) := by decide +kernel
theorem dX7_without_44 : decode cX7_without 44 = .ok (.aload_n 0, 1) := by decide +kernel
theorem dX7_without_45 : decode cX7_without 45 = .ok (.iconst 0, 1) := by decide +kernel
theorem dX7_without_46 : decode cX7_without 46 = .ok (.putfield 132, 3) := by decide +kernel
theorem dX7_without_49 : decode cX7_without 49 = .ok (.iinc 2 1, 3) := by decide +kernel
theorem dX7_without_52 : decode cX7_without 52 = .ok (.goto (-47), 3) := by decide +kernel
theorem dX7_without_55 : decode cX7_without 55 = .ok (.iload_n 1, 1) := by decide +kernel
theorem dX7_without_56 : decode cX7_without 56 = .ok (.ireturn, 1) := by decide +kernel
theorem dX7_entry_0 : decode cX7_entry 0 = .ok (.aload_n 0, 1) := by decide +kernel
theorem dX7_entry_1 : decode cX7_entry 1 = .ok (.iload_n 1, 1) := by decide +kernel
theorem dX7_entry_2 : decode cX7_entry 2 = .ok (.iload_n 2, 1) := by decide +kernel
theorem dX7_entry_3 : decode cX7_entry 3 = .ok (.invokevirtual 129, 3) := by decide +kernel
theorem dX7_entry_6 : decode cX7_entry 6 = .ok (.ifCond .eq 15, 3) := by decide +kernel
theorem dX7_entry_9 : decode cX7_entry 9 = .ok (.iload_n 3, 1) := by decide +kernel
theorem dX7_entry_10 : decode cX7_entry 10 = .ok (.i2l, 1) := by decide +kernel
theorem dX7_entry_11 : decode cX7_entry 11 = .ok (.lconst 0, 1) := by decide +kernel
theorem dX7_entry_12 : decode cX7_entry 12 = .ok (.ldc2_w 173, 3) := by decide +kernel
theorem dX7_entry_15 : decode cX7_entry 15 = .ok (.invokestatic 62, 3) := by decide +kernel
theorem dX7_entry_18 : decode cX7_entry 18 = .ok (.ifCond .ne 5, 3) := by decide +kernel
theorem dX7_entry_21 : decode cX7_entry 21 = .ok (.iconst (-1), 1) := by decide +kernel
theorem dX7_entry_22 : decode cX7_entry 22 = .ok (.ireturn, 1) := by decide +kernel
theorem dX7_entry_23 : decode cX7_entry 23 = .ok (.bipush 6, 2) := by decide +kernel
theorem dX7_entry_25 : decode cX7_entry 25 = .ok (.iload_n 1, 1) := by decide +kernel
theorem dX7_entry_26 : decode cX7_entry 26 = .ok (.imul, 1) := by decide +kernel
theorem dX7_entry_27 : decode cX7_entry 27 = .ok (.iload_n 2, 1) := by decide +kernel
theorem dX7_entry_28 : decode cX7_entry 28 = .ok (.iadd, 1) := by decide +kernel
theorem dX7_entry_29 : decode cX7_entry 29 = .ok (.istore 4, 2) := by decide +kernel
theorem dX7_entry_31 : decode cX7_entry 31 = .ok (.iload_n 3, 1) := by decide +kernel
theorem dX7_entry_32 : decode cX7_entry 32 = .ok (.ifCond .ne 13, 3) := by decide +kernel
theorem dX7_entry_35 : decode cX7_entry 35 = .ok (.aload_n 0, 1) := by decide +kernel
theorem dX7_entry_36 : decode cX7_entry 36 = .ok (.getfield 26, 3) := by decide +kernel
theorem dX7_entry_39 : decode cX7_entry 39 = .ok (.iload 4, 2) := by decide +kernel
theorem dX7_entry_41 : decode cX7_entry 41 = .ok (.iaload, 1) := by decide +kernel
theorem dX7_entry_42 : decode cX7_entry 42 = .ok (.goto 30, 3) := by decide +kernel
theorem dX7_entry_45 : decode cX7_entry 45 = .ok (.iload_n 3, 1) := by decide +kernel
theorem dX7_entry_46 : decode cX7_entry 46 = .ok (.iconst 1, 1) := by decide +kernel
theorem dX7_entry_47 : decode cX7_entry 47 = .ok (.if_icmp .ne 15, 3) := by decide +kernel
theorem dX7_entry_50 : decode cX7_entry 50 = .ok (.aload_n 0, 1) := by decide +kernel
theorem dX7_entry_51 : decode cX7_entry 51 = .ok (.getfield 7, 3) := by decide +kernel
theorem dX7_entry_54 : decode cX7_entry 54 = .ok (.iconst 1, 1) := by decide +kernel
theorem dX7_entry_55 : decode cX7_entry 55 = .ok (.iload 4, 2) := by decide +kernel
theorem dX7_entry_57 : decode cX7_entry 57 = .ok (.iadd, 1) := by decide +kernel
theorem dX7_entry_58 : decode cX7_entry 58 = .ok (.iaload, 1) := by decide +kernel
theorem dX7_entry_59 : decode cX7_entry 59 = .ok (.goto 13, 3) := by decide +kernel
theorem dX7_entry_62 : decode cX7_entry 62 = .ok (.aload_n 0, 1) := by decide +kernel
theorem dX7_entry_63 : decode cX7_entry 63 = .ok (.getfield 7, 3) := by decide +kernel
theorem dX7_entry_66 : decode cX7_entry 66 = .ok (.bipush 25, 2) := by decide +kernel
theorem dX7_entry_68 : decode cX7_entry 68 = .ok (.iload 4, 2) := by decide +kernel
theorem dX7_entry_70 : decode cX7_entry 70 = .ok (.iadd, 1) := by decide +kernel
theorem dX7_entry_71 : decode cX7_entry 71 = .ok (.iaload, 1) := by decide +kernel
theorem dX7_entry_72 : decode cX7_entry 72 = .ok (.ireturn, 1) := by decide +kernel
theorem dX7_strikes_0 : decode cX7_strikes 0 = .ok (.aload_n 0, 1) := by decide +kernel
theorem dX7_strikes_1 : decode cX7_strikes 1 = .ok (.iload_n 1, 1) := by decide +kernel
theorem dX7_strikes_2 : decode cX7_strikes 2 = .ok (.iload_n 2, 1) := by decide +kernel
theorem dX7_strikes_3 : decode cX7_strikes 3 = .ok (.invokevirtual 129, 3) := by decide +kernel
theorem dX7_strikes_6 : decode cX7_strikes 6 = .ok (.ifCond .ne 5, 3) := by decide +kernel
theorem dX7_strikes_9 : decode cX7_strikes 9 = .ok (.iconst (-1), 1) := by decide +kernel
theorem dX7_strikes_10 : decode cX7_strikes 10 = .ok (.ireturn, 1) := by decide +kernel
theorem dX7_strikes_11 : decode cX7_strikes 11 = .ok (.aload_n 0, 1) := by decide +kernel
theorem dX7_strikes_12 : decode cX7_strikes 12 = .ok (.invokevirtual 208, 3) := by decide +kernel
theorem dX7_strikes_15 : decode cX7_strikes 15 = .ok (.bipush 25, 2) := by decide +kernel
theorem dX7_strikes_17 : decode cX7_strikes 17 = .ok (.bipush 6, 2) := by decide +kernel
theorem dX7_strikes_19 : decode cX7_strikes 19 = .ok (.iload_n 1, 1) := by decide +kernel
theorem dX7_strikes_20 : decode cX7_strikes 20 = .ok (.imul, 1) := by decide +kernel
theorem dX7_strikes_21 : decode cX7_strikes 21 = .ok (.iadd, 1) := by decide +kernel
theorem dX7_strikes_22 : decode cX7_strikes 22 = .ok (.iload_n 2, 1) := by decide +kernel
theorem dX7_strikes_23 : decode cX7_strikes 23 = .ok (.iadd, 1) := by decide +kernel
theorem dX7_strikes_24 : decode cX7_strikes 24 = .ok (.istore_n 3, 1) := by decide +kernel
theorem dX7_strikes_25 : decode cX7_strikes 25 = .ok (.aload_n 0, 1) := by decide +kernel
theorem dX7_strikes_26 : decode cX7_strikes 26 = .ok (.getfield 7, 3) := by decide +kernel
theorem dX7_strikes_29 : decode cX7_strikes 29 = .ok (.iload_n 3, 1) := by decide +kernel
theorem dX7_strikes_30 : decode cX7_strikes 30 = .ok (.iconst 1, 1) := by decide +kernel
theorem dX7_strikes_31 : decode cX7_strikes 31 = .ok (.aload_n 0, 1) := by decide +kernel
theorem dX7_strikes_32 : decode cX7_strikes 32 = .ok (.getfield 7, 3) := by decide +kernel
theorem dX7_strikes_35 : decode cX7_strikes 35 = .ok (.iload_n 3, 1) := by decide +kernel
theorem dX7_strikes_36 : decode cX7_strikes 36 = .ok (.iaload, 1) := by decide +kernel
theorem dX7_strikes_37 : decode cX7_strikes 37 = .ok (.isub, 1) := by decide +kernel
theorem dX7_strikes_38 : decode cX7_strikes 38 = .ok (.iastore, 1) := by decide +kernel
theorem dX7_strikes_39 : decode cX7_strikes 39 = .ok (.aload_n 0, 1) := by decide +kernel
theorem dX7_strikes_40 : decode cX7_strikes 40 = .ok (.getfield 7, 3) := by decide +kernel
theorem dX7_strikes_43 : decode cX7_strikes 43 = .ok (.iload_n 3, 1) := by decide +kernel
theorem dX7_strikes_44 : decode cX7_strikes 44 = .ok (.iaload, 1) := by decide +kernel
theorem dX7_strikes_45 : decode cX7_strikes 45 = .ok (.ireturn, 1) := by decide +kernel
