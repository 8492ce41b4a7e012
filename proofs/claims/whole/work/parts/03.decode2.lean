theorem dX6_tells_0 : decode cX6_tells 0 = .ok (.aload_n 0, 1) := by decide +kernel
theorem dX6_tells_1 : decode cX6_tells 1 = .ok (.getfield 19, 3) := by decide +kernel
theorem dX6_tells_4 : decode cX6_tells 4 = .ok (.iload_n 1, 1) := by decide +kernel
theorem dX6_tells_5 : decode cX6_tells 5 = .ok (.iload_n 2, 1) := by decide +kernel
theorem dX6_tells_6 : decode cX6_tells 6 = .ok (.invokevirtual 81, 3) := by decide +kernel
theorem dX6_tells_9 : decode cX6_tells 9 = .ok (.ifCond .eq 13, 3) := by decide +kernel
theorem dX6_tells_12 : decode cX6_tells 12 = .ok (.iload_n 3, 1) := by decide +kernel
theorem dX6_tells_13 : decode cX6_tells 13 = .ok (.ifCond .lt 9, 3) := by decide +kernel
theorem dX6_tells_16 : decode cX6_tells 16 = .ok (.iload_n 3, 1) := by decide +kernel
theorem dX6_tells_17 : decode cX6_tells 17 = .ok (.bipush 99, 2) := by decide +kernel
theorem dX6_tells_19 : decode cX6_tells 19 = .ok (.if_icmp .le 5, 3) := by decide +kernel
theorem dX6_tells_22 : decode cX6_tells 22 = .ok (.iconst (-1), 1) := by decide +kernel
theorem dX6_tells_23 : decode cX6_tells 23 = .ok (.ireturn, 1) := by decide +kernel
theorem dX6_tells_24 : decode cX6_tells 24 = .ok (.aload_n 0, 1) := by decide +kernel
theorem dX6_tells_25 : decode cX6_tells 25 = .ok (.getfield 19, 3) := by decide +kernel
theorem dX6_tells_28 : decode cX6_tells 28 = .ok (.getfield 85, 3) := by decide +kernel
theorem dX6_tells_31 : decode cX6_tells 31 = .ok (.iload_n 1, 1) := by decide +kernel
theorem dX6_tells_32 : decode cX6_tells 32 = .ok (.aaload, 1) := by decide +kernel
theorem dX6_tells_33 : decode cX6_tells 33 = .ok (.astore 4, 2) := by decide +kernel
theorem dX6_tells_35 : decode cX6_tells 35 = .ok (.aload 4, 2) := by decide +kernel
theorem dX6_tells_37 : decode cX6_tells 37 = .ok (.getfield 94, 3) := by decide +kernel
theorem dX6_tells_40 : decode cX6_tells 40 = .ok (.iload_n 2, 1) := by decide +kernel
theorem dX6_tells_41 : decode cX6_tells 41 = .ok (.iaload, 1) := by decide +kernel
theorem dX6_tells_42 : decode cX6_tells 42 = .ok (.istore 5, 2) := by decide +kernel
theorem dX6_tells_44 : decode cX6_tells 44 = .ok (.iload_n 3, 1) := by decide +kernel
theorem dX6_tells_45 : decode cX6_tells 45 = .ok (.iload 5, 2) := by decide +kernel
theorem dX6_tells_47 : decode cX6_tells 47 = .ok (.if_icmp .eq 13, 3) := by decide +kernel
theorem dX6_tells_50 : decode cX6_tells 50 = .ok (.aload 4, 2) := by decide +kernel
theorem dX6_tells_52 : decode cX6_tells 52 = .ok (.iload_n 2, 1) := by decide +kernel
theorem dX6_tells_53 : decode cX6_tells 53 = .ok (.iload_n 3, 1) := by decide +kernel
theorem dX6_tells_54 : decode cX6_tells 54 = .ok (.invokevirtual 108, 3) := by decide +kernel
theorem dX6_tells_57 : decode cX6_tells 57 = .ok (.ifCond .ne 6, 3) := by decide +kernel
theorem dX6_tells_60 : decode cX6_tells 60 = .ok (.bipush (-2), 2) := by decide +kernel
theorem dX6_tells_62 : decode cX6_tells 62 = .ok (.ireturn, 1) := by decide +kernel
theorem dX6_tells_63 : decode cX6_tells 63 = .ok (.aload_n 0, 1) := by decide +kernel
theorem dX6_tells_64 : decode cX6_tells 64 = .ok (.getfield 37, 3) := by decide +kernel
theorem dX6_tells_67 : decode cX6_tells 67 = .ok (.iconst 1, 1) := by decide +kernel
theorem dX6_tells_68 : decode cX6_tells 68 = .ok (.iload_n 1, 1) := by decide +kernel
theorem dX6_tells_69 : decode cX6_tells 69 = .ok (.iload_n 2, 1) := by decide +kernel
theorem dX6_tells_70 : decode cX6_tells 70 = .ok (.iload 5, 2) := by decide +kernel
theorem dX6_tells_72 : decode cX6_tells 72 = .ok (.invokevirtual 100, 3) := by decide +kernel
theorem dX6_tells_75 : decode cX6_tells 75 = .ok (.aload 4, 2) := by decide +kernel
theorem dX6_tells_77 : decode cX6_tells 77 = .ok (.getfield 94, 3) := by decide +kernel
theorem dX6_tells_80 : decode cX6_tells 80 = .ok (.iload_n 2, 1) := by decide +kernel
theorem dX6_tells_81 : decode cX6_tells 81 = .ok (.iload_n 3, 1) := by decide +kernel
theorem dX6_tells_82 : decode cX6_tells 82 = .ok (.iastore, 1) := by decide +kernel
theorem dX6_tells_83 : decode cX6_tells 83 = .ok (.iload 5, 2) := by decide +kernel
theorem dX6_tells_85 : decode cX6_tells 85 = .ok (.ireturn, 1) := by decide +kernel
theorem dX6_slacks_0 : decode cX6_slacks 0 = .ok (.iload_n 1, 1) := by decide +kernel
theorem dX6_slacks_1 : decode cX6_slacks 1 = .ok (.ifCond .lt 9, 3) := by decide +kernel
theorem dX6_slacks_4 : decode cX6_slacks 4 = .ok (.iload_n 1, 1) := by decide +kernel
theorem dX6_slacks_5 : decode cX6_slacks 5 = .ok (.bipush 9, 2) := by decide +kernel
theorem dX6_slacks_7 : decode cX6_slacks 7 = .ok (.if_icmp .le 5, 3) := by decide +kernel
theorem dX6_slacks_10 : decode cX6_slacks 10 = .ok (.iconst (-1), 1) := by decide +kernel
theorem dX6_slacks_11 : decode cX6_slacks 11 = .ok (.ireturn, 1) := by decide +kernel
theorem dX6_slacks_12 : decode cX6_slacks 12 = .ok (.aload_n 0, 1) := by decide +kernel
theorem dX6_slacks_13 : decode cX6_slacks 13 = .ok (.getfield 19, 3) := by decide +kernel
theorem dX6_slacks_16 : decode cX6_slacks 16 = .ok (.getfield 111, 3) := by decide +kernel
theorem dX6_slacks_19 : decode cX6_slacks 19 = .ok (.istore_n 2, 1) := by decide +kernel
theorem dX6_slacks_20 : decode cX6_slacks 20 = .ok (.iload_n 1, 1) := by decide +kernel
theorem dX6_slacks_21 : decode cX6_slacks 21 = .ok (.iload_n 2, 1) := by decide +kernel
theorem dX6_slacks_22 : decode cX6_slacks 22 = .ok (.if_icmp .ne 6, 3) := by decide +kernel
theorem dX6_slacks_25 : decode cX6_slacks 25 = .ok (.bipush (-2), 2) := by decide +kernel
theorem dX6_slacks_27 : decode cX6_slacks 27 = .ok (.ireturn, 1) := by decide +kernel
theorem dX6_slacks_28 : decode cX6_slacks 28 = .ok (.aload_n 0, 1) := by decide +kernel
theorem dX6_slacks_29 : decode cX6_slacks 29 = .ok (.getfield 37, 3) := by decide +kernel
theorem dX6_slacks_32 : decode cX6_slacks 32 = .ok (.iconst 2, 1) := by decide +kernel
theorem dX6_slacks_33 : decode cX6_slacks 33 = .ok (.iconst 0, 1) := by decide +kernel
theorem dX6_slacks_34 : decode cX6_slacks 34 = .ok (.iconst 0, 1) := by decide +kernel
theorem dX6_slacks_35 : decode cX6_slacks 35 = .ok (.iload_n 2, 1) := by decide +kernel
theorem dX6_slacks_36 : decode cX6_slacks 36 = .ok (.invokevirtual 100, 3) := by decide +kernel
theorem dX6_slacks_39 : decode cX6_slacks 39 = .ok (.aload_n 0, 1) := by decide +kernel
theorem dX6_slacks_40 : decode cX6_slacks 40 = .ok (.getfield 19, 3) := by decide +kernel
theorem dX6_slacks_43 : decode cX6_slacks 43 = .ok (.iload_n 1, 1) := by decide +kernel
theorem dX6_slacks_44 : decode cX6_slacks 44 = .ok (.putfield 111, 3) := by decide +kernel
theorem dX6_slacks_47 : decode cX6_slacks 47 = .ok (.iload_n 2, 1) := by decide +kernel
theorem dX6_slacks_48 : decode cX6_slacks 48 = .ok (.ireturn, 1) := by decide +kernel
theorem dX6_undo_0 : decode cX6_undo 0 = .ok (.aload_n 0, 1) := by decide +kernel
theorem dX6_undo_1 : decode cX6_undo 1 = .ok (.getfield 37, 3) := by decide +kernel
theorem dX6_undo_4 : decode cX6_undo 4 = .ok (.getfield 80, 3) := by decide +kernel
theorem dX6_undo_7 : decode cX6_undo 7 = .ok (.ifCond .ne 6, 3) := by decide +kernel
theorem dX6_undo_10 : decode cX6_undo 10 = .ok (.bipush (-2), 2) := by decide +kernel
theorem dX6_undo_12 : decode cX6_undo 12 = .ok (.ireturn, 1) := by decide +kernel
theorem dX6_undo_13 : decode cX6_undo 13 = .ok (.aload_n 0, 1) := by decide +kernel
theorem dX6_undo_14 : decode cX6_undo 14 = .ok (.getfield 37, 3) := by decide +kernel
theorem dX6_undo_17 : decode cX6_undo 17 = .ok (.aload_n 0, 1) := by decide +kernel
theorem dX6_undo_18 : decode cX6_undo 18 = .ok (.getfield 19, 3) := by decide +kernel
theorem dX6_undo_21 : decode cX6_undo 21 = .ok (.invokevirtual 114, 3) := by decide +kernel
theorem dX6_undo_24 : decode cX6_undo 24 = .ok (.aload_n 0, 1) := by decide +kernel
theorem dX6_undo_25 : decode cX6_undo 25 = .ok (.getfield 37, 3) := by decide +kernel
theorem dX6_undo_28 : decode cX6_undo 28 = .ok (.getfield 80, 3) := by decide +kernel
theorem dX6_undo_31 : decode cX6_undo 31 = .ok (.ireturn, 1) := by decide +kernel
theorem dX6_span_0 : decode cX6_span 0 = .ok (.aload_n 0, 1) := by decide +kernel
theorem dX6_span_1 : decode cX6_span 1 = .ok (.getfield 19, 3) := by decide +kernel
theorem dX6_span_4 : decode cX6_span 4 = .ok (.iload_n 1, 1) := by decide +kernel
theorem dX6_span_5 : decode cX6_span 5 = .ok (.invokevirtual 117, 3) := by decide +kernel
theorem dX6_span_8 : decode cX6_span 8 = .ok (.ifCond .eq 24, 3) := by decide +kernel
theorem dX6_span_11 : decode cX6_span 11 = .ok (.aload_n 0, 1) := by decide +kernel
theorem dX6_span_12 : decode cX6_span 12 = .ok (.getfield 19, 3) := by decide +kernel
theorem dX6_span_15 : decode cX6_span 15 = .ok (.iload_n 2, 1) := by decide +kernel
theorem dX6_span_16 : decode cX6_span 16 = .ok (.invokevirtual 117, 3) := by decide +kernel
theorem dX6_span_19 : decode cX6_span 19 = .ok (.ifCond .eq 13, 3) := by decide +kernel
theorem dX6_span_22 : decode cX6_span 22 = .ok (.iload_n 1, 1) := by decide +kernel
theorem dX6_span_23 : decode cX6_span 23 = .ok (.iload_n 2, 1) := by decide +kernel
theorem dX6_span_24 : decode cX6_span 24 = .ok (.if_icmp .eq 8, 3) := by decide +kernel
theorem dX6_span_27 : decode cX6_span 27 = .ok (.iload_n 3, 1) := by decide +kernel
theorem dX6_span_28 : decode cX6_span 28 = .ok (.iconst (-1), 1) := by decide +kernel
theorem dX6_span_29 : decode cX6_span 29 = .ok (.if_icmp .ge 6, 3) := by decide +kernel
theorem dX6_span_32 : decode cX6_span 32 = .ok (.ldc 120, 2) := by decide +kernel
theorem dX6_span_34 : decode cX6_span 34 = .ok (.ireturn, 1) := by decide +kernel
theorem dX6_span_35 : decode cX6_span 35 = .ok (.aload_n 0, 1) := by decide +kernel
theorem dX6_span_36 : decode cX6_span 36 = .ok (.getfield 44, 3) := by decide +kernel
theorem dX6_span_39 : decode cX6_span 39 = .ok (.aload_n 0, 1) := by decide +kernel
theorem dX6_span_40 : decode cX6_span 40 = .ok (.getfield 19, 3) := by decide +kernel
theorem dX6_span_43 : decode cX6_span 43 = .ok (.getfield 85, 3) := by decide +kernel
theorem dX6_span_46 : decode cX6_span 46 = .ok (.iload_n 1, 1) := by decide +kernel
theorem dX6_span_47 : decode cX6_span 47 = .ok (.aaload, 1) := by decide +kernel
theorem dX6_span_48 : decode cX6_span 48 = .ok (.aload_n 0, 1) := by decide +kernel
theorem dX6_span_49 : decode cX6_span 49 = .ok (.getfield 19, 3) := by decide +kernel
theorem dX6_span_52 : decode cX6_span 52 = .ok (.getfield 85, 3) := by decide +kernel
theorem dX6_span_55 : decode cX6_span 55 = .ok (.iload_n 2, 1) := by decide +kernel
theorem dX6_span_56 : decode cX6_span 56 = .ok (.aaload, 1) := by decide +kernel
theorem dX6_span_57 : decode cX6_span 57 = .ok (.invokevirtual 121, 3) := by decide +kernel
theorem dX6_span_60 : decode cX6_span 60 = .ok (.iload_n 3, 1) := by decide +kernel
theorem dX6_span_61 : decode cX6_span 61 = .ok (.iconst (-1), 1) := by decide +kernel
theorem dX6_span_62 : decode cX6_span 62 = .ok (.if_icmp .ne 18, 3) := by decide +kernel
theorem dX6_span_65 : decode cX6_span 65 = .ok (.aload_n 0, 1) := by decide +kernel
theorem dX6_span_66 : decode cX6_span 66 = .ok (.getfield 44, 3) := by decide +kernel
theorem dX6_span_69 : decode cX6_span 69 = .ok (.aload_n 0, 1) := by decide +kernel
theorem dX6_span_70 : decode cX6_span 70 = .ok (.getfield 19, 3) := by decide +kernel
theorem dX6_span_73 : decode cX6_span 73 = .ok (.getfield 111, 3) := by decide +kernel
theorem dX6_span_76 : decode cX6_span 76 = .ok (.invokevirtual 125, 3) := by decide +kernel
theorem dX6_span_79 : decode cX6_span 79 = .ok (.ireturn, 1) := by decide +kernel
theorem dX6_span_80 : decode cX6_span 80 = .ok (.aload_n 0, 1) := by decide +kernel
theorem dX6_span_81 : decode cX6_span 81 = .ok (.getfield 44, 3) := by decide +kernel
theorem dX6_span_84 : decode cX6_span 84 = .ok (.iload_n 3, 1) := by decide +kernel
theorem dX6_span_85 : decode cX6_span 85 = .ok (.aload_n 0, 1) := by decide +kernel
theorem dX6_span_86 : decode cX6_span 86 = .ok (.getfield 19, 3) := by decide +kernel
theorem dX6_span_89 : decode cX6_span 89 = .ok (.getfield 111, 3) := by decide +kernel
theorem dX6_span_92 : decode cX6_span 92 = .ok (.invokevirtual 129, 3) := by decide +kernel
theorem dX6_span_95 : decode cX6_span 95 = .ok (.istore 5, 2) := by decide +kernel
theorem dX6_span_97 : decode cX6_span 97 = .ok (.iload 5, 2) := by decide +kernel
theorem dX6_span_99 : decode cX6_span 99 = .ok (.aload_n 0, 1) := by decide +kernel
theorem dX6_span_100 : decode cX6_span 100 = .ok (.getfield 44, 3) := by decide +kernel
theorem dX6_span_103 : decode cX6_span 103 = .ok (.getfield 133, 3) := by decide +kernel
theorem dX6_span_106 : decode cX6_span 106 = .ok (.if_icmp .lt 6, 3) := by decide +kernel
theorem dX6_span_109 : decode cX6_span 109 = .ok (.ldc 120, 2) := by decide +kernel
theorem dX6_span_111 : decode cX6_span 111 = .ok (.ireturn, 1) := by decide +kernel
theorem dX6_span_112 : decode cX6_span 112 = .ok (.aload_n 0, 1) := by decide +kernel
theorem dX6_span_113 : decode cX6_span 113 = .ok (.getfield 44, 3) := by decide +kernel
theorem dX6_span_116 : decode cX6_span 116 = .ok (.iload 5, 2) := by decide +kernel
theorem dX6_span_118 : decode cX6_span 118 = .ok (.aload_n 0, 1) := by decide +kernel
theorem dX6_span_119 : decode cX6_span 119 = .ok (.getfield 19, 3) := by decide +kernel
theorem dX6_span_122 : decode cX6_span 122 = .ok (.getfield 111, 3) := by decide +kernel
theorem dX6_span_125 : decode cX6_span 125 = .ok (.invokevirtual 134, 3) := by decide +kernel
theorem dX6_span_128 : decode cX6_span 128 = .ok (.istore 6, 2) := by decide +kernel
theorem dX6_span_130 : decode cX6_span 130 = .ok (.iload 4, 2) := by decide +kernel
theorem dX6_span_132 : decode cX6_span 132 = .ok (.tableswitch 74 0 3 #[32, 43, 56, 62], 32) := by decide +kernel
theorem dX6_span_164 : decode cX6_span 164 = .ok (.aload_n 0, 1) := by decide +kernel
theorem dX6_span_165 : decode cX6_span 165 = .ok (.getfield 44, 3) := by decide +kernel
theorem dX6_span_168 : decode cX6_span 168 = .ok (.getfield 137, 3) := by decide +kernel
theorem dX6_span_171 : decode cX6_span 171 = .ok (.iload 5, 2) := by decide +kernel
theorem dX6_span_173 : decode cX6_span 173 = .ok (.iaload, 1) := by decide +kernel
theorem dX6_span_174 : decode cX6_span 174 = .ok (.ireturn, 1) := by decide +kernel
theorem dX6_span_175 : decode cX6_span 175 = .ok (.aload_n 0, 1) := by decide +kernel
theorem dX6_span_176 : decode cX6_span 176 = .ok (.getfield 44, 3) := by decide +kernel
theorem dX6_span_179 : decode cX6_span 179 = .ok (.getfield 137, 3) := by decide +kernel
theorem dX6_span_182 : decode cX6_span 182 = .ok (.iload 6, 2) := by decide +kernel
theorem dX6_span_184 : decode cX6_span 184 = .ok (.iconst 1, 1) := by decide +kernel
theorem dX6_span_185 : decode cX6_span 185 = .ok (.isub, 1) := by decide +kernel
theorem dX6_span_186 : decode cX6_span 186 = .ok (.iaload, 1) := by decide +kernel
theorem dX6_span_187 : decode cX6_span 187 = .ok (.ireturn, 1) := by decide +kernel
theorem dX6_span_188 : decode cX6_span 188 = .ok (.iload 6, 2) := by decide +kernel
theorem dX6_span_190 : decode cX6_span 190 = .ok (.iload 5, 2) := by decide +kernel
theorem dX6_span_192 : decode cX6_span 192 = .ok (.isub, 1) := by decide +kernel
theorem dX6_span_193 : decode cX6_span 193 = .ok (.ireturn, 1) := by decide +kernel
theorem dX6_span_194 : decode cX6_span 194 = .ok (.aload_n 0, 1) := by decide +kernel
theorem dX6_span_195 : decode cX6_span 195 = .ok (.getfield 44, 3) := by decide +kernel
theorem dX6_span_198 : decode cX6_span 198 = .ok (.iload 5, 2) := by decide +kernel
theorem dX6_span_200 : decode cX6_span 200 = .ok (.iload 6, 2) := by decide +kernel
theorem dX6_span_202 : decode cX6_span 202 = .ok (.invokevirtual 138, 3) := by decide +kernel
theorem dX6_span_205 : decode cX6_span 205 = .ok (.ireturn, 1) := by decide +kernel
theorem dX6_span_206 : decode cX6_span 206 = .ok (.ldc 120, 2) := by decide +kernel
theorem dX6_span_208 : decode cX6_span 208 = .ok (.ireturn, 1) := by decide +kernel
theorem dX6_shift_0 : decode cX6_shift 0 = .ok (.aload_n 0, 1) := by decide +kernel
theorem dX6_shift_1 : decode cX6_shift 1 = .ok (.getfield 19, 3) := by decide +kernel
theorem dX6_shift_4 : decode cX6_shift 4 = .ok (.iload_n 1, 1) := by decide +kernel
theorem dX6_shift_5 : decode cX6_shift 5 = .ok (.invokevirtual 117, 3) := by decide +kernel
theorem dX6_shift_8 : decode cX6_shift 8 = .ok (.ifCond .ne 6, 3) := by decide +kernel
theorem dX6_shift_11 : decode cX6_shift 11 = .ok (.ldc 120, 2) := by decide +kernel
theorem dX6_shift_13 : decode cX6_shift 13 = .ok (.ireturn, 1) := by decide +kernel
theorem dX6_shift_14 : decode cX6_shift 14 = .ok (.iload_n 2, 1) := by decide +kernel
theorem dX6_shift_15 : decode cX6_shift 15 = .ok (.tableswitch 43 0 2 #[25, 31, 37], 25) := by decide +kernel
theorem dX6_shift_40 : decode cX6_shift 40 = .ok (.aload_n 0, 1) := by decide +kernel
theorem dX6_shift_41 : decode cX6_shift 41 = .ok (.iload_n 1, 1) := by decide +kernel
theorem dX6_shift_42 : decode cX6_shift 42 = .ok (.invokevirtual 141, 3) := by decide +kernel
theorem dX6_shift_45 : decode cX6_shift 45 = .ok (.ireturn, 1) := by decide +kernel
theorem dX6_shift_46 : decode cX6_shift 46 = .ok (.aload_n 0, 1) := by decide +kernel
theorem dX6_shift_47 : decode cX6_shift 47 = .ok (.iload_n 1, 1) := by decide +kernel
theorem dX6_shift_48 : decode cX6_shift 48 = .ok (.invokevirtual 144, 3) := by decide +kernel
theorem dX6_shift_51 : decode cX6_shift 51 = .ok (.ireturn, 1) := by decide +kernel
theorem dX6_shift_52 : decode cX6_shift 52 = .ok (.aload_n 0, 1) := by decide +kernel
theorem dX6_shift_53 : decode cX6_shift 53 = .ok (.iload_n 1, 1) := by decide +kernel
theorem dX6_shift_54 : decode cX6_shift 54 = .ok (.invokevirtual 147, 3) := by decide +kernel
theorem dX6_shift_57 : decode cX6_shift 57 = .ok (.ireturn, 1) := by decide +kernel
theorem dX6_shift_58 : decode cX6_shift 58 = .ok (.ldc 120, 2) := by decide +kernel
theorem dX6_shift_60 : decode cX6_shift 60 = .ok (.ireturn, 1) := by decide +kernel
theorem dX6_measure_0 : decode cX6_measure 0 = .ok (.aload_n 0, 1) := by decide +kernel
theorem dX6_measure_1 : decode cX6_measure 1 = .ok (.getfield 19, 3) := by decide +kernel
theorem dX6_measure_4 : decode cX6_measure 4 = .ok (.iload_n 1, 1) := by decide +kernel
theorem dX6_measure_5 : decode cX6_measure 5 = .ok (.invokevirtual 117, 3) := by decide +kernel
theorem dX6_measure_8 : decode cX6_measure 8 = .ok (.ifCond .eq 12, 3) := by decide +kernel
theorem dX6_measure_11 : decode cX6_measure 11 = .ok (.iload_n 2, 1) := by decide +kernel
theorem dX6_measure_12 : decode cX6_measure 12 = .ok (.ifCond .lt 8, 3) := by decide +kernel
theorem dX6_measure_15 : decode cX6_measure 15 = .ok (.iload_n 2, 1) := by decide +kernel
theorem dX6_measure_16 : decode cX6_measure 16 = .ok (.iconst 5, 1) := by decide +kernel
theorem dX6_measure_17 : decode cX6_measure 17 = .ok (.if_icmp .lt 5, 3) := by decide +kernel
theorem dX6_measure_20 : decode cX6_measure 20 = .ok (.iconst (-1), 1) := by decide +kernel
theorem dX6_measure_21 : decode cX6_measure 21 = .ok (.ireturn, 1) := by decide +kernel
theorem dX6_measure_22 : decode cX6_measure 22 = .ok (.aload_n 0, 1) := by decide +kernel
theorem dX6_measure_23 : decode cX6_measure 23 = .ok (.iload_n 1, 1) := by decide +kernel
theorem dX6_measure_24 : decode cX6_measure 24 = .ok (.iload_n 2, 1) := by decide +kernel
theorem dX6_measure_25 : decode cX6_measure 25 = .ok (.invokevirtual 150, 3) := by decide +kernel
theorem dX6_measure_28 : decode cX6_measure 28 = .ok (.ireturn, 1) := by decide +kernel
theorem dX6_rank_0 : decode cX6_rank 0 = .ok (.iload_n 1, 1) := by decide +kernel
theorem dX6_rank_1 : decode cX6_rank 1 = .ok (.ifCond .lt 12, 3) := by decide +kernel
theorem dX6_rank_4 : decode cX6_rank 4 = .ok (.iload_n 1, 1) := by decide +kernel
theorem dX6_rank_5 : decode cX6_rank 5 = .ok (.iconst 5, 1) := by decide +kernel
theorem dX6_rank_6 : decode cX6_rank 6 = .ok (.if_icmp .ge 7, 3) := by decide +kernel
theorem dX6_rank_9 : decode cX6_rank 9 = .ok (.iload_n 2, 1) := by decide +kernel
theorem dX6_rank_10 : decode cX6_rank 10 = .ok (.ifCond .ge 5, 3) := by decide +kernel
theorem dX6_rank_13 : decode cX6_rank 13 = .ok (.iconst (-1), 1) := by decide +kernel
theorem dX6_rank_14 : decode cX6_rank 14 = .ok (.ireturn, 1) := by decide +kernel
theorem dX6_rank_15 : decode cX6_rank 15 = .ok (.iconst 0, 1) := by decide +kernel
theorem dX6_rank_16 : decode cX6_rank 16 = .ok (.istore_n 3, 1) := by decide +kernel
theorem dX6_rank_17 : decode cX6_rank 17 = .ok (.iload_n 3, 1) := by decide +kernel
theorem dX6_rank_18 : decode cX6_rank 18 = .ok (.aload_n 0, 1) := by decide +kernel
theorem dX6_rank_19 : decode cX6_rank 19 = .ok (.getfield 19, 3) := by decide +kernel
theorem dX6_rank_22 : decode cX6_rank 22 = .ok (.getfield 153, 3) := by decide +kernel
theorem dX6_rank_25 : decode cX6_rank 25 = .ok (.if_icmp .ge 21, 3) := by decide +kernel
theorem dX6_rank_28 : decode cX6_rank 28 = .ok (.aload_n 0, 1) := by decide +kernel
theorem dX6_rank_29 : decode cX6_rank 29 = .ok (.getfield 55, 3) := by decide +kernel
theorem dX6_rank_32 : decode cX6_rank 32 = .ok (.iload_n 3, 1) := by decide +kernel
theorem dX6_rank_33 : decode cX6_rank 33 = .ok (.aload_n 0, 1) := by decide +kernel
theorem dX6_rank_34 : decode cX6_rank 34 = .ok (.iload_n 3, 1) := by decide +kernel
theorem dX6_rank_35 : decode cX6_rank 35 = .ok (.iload_n 1, 1) := by decide +kernel
theorem dX6_rank_36 : decode cX6_rank 36 = .ok (.invokevirtual 150, 3) := by decide +kernel
theorem dX6_rank_39 : decode cX6_rank 39 = .ok (.iastore, 1) := by decide +kernel
theorem dX6_rank_40 : decode cX6_rank 40 = .ok (.iinc 3 1, 3) := by decide +kernel
theorem dX6_rank_43 : decode cX6_rank 43 = .ok (.goto (-26), 3) := by decide +kernel
theorem dX6_rank_46 : decode cX6_rank 46 = .ok (.iconst 0, 1) := by decide +kernel
theorem dX6_rank_47 : decode cX6_rank 47 = .ok (.istore_n 3, 1) := by decide +kernel
theorem dX6_rank_48 : decode cX6_rank 48 = .ok (.iload_n 3, 1) := by decide +kernel
theorem dX6_rank_49 : decode cX6_rank 49 = .ok (.aload_n 0, 1) := by decide +kernel
theorem dX6_rank_50 : decode cX6_rank 50 = .ok (.getfield 19, 3) := by decide +kernel
theorem dX6_rank_53 : decode cX6_rank 53 = .ok (.getfield 153, 3) := by decide +kernel
theorem dX6_rank_56 : decode cX6_rank 56 = .ok (.if_icmp .ge 20, 3) := by decide +kernel
theorem dX6_rank_59 : decode cX6_rank 59 = .ok (.aload_n 0, 1) := by decide +kernel
theorem dX6_rank_60 : decode cX6_rank 60 = .ok (.iload_n 3, 1) := by decide +kernel
theorem dX6_rank_61 : decode cX6_rank 61 = .ok (.invokevirtual 154, 3) := by decide +kernel
theorem dX6_rank_64 : decode cX6_rank 64 = .ok (.iload_n 2, 1) := by decide +kernel
theorem dX6_rank_65 : decode cX6_rank 65 = .ok (.if_icmp .ne 5, 3) := by decide +kernel
theorem dX6_rank_68 : decode cX6_rank 68 = .ok (.iload_n 3, 1) := by decide +kernel
theorem dX6_rank_69 : decode cX6_rank 69 = .ok (.ireturn, 1) := by decide +kernel
theorem dX6_rank_70 : decode cX6_rank 70 = .ok (.iinc 3 1, 3) := by decide +kernel
theorem dX6_rank_73 : decode cX6_rank 73 = .ok (.goto (-25), 3) := by decide +kernel
theorem dX6_rank_76 : decode cX6_rank 76 = .ok (.bipush (-9), 2) := by decide +kernel
theorem dX6_rank_78 : decode cX6_rank 78 = .ok (.ireturn, 1) := by decide +kernel
theorem dX6_event_0 : decode cX6_event 0 = .ok (.iload_n 1, 1) := by decide +kernel
theorem dX6_event_1 : decode cX6_event 1 = .ok (.invokestatic 157, 3) := by decide +kernel
theorem dX6_event_4 : decode cX6_event 4 = .ok (.ifCond .ne 5, 3) := by decide +kernel
theorem dX6_event_7 : decode cX6_event 7 = .ok (.iconst (-1), 1) := by decide +kernel
theorem dX6_event_8 : decode cX6_event 8 = .ok (.ireturn, 1) := by decide +kernel
theorem dX6_event_9 : decode cX6_event 9 = .ok (.aload_n 0, 1) := by decide +kernel
theorem dX6_event_10 : decode cX6_event 10 = .ok (.getfield 51, 3) := by decide +kernel
theorem dX6_event_13 : decode cX6_event 13 = .ok (.aload_n 0, 1) := by decide +kernel
theorem dX6_event_14 : decode cX6_event 14 = .ok (.getfield 19, 3) := by decide +kernel
theorem dX6_event_17 : decode cX6_event 17 = .ok (.iconst 0, 1) := by decide +kernel
theorem dX6_event_18 : decode cX6_event 18 = .ok (.invokevirtual 160, 3) := by decide +kernel
theorem dX6_event_21 : decode cX6_event 21 = .ok (.iload_n 2, 1) := by decide +kernel
theorem dX6_event_22 : decode cX6_event 22 = .ok (.tableswitch 71 0 3 #[30, 39, 49, 59], 30) := by decide +kernel
theorem dX6_event_52 : decode cX6_event 52 = .ok (.aload_n 0, 1) := by decide +kernel
theorem dX6_event_53 : decode cX6_event 53 = .ok (.getfield 19, 3) := by decide +kernel
theorem dX6_event_56 : decode cX6_event 56 = .ok (.iload_n 1, 1) := by decide +kernel
theorem dX6_event_57 : decode cX6_event 57 = .ok (.invokevirtual 164, 3) := by decide +kernel
theorem dX6_event_60 : decode cX6_event 60 = .ok (.ireturn, 1) := by decide +kernel
theorem dX6_event_61 : decode cX6_event 61 = .ok (.aload_n 0, 1) := by decide +kernel
theorem dX6_event_62 : decode cX6_event 62 = .ok (.getfield 51, 3) := by decide +kernel
theorem dX6_event_65 : decode cX6_event 65 = .ok (.getfield 167, 3) := by decide +kernel
theorem dX6_event_68 : decode cX6_event 68 = .ok (.iload_n 1, 1) := by decide +kernel
theorem dX6_event_69 : decode cX6_event 69 = .ok (.iaload, 1) := by decide +kernel
theorem dX6_event_70 : decode cX6_event 70 = .ok (.ireturn, 1) := by decide +kernel
theorem dX6_event_71 : decode cX6_event 71 = .ok (.aload_n 0, 1) := by decide +kernel
theorem dX6_event_72 : decode cX6_event 72 = .ok (.getfield 51, 3) := by decide +kernel
theorem dX6_event_75 : decode cX6_event 75 = .ok (.getfield 170, 3) := by decide +kernel
theorem dX6_event_78 : decode cX6_event 78 = .ok (.iload_n 1, 1) := by decide +kernel
theorem dX6_event_79 : decode cX6_event 79 = .ok (.iaload, 1) := by decide +kernel
theorem dX6_event_80 : decode cX6_event 80 = .ok (.ireturn, 1) := by decide +kernel
theorem dX6_event_81 : decode cX6_event 81 = .ok (.aload_n 0, 1) := by decide +kernel
theorem dX6_event_82 : decode cX6_event 82 = .ok (.getfield 51, 3) := by decide +kernel
theorem dX6_event_85 : decode cX6_event 85 = .ok (.invokevirtual 173, 3) := by decide +kernel
theorem dX6_event_88 : decode cX6_event 88 = .ok (.iload_n 1, 1) := by decide +kernel
theorem dX6_event_89 : decode cX6_event 89 = .ok (.ishr, 1) := by decide +kernel
theorem dX6_event_90 : decode cX6_event 90 = .ok (.iconst 1, 1) := by decide +kernel
theorem dX6_event_91 : decode cX6_event 91 = .ok (.iand, 1) := by decide +kernel
theorem dX6_event_92 : decode cX6_event 92 = .ok (.ireturn, 1) := by decide +kernel
theorem dX6_event_93 : decode cX6_event 93 = .ok (.iconst (-1), 1) := by decide +kernel
theorem dX6_event_94 : decode cX6_event 94 = .ok (.ireturn, 1) := by decide +kernel
theorem dX6_date_0 : decode cX6_date 0 = .ok (.iload_n 1, 1) := by decide +kernel
theorem dX6_date_1 : decode cX6_date 1 = .ok (.invokestatic 157, 3) := by decide +kernel
theorem dX6_date_4 : decode cX6_date 4 = .ok (.ifCond .eq 11, 3) := by decide +kernel
theorem dX6_date_7 : decode cX6_date 7 = .ok (.aload_n 0, 1) := by decide +kernel
theorem dX6_date_8 : decode cX6_date 8 = .ok (.iload_n 1, 1) := by decide +kernel
theorem dX6_date_9 : decode cX6_date 9 = .ok (.invokevirtual 177, 3) := by decide +kernel
theorem dX6_date_12 : decode cX6_date 12 = .ok (.goto 5, 3) := by decide +kernel
theorem dX6_date_15 : decode cX6_date 15 = .ok (.ldc 120, 2) := by decide +kernel
theorem dX6_date_17 : decode cX6_date 17 = .ok (.ireturn, 1) := by decide +kernel
theorem dX6_late_0 : decode cX6_late 0 = .ok (.iload_n 1, 1) := by decide +kernel
theorem dX6_late_1 : decode cX6_late 1 = .ok (.invokestatic 157, 3) := by decide +kernel
theorem dX6_late_4 : decode cX6_late 4 = .ok (.ifCond .eq 10, 3) := by decide +kernel
theorem dX6_late_7 : decode cX6_late 7 = .ok (.iload_n 2, 1) := by decide +kernel
theorem dX6_late_8 : decode cX6_late 8 = .ok (.invokestatic 157, 3) := by decide +kernel
theorem dX6_late_11 : decode cX6_late 11 = .ok (.ifCond .ne 6, 3) := by decide +kernel
theorem dX6_late_14 : decode cX6_late 14 = .ok (.ldc 120, 2) := by decide +kernel
theorem dX6_late_16 : decode cX6_late 16 = .ok (.ireturn, 1) := by decide +kernel
theorem dX6_late_17 : decode cX6_late 17 = .ok (.aload_n 0, 1) := by decide +kernel
theorem dX6_late_18 : decode cX6_late 18 = .ok (.iload_n 1, 1) := by decide +kernel
theorem dX6_late_19 : decode cX6_late 19 = .ok (.invokevirtual 177, 3) := by decide +kernel
theorem dX6_late_22 : decode cX6_late 22 = .ok (.istore_n 3, 1) := by decide +kernel
theorem dX6_late_23 : decode cX6_late 23 = .ok (.aload_n 0, 1) := by decide +kernel
theorem dX6_late_24 : decode cX6_late 24 = .ok (.iload_n 2, 1) := by decide +kernel
theorem dX6_late_25 : decode cX6_late 25 = .ok (.invokevirtual 177, 3) := by decide +kernel
theorem dX6_late_28 : decode cX6_late 28 = .ok (.istore 4, 2) := by decide +kernel
theorem dX6_late_30 : decode cX6_late 30 = .ok (.iload_n 3, 1) := by decide +kernel
theorem dX6_late_31 : decode cX6_late 31 = .ok (.ldc 120, 2) := by decide +kernel
theorem dX6_late_33 : decode cX6_late 33 = .ok (.if_icmp .eq 10, 3) := by decide +kernel
theorem dX6_late_36 : decode cX6_late 36 = .ok (.iload 4, 2) := by decide +kernel
theorem dX6_late_38 : decode cX6_late 38 = .ok (.ldc 120, 2) := by decide +kernel
theorem dX6_late_40 : decode cX6_late 40 = .ok (.if_icmp .ne 8, 3) := by decide +kernel
theorem dX6_late_43 : decode cX6_late 43 = .ok (.ldc 120, 2) := by decide +kernel
theorem dX6_late_45 : decode cX6_late 45 = .ok (.goto 7, 3) := by decide +kernel
theorem dX6_late_48 : decode cX6_late 48 = .ok (.iload_n 3, 1) := by decide +kernel
theorem dX6_late_49 : decode cX6_late 49 = .ok (.iload 4, 2) := by decide +kernel
theorem dX6_late_51 : decode cX6_late 51 = .ok (.isub, 1) := by decide +kernel
theorem dX6_late_52 : decode cX6_late 52 = .ok (.ireturn, 1) := by decide +kernel
theorem dX6_line_0 : decode cX6_line 0 = .ok (.iload_n 1, 1) := by decide +kernel
theorem dX6_line_1 : decode cX6_line 1 = .ok (.ifCond .ge 5, 3) := by decide +kernel
theorem dX6_line_4 : decode cX6_line 4 = .ok (.iconst (-1), 1) := by decide +kernel
theorem dX6_line_5 : decode cX6_line 5 = .ok (.ireturn, 1) := by decide +kernel
theorem dX6_line_6 : decode cX6_line 6 = .ok (.aload_n 0, 1) := by decide +kernel
theorem dX6_line_7 : decode cX6_line 7 = .ok (.getfield 51, 3) := by decide +kernel
theorem dX6_line_10 : decode cX6_line 10 = .ok (.aload_n 0, 1) := by decide +kernel
theorem dX6_line_11 : decode cX6_line 11 = .ok (.getfield 19, 3) := by decide +kernel
theorem dX6_line_14 : decode cX6_line 14 = .ok (.iconst 0, 1) := by decide +kernel
theorem dX6_line_15 : decode cX6_line 15 = .ok (.invokevirtual 160, 3) := by decide +kernel
theorem dX6_line_18 : decode cX6_line 18 = .ok (.aload_n 0, 1) := by decide +kernel
theorem dX6_line_19 : decode cX6_line 19 = .ok (.getfield 51, 3) := by decide +kernel
theorem dX6_line_22 : decode cX6_line 22 = .ok (.invokevirtual 173, 3) := by decide +kernel
theorem dX6_line_25 : decode cX6_line 25 = .ok (.ifCond .ne 21, 3) := by decide +kernel
theorem dX6_line_28 : decode cX6_line 28 = .ok (.aload_n 0, 1) := by decide +kernel
theorem dX6_line_29 : decode cX6_line 29 = .ok (.getfield 51, 3) := by decide +kernel
theorem dX6_line_32 : decode cX6_line 32 = .ok (.aload_n 0, 1) := by decide +kernel
theorem dX6_line_33 : decode cX6_line 33 = .ok (.getfield 19, 3) := by decide +kernel
theorem dX6_line_36 : decode cX6_line 36 = .ok (.invokevirtual 180, 3) := by decide +kernel
theorem dX6_line_39 : decode cX6_line 39 = .ok (.iload_n 1, 1) := by decide +kernel
theorem dX6_line_40 : decode cX6_line 40 = .ok (.invokevirtual 183, 3) := by decide +kernel
theorem dX6_line_43 : decode cX6_line 43 = .ok (.goto 5, 3) := by decide +kernel
theorem dX6_line_46 : decode cX6_line 46 = .ok (.bipush (-9), 2) := by decide +kernel
theorem dX6_line_48 : decode cX6_line 48 = .ok (.ireturn, 1) := by decide +kernel
theorem dX6_without_0 : decode cX6_without 0 = .ok (.iconst 1, 1) := by decide +kernel
theorem dX6_without_1 : decode cX6_without 1 = .ok (.aload_n 0, 1) := by decide +kernel
theorem dX6_without_2 : decode cX6_without 2 = .ok (.getfield 19, 3) := by decide +kernel
theorem dX6_without_5 : decode cX6_without 5 = .ok (.getfield 153, 3) := by decide +kernel
theorem dX6_without_8 : decode cX6_without 8 = .ok (.ishl, 1) := by decide +kernel
theorem dX6_without_9 : decode cX6_without 9 = .ok (.iconst 1, 1) := by decide +kernel
theorem dX6_without_10 : decode cX6_without 10 = .ok (.isub, 1) := by decide +kernel
theorem dX6_without_11 : decode cX6_without 11 = .ok (.istore_n 1, 1) := by decide +kernel
theorem dX6_without_12 : decode cX6_without 12 = .ok (.iconst 0, 1) := by decide +kernel
theorem dX6_without_13 : decode cX6_without 13 = .ok (.istore_n 2, 1) := by decide +kernel
theorem dX6_without_14 : decode cX6_without 14 = .ok (.iload_n 2, 1) := by decide +kernel
theorem dX6_without_15 : decode cX6_without 15 = .ok (.iconst 1, 1) := by decide +kernel
theorem dX6_without_16 : decode cX6_without 16 = .ok (.aload_n 0, 1) := by decide +kernel
theorem dX6_without_17 : decode cX6_without 17 = .ok (.getfield 19, 3) := by decide +kernel
theorem dX6_without_20 : decode cX6_without 20 = .ok (.getfield 153, 3) := by decide +kernel
theorem dX6_without_23 : decode cX6_without 23 = .ok (.ishl, 1) := by decide +kernel
theorem dX6_without_24 : decode cX6_without 24 = .ok (.if_icmp .ge 48, 3) := by decide +kernel
theorem dX6_without_27 : decode cX6_without 27 = .ok (.iload_n 2, 1) := by decide +kernel
theorem dX6_without_28 : decode cX6_without 28 = .ok (.invokestatic 186, 3) := by decide +kernel
theorem dX6_without_31 : decode cX6_without 31 = .ok (.iload_n 1, 1) := by decide +kernel
theorem dX6_without_32 : decode cX6_without 32 = .ok (.invokestatic 186, 3) := by decide +kernel
theorem dX6_without_35 : decode cX6_without 35 = .ok (.if_icmp .ge 31, 3) := by decide +kernel
theorem dX6_without_38 : decode cX6_without 38 = .ok (.aload_n 0, 1) := by decide +kernel
theorem dX6_without_39 : decode cX6_without 39 = .ok (.getfield 51, 3) := by decide +kernel
theorem dX6_without_42 : decode cX6_without 42 = .ok (.aload_n 0, 1) := by decide +kernel
theorem dX6_without_43 : decode cX6_without 43 = .ok (.getfield 19, 3) := by decide +kernel
theorem dX6_without_46 : decode cX6_without 46 = .ok (.iload_n 2, 1) := by decide +kernel
theorem dX6_without_47 : decode cX6_without 47 = .ok (.invokevirtual 160, 3) := by decide +kernel
theorem dX6_without_50 : decode cX6_without 50 = .ok (.aload_n 0, 1) := by decide +kernel
theorem dX6_without_51 : decode cX6_without 51 = .ok (.getfield 51, 3) := by decide +kernel
theorem dX6_without_54 : decode cX6_without 54 = .ok (.invokevirtual 173, 3) := by decide +kernel
theorem dX6_without_57 : decode cX6_without 57 = .ok (.ifCond .ne 7, 3) := by decide +kernel
theorem dX6_without_60 : decode cX6_without 60 = .ok (.iload_n 2, 1) := by decide +kernel
theorem dX6_without_61 : decode cX6_without 61 = .ok (.goto 4, 3) := by decide +kernel
theorem dX6_without_64 : decode cX6_without 64 = .ok (.iload_n 1, 1) := by decide +kernel
theorem dX6_without_65 : decode cX6_without 65 = .ok (.istore_n 1, 1) := by decide +kernel
theorem dX6_without_66 : decode cX6_without 66 = .ok (.iinc 2 1, 3) := by decide +kernel
theorem dX6_without_69 : decode cX6_without 69 = .ok (.goto (-55), 3) := by decide +kernel
theorem dX6_without_72 : decode cX6_without 72 = .ok (.iload_n 1, 1) := by decide +kernel
theorem dX6_without_73 : decode cX6_without 73 = .ok (.ireturn, 1) := by decide +kernel
theorem dX6_sees_0 : decode cX6_sees 0 = .ok (.iload_n 1, 1) := by decide +kernel
theorem dX6_sees_1 : decode cX6_sees 1 = .ok (.ifCond .lt 9, 3) := by decide +kernel
theorem dX6_sees_4 : decode cX6_sees 4 = .ok (.iload_n 1, 1) := by decide +kernel
theorem dX6_sees_5 : decode cX6_sees 5 = .ok (.bipush 8, 2) := by decide +kernel
theorem dX6_sees_7 : decode cX6_sees 7 = .ok (.if_icmp .le 5, 3) := by decide +kernel
theorem dX6_sees_10 : decode cX6_sees 10 = .ok (.iconst (-1), 1) := by decide +kernel
theorem dX6_sees_11 : decode cX6_sees 11 = .ok (.ireturn, 1) := by decide +kernel
theorem dX6_sees_12 : decode cX6_sees 12 = .ok (.aload_n 0, 1) := by decide +kernel
theorem dX6_sees_13 : decode cX6_sees 13 = .ok (.getfield 62, 3) := by decide +kernel
theorem dX6_sees_16 : decode cX6_sees 16 = .ok (.bipush 6, 2) := by decide +kernel
theorem dX6_sees_18 : decode cX6_sees 18 = .ok (.if_icmp .lt 6, 3) := by decide +kernel
theorem dX6_sees_21 : decode cX6_sees 21 = .ok (.bipush (-3), 2) := by decide +kernel
theorem dX6_sees_23 : decode cX6_sees 23 = .ok (.ireturn, 1) := by decide +kernel
theorem dX6_sees_24 : decode cX6_sees 24 = .ok (.aload_n 0, 1) := by decide +kernel
theorem dX6_sees_25 : decode cX6_sees 25 = .ok (.getfield 59, 3) := by decide +kernel
theorem dX6_sees_28 : decode cX6_sees 28 = .ok (.aload_n 0, 1) := by decide +kernel
theorem dX6_sees_29 : decode cX6_sees 29 = .ok (.getfield 62, 3) := by decide +kernel
theorem dX6_sees_32 : decode cX6_sees 32 = .ok (.iload_n 1, 1) := by decide +kernel
theorem dX6_sees_33 : decode cX6_sees 33 = .ok (.iastore, 1) := by decide +kernel
theorem dX6_sees_34 : decode cX6_sees 34 = .ok (.aload_n 0, 1) := by decide +kernel
theorem dX6_sees_35 : decode cX6_sees 35 = .ok (.dup, 1) := by decide +kernel
theorem dX6_sees_36 : decode cX6_sees 36 = .ok (.getfield 62, 3) := by decide +kernel
theorem dX6_sees_39 : decode cX6_sees 39 = .ok (.iconst 1, 1) := by decide +kernel
theorem dX6_sees_40 : decode cX6_sees 40 = .ok (.iadd, 1) := by decide +kernel
theorem dX6_sees_41 : decode cX6_sees 41 = .ok (.putfield 62, 3) := by decide +kernel
theorem dX6_sees_44 : decode cX6_sees 44 = .ok (.aload_n 0, 1) := by decide +kernel
theorem dX6_sees_45 : decode cX6_sees 45 = .ok (.getfield 62, 3) := by decide +kernel
theorem dX6_sees_48 : decode cX6_sees 48 = .ok (.ireturn, 1) := by decide +kernel
theorem dX6_forget_0 : decode cX6_forget 0 = .ok (.aload_n 0, 1) := by decide +kernel
theorem dX6_forget_1 : decode cX6_forget 1 = .ok (.getfield 62, 3) := by decide +kernel
theorem dX6_forget_4 : decode cX6_forget 4 = .ok (.istore_n 1, 1) := by decide +kernel
theorem dX6_forget_5 : decode cX6_forget 5 = .ok (.aload_n 0, 1) := by decide +kernel
theorem dX6_forget_6 : decode cX6_forget 6 = .ok (.iconst 0, 1) := by decide +kernel
theorem dX6_forget_7 : decode cX6_forget 7 = .ok (.putfield 62, 3) := by decide +kernel
theorem dX6_forget_10 : decode cX6_forget 10 = .ok (.iload_n 1, 1) := by decide +kernel
theorem dX6_forget_11 : decode cX6_forget 11 = .ok (.ireturn, 1) := by decide +kernel
theorem dX6_unseen_0 : decode cX6_unseen 0 = .ok (.iload_n 1, 1) := by decide +kernel
theorem dX6_unseen_1 : decode cX6_unseen 1 = .ok (.ifCond .eq 10, 3) := by decide +kernel
theorem dX6_unseen_4 : decode cX6_unseen 4 = .ok (.iload_n 1, 1) := by decide +kernel
theorem dX6_unseen_5 : decode cX6_unseen 5 = .ok (.iconst 1, 1) := by decide +kernel
theorem dX6_unseen_6 : decode cX6_unseen 6 = .ok (.if_icmp .eq 5, 3) := by decide +kernel
theorem dX6_unseen_9 : decode cX6_unseen 9 = .ok (.iconst (-1), 1) := by decide +kernel
theorem dX6_unseen_10 : decode cX6_unseen 10 = .ok (.ireturn, 1) := by decide +kernel
theorem dX6_unseen_11 : decode cX6_unseen 11 = .ok (.iconst 0, 1) := by decide +kernel
theorem dX6_unseen_12 : decode cX6_unseen 12 = .ok (.istore_n 2, 1) := by decide +kernel
theorem dX6_unseen_13 : decode cX6_unseen 13 = .ok (.bipush (-9), 2) := by decide +kernel
theorem dX6_unseen_15 : decode cX6_unseen 15 = .ok (.istore_n 3, 1) := by decide +kernel
theorem dX6_unseen_16 : decode cX6_unseen 16 = .ok (.iconst 0, 1) := by decide +kernel
theorem dX6_unseen_17 : decode cX6_unseen 17 = .ok (.istore 4, 2) := by decide +kernel
theorem dX6_unseen_19 : decode cX6_unseen 19 = .ok (.iload 4, 2) := by decide +kernel
theorem dX6_unseen_21 : decode cX6_unseen 21 = .ok (.aload_n 0, 1) := by decide +kernel
theorem dX6_unseen_22 : decode cX6_unseen 22 = .ok (.getfield 19, 3) := by decide +kernel
theorem dX6_unseen_25 : decode cX6_unseen 25 = .ok (.getfield 153, 3) := by decide +kernel
theorem dX6_unseen_28 : decode cX6_unseen 28 = .ok (.if_icmp .ge 67, 3) := by decide +kernel
theorem dX6_unseen_31 : decode cX6_unseen 31 = .ok (.iconst 0, 1) := by decide +kernel
theorem dX6_unseen_32 : decode cX6_unseen 32 = .ok (.istore 5, 2) := by decide +kernel
theorem dX6_unseen_34 : decode cX6_unseen 34 = .ok (.iload 5, 2) := by decide +kernel
theorem dX6_unseen_36 : decode cX6_unseen 36 = .ok (.aload_n 0, 1) := by decide +kernel
theorem dX6_unseen_37 : decode cX6_unseen 37 = .ok (.getfield 19, 3) := by decide +kernel
theorem dX6_unseen_40 : decode cX6_unseen 40 = .ok (.getfield 85, 3) := by decide +kernel
theorem dX6_unseen_43 : decode cX6_unseen 43 = .ok (.iload 4, 2) := by decide +kernel
theorem dX6_unseen_45 : decode cX6_unseen 45 = .ok (.aaload, 1) := by decide +kernel
theorem dX6_unseen_46 : decode cX6_unseen 46 = .ok (.getfield 191, 3) := by decide +kernel
theorem dX6_unseen_49 : decode cX6_unseen 49 = .ok (.if_icmp .ge 40, 3) := by decide +kernel
theorem dX6_unseen_52 : decode cX6_unseen 52 = .ok (.aload_n 0, 1) := by decide +kernel
theorem dX6_unseen_53 : decode cX6_unseen 53 = .ok (.iload 4, 2) := by decide +kernel
theorem dX6_unseen_55 : decode cX6_unseen 55 = .ok (.iload 5, 2) := by decide +kernel
theorem dX6_unseen_57 : decode cX6_unseen 57 = .ok (.invokevirtual 192, 3) := by decide +kernel
theorem dX6_unseen_60 : decode cX6_unseen 60 = .ok (.ifCond .eq 23, 3) := by decide +kernel
theorem dX6_unseen_63 : decode cX6_unseen 63 = .ok (.iload_n 2, 1) := by decide +kernel
theorem dX6_unseen_64 : decode cX6_unseen 64 = .ok (.ifCond .ne 14, 3) := by decide +kernel
theorem dX6_unseen_67 : decode cX6_unseen 67 = .ok (.bipush 10, 2) := by decide +kernel
theorem dX6_unseen_69 : decode cX6_unseen 69 = .ok (.iload 4, 2) := by decide +kernel
theorem dX6_unseen_71 : decode cX6_unseen 71 = .ok (.imul, 1) := by decide +kernel
theorem dX6_unseen_72 : decode cX6_unseen 72 = .ok (.iload 5, 2) := by decide +kernel
theorem dX6_unseen_74 : decode cX6_unseen 74 = .ok (.iadd, 1) := by decide +kernel
theorem dX6_unseen_75 : decode cX6_unseen 75 = .ok (.goto 4, 3) := by decide +kernel
theorem dX6_unseen_78 : decode cX6_unseen 78 = .ok (.iload_n 3, 1) := by decide +kernel
theorem dX6_unseen_79 : decode cX6_unseen 79 = .ok (.istore_n 3, 1) := by decide +kernel
theorem dX6_unseen_80 : decode cX6_unseen 80 = .ok (.iinc 2 1, 3) := by decide +kernel
theorem dX6_unseen_83 : decode cX6_unseen 83 = .ok (.iinc 5 1, 3) := by decide +kernel
theorem dX6_unseen_86 : decode cX6_unseen 86 = .ok (.goto (-52), 3) := by decide +kernel
theorem dX6_unseen_89 : decode cX6_unseen 89 = .ok (.iinc 4 1, 3) := by decide +kernel
theorem dX6_unseen_92 : decode cX6_unseen 92 = .ok (.goto (-73), 3) := by decide +kernel
theorem dX6_unseen_95 : decode cX6_unseen 95 = .ok (.iload_n 1, 1) := by decide +kernel
theorem dX6_unseen_96 : decode cX6_unseen 96 = .ok (.ifCond .ne 7, 3) := by decide +kernel
theorem dX6_unseen_99 : decode cX6_unseen 99 = .ok (.iload_n 2, 1) := by decide +kernel
theorem dX6_unseen_100 : decode cX6_unseen 100 = .ok (.goto 4, 3) := by decide +kernel
theorem dX6_unseen_103 : decode cX6_unseen 103 = .ok (.iload_n 3, 1) := by decide +kernel
theorem dX6_unseen_104 : decode cX6_unseen 104 = .ok (.ireturn, 1) := by decide +kernel
theorem dX6_keep_0 : decode cX6_keep 0 = .ok (.iload_n 1, 1) := by decide +kernel
theorem dX6_keep_1 : decode cX6_keep 1 = .ok (.ifCond .lt 8, 3) := by decide +kernel
theorem dX6_keep_4 : decode cX6_keep 4 = .ok (.iload_n 1, 1) := by decide +kernel
theorem dX6_keep_5 : decode cX6_keep 5 = .ok (.iconst 2, 1) := by decide +kernel
theorem dX6_keep_6 : decode cX6_keep 6 = .ok (.if_icmp .lt 5, 3) := by decide +kernel
theorem dX6_keep_9 : decode cX6_keep 9 = .ok (.iconst (-1), 1) := by decide +kernel
theorem dX6_keep_10 : decode cX6_keep 10 = .ok (.ireturn, 1) := by decide +kernel
theorem dX6_keep_11 : decode cX6_keep 11 = .ok (.aload_n 0, 1) := by decide +kernel
theorem dX6_keep_12 : decode cX6_keep 12 = .ok (.getfield 26, 3) := by decide +kernel
theorem dX6_keep_15 : decode cX6_keep 15 = .ok (.iload_n 1, 1) := by decide +kernel
theorem dX6_keep_16 : decode cX6_keep 16 = .ok (.aaload, 1) := by decide +kernel
theorem dX6_keep_17 : decode cX6_keep 17 = .ok (.aload_n 0, 1) := by decide +kernel
theorem dX6_keep_18 : decode cX6_keep 18 = .ok (.getfield 19, 3) := by decide +kernel
theorem dX6_keep_21 : decode cX6_keep 21 = .ok (.invokevirtual 76, 3) := by decide +kernel
theorem dX6_keep_24 : decode cX6_keep 24 = .ok (.aload_n 0, 1) := by decide +kernel
theorem dX6_keep_25 : decode cX6_keep 25 = .ok (.dup, 1) := by decide +kernel
theorem dX6_keep_26 : decode cX6_keep 26 = .ok (.getfield 30, 3) := by decide +kernel
theorem dX6_keep_29 : decode cX6_keep 29 = .ok (.iconst 1, 1) := by decide +kernel
theorem dX6_keep_30 : decode cX6_keep 30 = .ok (.iload_n 1, 1) := by decide +kernel
theorem dX6_keep_31 : decode cX6_keep 31 = .ok (.ishl, 1) := by decide +kernel
theorem dX6_keep_32 : decode cX6_keep 32 = .ok (.ior, 1) := by decide +kernel
theorem dX6_keep_33 : decode cX6_keep 33 = .ok (.putfield 30, 3) := by decide +kernel
theorem dX6_keep_36 : decode cX6_keep 36 = .ok (.aload_n 0, 1) := by decide +kernel
theorem dX6_keep_37 : decode cX6_keep 37 = .ok (.getfield 19, 3) := by decide +kernel
theorem dX6_keep_40 : decode cX6_keep 40 = .ok (.getfield 153, 3) := by decide +kernel
theorem dX6_keep_43 : decode cX6_keep 43 = .ok (.ireturn, 1) := by decide +kernel
theorem dX6_back_0 : decode cX6_back 0 = .ok (.iload_n 1, 1) := by decide +kernel
theorem dX6_back_1 : decode cX6_back 1 = .ok (.ifCond .lt 8, 3) := by decide +kernel
theorem dX6_back_4 : decode cX6_back 4 = .ok (.iload_n 1, 1) := by decide +kernel
theorem dX6_back_5 : decode cX6_back 5 = .ok (.iconst 2, 1) := by decide +kernel
theorem dX6_back_6 : decode cX6_back 6 = .ok (.if_icmp .lt 5, 3) := by decide +kernel
theorem dX6_back_9 : decode cX6_back 9 = .ok (.iconst (-1), 1) := by decide +kernel
theorem dX6_back_10 : decode cX6_back 10 = .ok (.ireturn, 1) := by decide +kernel
theorem dX6_back_11 : decode cX6_back 11 = .ok (.aload_n 0, 1) := by decide +kernel
theorem dX6_back_12 : decode cX6_back 12 = .ok (.getfield 30, 3) := by decide +kernel
theorem dX6_back_15 : decode cX6_back 15 = .ok (.iload_n 1, 1) := by decide +kernel
theorem dX6_back_16 : decode cX6_back 16 = .ok (.ishr, 1) := by decide +kernel
theorem dX6_back_17 : decode cX6_back 17 = .ok (.iconst 1, 1) := by decide +kernel
theorem dX6_back_18 : decode cX6_back 18 = .ok (.iand, 1) := by decide +kernel
theorem dX6_back_19 : decode cX6_back 19 = .ok (.ifCond .ne 6, 3) := by decide +kernel
theorem dX6_back_22 : decode cX6_back 22 = .ok (.bipush (-2), 2) := by decide +kernel
theorem dX6_back_24 : decode cX6_back 24 = .ok (.ireturn, 1) := by decide +kernel
theorem dX6_back_25 : decode cX6_back 25 = .ok (.aload_n 0, 1) := by decide +kernel
theorem dX6_back_26 : decode cX6_back 26 = .ok (.getfield 19, 3) := by decide +kernel
theorem dX6_back_29 : decode cX6_back 29 = .ok (.aload_n 0, 1) := by decide +kernel
theorem dX6_back_30 : decode cX6_back 30 = .ok (.getfield 26, 3) := by decide +kernel
theorem dX6_back_33 : decode cX6_back 33 = .ok (.iload_n 1, 1) := by decide +kernel
theorem dX6_back_34 : decode cX6_back 34 = .ok (.aaload, 1) := by decide +kernel
theorem dX6_back_35 : decode cX6_back 35 = .ok (.invokevirtual 76, 3) := by decide +kernel
theorem dX6_back_38 : decode cX6_back 38 = .ok (.aload_n 0, 1) := by decide +kernel
theorem dX6_back_39 : decode cX6_back 39 = .ok (.getfield 37, 3) := by decide +kernel
theorem dX6_back_42 : decode cX6_back 42 = .ok (.iconst 0, 1) := by decide +kernel
theorem dX6_back_43 : decode cX6_back 43 = .ok (.putfield 80, 3) := by decide +kernel
theorem dX6_back_46 : decode cX6_back 46 = .ok (.aload_n 0, 1) := by decide +kernel
theorem dX6_back_47 : decode cX6_back 47 = .ok (.getfield 19, 3) := by decide +kernel
theorem dX6_back_50 : decode cX6_back 50 = .ok (.getfield 153, 3) := by decide +kernel
theorem dX6_back_53 : decode cX6_back 53 = .ok (.ireturn, 1) := by decide +kernel
theorem dX6_count_0 : decode cX6_count 0 = .ok (.iload_n 1, 1) := by decide +kernel
theorem dX6_count_1 : decode cX6_count 1 = .ok (.tableswitch 111 0 7 #[47, 55, 63, 74, 82, 90, 95, 103], 47) := by decide +kernel
theorem dX6_count_48 : decode cX6_count 48 = .ok (.aload_n 0, 1) := by decide +kernel
theorem dX6_count_49 : decode cX6_count 49 = .ok (.getfield 19, 3) := by decide +kernel
theorem dX6_count_52 : decode cX6_count 52 = .ok (.getfield 153, 3) := by decide +kernel
theorem dX6_count_55 : decode cX6_count 55 = .ok (.ireturn, 1) := by decide +kernel
theorem dX6_count_56 : decode cX6_count 56 = .ok (.aload_n 0, 1) := by decide +kernel
theorem dX6_count_57 : decode cX6_count 57 = .ok (.getfield 19, 3) := by decide +kernel
theorem dX6_count_60 : decode cX6_count 60 = .ok (.invokevirtual 195, 3) := by decide +kernel
theorem dX6_count_63 : decode cX6_count 63 = .ok (.ireturn, 1) := by decide +kernel
theorem dX6_count_64 : decode cX6_count 64 = .ok (.aload_n 0, 1) := by decide +kernel
theorem dX6_count_65 : decode cX6_count 65 = .ok (.getfield 19, 3) := by decide +kernel
theorem dX6_count_68 : decode cX6_count 68 = .ok (.invokevirtual 180, 3) := by decide +kernel
theorem dX6_count_71 : decode cX6_count 71 = .ok (.invokestatic 186, 3) := by decide +kernel
theorem dX6_count_74 : decode cX6_count 74 = .ok (.ireturn, 1) := by decide +kernel
theorem dX6_count_75 : decode cX6_count 75 = .ok (.aload_n 0, 1) := by decide +kernel
theorem dX6_count_76 : decode cX6_count 76 = .ok (.invokevirtual 198, 3) := by decide +kernel
theorem dX6_count_79 : decode cX6_count 79 = .ok (.invokestatic 186, 3) := by decide +kernel
theorem dX6_count_82 : decode cX6_count 82 = .ok (.ireturn, 1) := by decide +kernel
theorem dX6_count_83 : decode cX6_count 83 = .ok (.aload_n 0, 1) := by decide +kernel
theorem dX6_count_84 : decode cX6_count 84 = .ok (.getfield 19, 3) := by decide +kernel
theorem dX6_count_87 : decode cX6_count 87 = .ok (.getfield 111, 3) := by decide +kernel
theorem dX6_count_90 : decode cX6_count 90 = .ok (.ireturn, 1) := by decide +kernel
theorem dX6_count_91 : decode cX6_count 91 = .ok (.aload_n 0, 1) := by decide +kernel
theorem dX6_count_92 : decode cX6_count 92 = .ok (.getfield 62, 3) := by decide +kernel
theorem dX6_count_95 : decode cX6_count 95 = .ok (.ireturn, 1) := by decide +kernel
theorem dX6_count_96 : decode cX6_count 96 = .ok (.aload_n 0, 1) := by decide +kernel
theorem dX6_count_97 : decode cX6_count 97 = .ok (.getfield 10, 3) := by decide +kernel
theorem dX6_count_100 : decode cX6_count 100 = .ok (.getfield 69, 3) := by decide +kernel
theorem dX6_count_103 : decode cX6_count 103 = .ok (.ireturn, 1) := by decide +kernel
theorem dX6_count_104 : decode cX6_count 104 = .ok (.aload_n 0, 1) := by decide +kernel
theorem dX6_count_105 : decode cX6_count 105 = .ok (.getfield 37, 3) := by decide +kernel
theorem dX6_count_108 : decode cX6_count 108 = .ok (.getfield 80, 3) := by decide +kernel
theorem dX6_count_111 : decode cX6_count 111 = .ok (.ireturn, 1) := by decide +kernel
theorem dX6_count_112 : decode cX6_count 112 = .ok (.iconst (-1), 1) := by decide +kernel
theorem dX6_count_113 : decode cX6_count 113 = .ok (.ireturn, 1) := by decide +kernel
theorem dX6_isEvent_0 : decode cX6_isEvent 0 = .ok (.iload_n 0, 1) := by decide +kernel
theorem dX6_isEvent_1 : decode cX6_isEvent 1 = .ok (.ifCond .lt 13, 3) := by decide +kernel
theorem dX6_isEvent_4 : decode cX6_isEvent 4 = .ok (.iload_n 0, 1) := by decide +kernel
theorem dX6_isEvent_5 : decode cX6_isEvent 5 = .ok (.bipush 8, 2) := by decide +kernel
theorem dX6_isEvent_7 : decode cX6_isEvent 7 = .ok (.if_icmp .ge 7, 3) := by decide +kernel
theorem dX6_isEvent_10 : decode cX6_isEvent 10 = .ok (.iconst 1, 1) := by decide +kernel
theorem dX6_isEvent_11 : decode cX6_isEvent 11 = .ok (.goto 4, 3) := by decide +kernel
theorem dX6_isEvent_14 : decode cX6_isEvent 14 = .ok (.iconst 0, 1) := by decide +kernel
theorem dX6_isEvent_15 : decode cX6_isEvent 15 = .ok (.ireturn, 1) := by decide +kernel
theorem dX6_knotsNow_0 : decode cX6_knotsNow 0 = .ok (.aload_n 0, 1) := by decide +kernel
theorem dX6_knotsNow_1 : decode cX6_knotsNow 1 = .ok (.getfield 51, 3) := by decide +kernel
theorem dX6_knotsNow_4 : decode cX6_knotsNow 4 = .ok (.aload_n 0, 1) := by decide +kernel
theorem dX6_knotsNow_5 : decode cX6_knotsNow 5 = .ok (.getfield 19, 3) := by decide +kernel
theorem dX6_knotsNow_8 : decode cX6_knotsNow 8 = .ok (.iconst 0, 1) := by decide +kernel
theorem dX6_knotsNow_9 : decode cX6_knotsNow 9 = .ok (.invokevirtual 160, 3) := by decide +kernel
theorem dX6_knotsNow_12 : decode cX6_knotsNow 12 = .ok (.aload_n 0, 1) := by decide +kernel
theorem dX6_knotsNow_13 : decode cX6_knotsNow 13 = .ok (.getfield 51, 3) := by decide +kernel
theorem dX6_knotsNow_16 : decode cX6_knotsNow 16 = .ok (.invokevirtual 173, 3) := by decide +kernel
theorem dX6_knotsNow_19 : decode cX6_knotsNow 19 = .ok (.ireturn, 1) := by decide +kernel
theorem dX6_shiftOf_0 : decode cX6_shiftOf 0 = .ok (.iload_n 1, 1) := by decide +kernel
theorem dX6_shiftOf_1 : decode cX6_shiftOf 1 = .ok (.ifCond .ne 5, 3) := by decide +kernel
theorem dX6_shiftOf_4 : decode cX6_shiftOf 4 = .ok (.iconst 0, 1) := by decide +kernel
theorem dX6_shiftOf_5 : decode cX6_shiftOf 5 = .ok (.ireturn, 1) := by decide +kernel
theorem dX6_shiftOf_6 : decode cX6_shiftOf 6 = .ok (.aload_n 0, 1) := by decide +kernel
theorem dX6_shiftOf_7 : decode cX6_shiftOf 7 = .ok (.getfield 44, 3) := by decide +kernel
theorem dX6_shiftOf_10 : decode cX6_shiftOf 10 = .ok (.aload_n 0, 1) := by decide +kernel
theorem dX6_shiftOf_11 : decode cX6_shiftOf 11 = .ok (.getfield 19, 3) := by decide +kernel
theorem dX6_shiftOf_14 : decode cX6_shiftOf 14 = .ok (.getfield 85, 3) := by decide +kernel
theorem dX6_shiftOf_17 : decode cX6_shiftOf 17 = .ok (.iconst 0, 1) := by decide +kernel
theorem dX6_shiftOf_18 : decode cX6_shiftOf 18 = .ok (.aaload, 1) := by decide +kernel
theorem dX6_shiftOf_19 : decode cX6_shiftOf 19 = .ok (.aload_n 0, 1) := by decide +kernel
theorem dX6_shiftOf_20 : decode cX6_shiftOf 20 = .ok (.getfield 19, 3) := by decide +kernel
theorem dX6_shiftOf_23 : decode cX6_shiftOf 23 = .ok (.getfield 85, 3) := by decide +kernel
theorem dX6_shiftOf_26 : decode cX6_shiftOf 26 = .ok (.iload_n 1, 1) := by decide +kernel
theorem dX6_shiftOf_27 : decode cX6_shiftOf 27 = .ok (.aaload, 1) := by decide +kernel
theorem dX6_shiftOf_28 : decode cX6_shiftOf 28 = .ok (.invokevirtual 121, 3) := by decide +kernel
theorem dX6_shiftOf_31 : decode cX6_shiftOf 31 = .ok (.aload_n 0, 1) := by decide +kernel
theorem dX6_shiftOf_32 : decode cX6_shiftOf 32 = .ok (.getfield 44, 3) := by decide +kernel
theorem dX6_shiftOf_35 : decode cX6_shiftOf 35 = .ok (.invokevirtual 201, 3) := by decide +kernel
theorem dX6_shiftOf_38 : decode cX6_shiftOf 38 = .ok (.ireturn, 1) := by decide +kernel
theorem dX6_agreedOf_0 : decode cX6_agreedOf 0 = .ok (.iload_n 1, 1) := by decide +kernel
theorem dX6_agreedOf_1 : decode cX6_agreedOf 1 = .ok (.ifCond .ne 16, 3) := by decide +kernel
theorem dX6_agreedOf_4 : decode cX6_agreedOf 4 = .ok (.aload_n 0, 1) := by decide +kernel
theorem dX6_agreedOf_5 : decode cX6_agreedOf 5 = .ok (.getfield 19, 3) := by decide +kernel
theorem dX6_agreedOf_8 : decode cX6_agreedOf 8 = .ok (.getfield 85, 3) := by decide +kernel
theorem dX6_agreedOf_11 : decode cX6_agreedOf 11 = .ok (.iconst 0, 1) := by decide +kernel
theorem dX6_agreedOf_12 : decode cX6_agreedOf 12 = .ok (.aaload, 1) := by decide +kernel
theorem dX6_agreedOf_13 : decode cX6_agreedOf 13 = .ok (.invokevirtual 204, 3) := by decide +kernel
theorem dX6_agreedOf_16 : decode cX6_agreedOf 16 = .ok (.ireturn, 1) := by decide +kernel
theorem dX6_agreedOf_17 : decode cX6_agreedOf 17 = .ok (.aload_n 0, 1) := by decide +kernel
theorem dX6_agreedOf_18 : decode cX6_agreedOf 18 = .ok (.iload_n 1, 1) := by decide +kernel
theorem dX6_agreedOf_19 : decode cX6_agreedOf 19 = .ok (.invokevirtual 141, 3) := by decide +kernel
theorem dX6_agreedOf_22 : decode cX6_agreedOf 22 = .ok (.istore_n 2, 1) := by decide +kernel
theorem dX6_agreedOf_23 : decode cX6_agreedOf 23 = .ok (.aload_n 0, 1) := by decide +kernel
theorem dX6_agreedOf_24 : decode cX6_agreedOf 24 = .ok (.getfield 44, 3) := by decide +kernel
theorem dX6_agreedOf_27 : decode cX6_agreedOf 27 = .ok (.iload_n 2, 1) := by decide +kernel
theorem dX6_agreedOf_28 : decode cX6_agreedOf 28 = .ok (.invokevirtual 205, 3) := by decide +kernel
theorem dX6_agreedOf_31 : decode cX6_agreedOf 31 = .ok (.ireturn, 1) := by decide +kernel
theorem dX6_againstOf_0 : decode cX6_againstOf 0 = .ok (.iload_n 1, 1) := by decide +kernel
theorem dX6_againstOf_1 : decode cX6_againstOf 1 = .ok (.ifCond .ne 5, 3) := by decide +kernel
theorem dX6_againstOf_4 : decode cX6_againstOf 4 = .ok (.iconst 0, 1) := by decide +kernel
theorem dX6_againstOf_5 : decode cX6_againstOf 5 = .ok (.ireturn, 1) := by decide +kernel
theorem dX6_againstOf_6 : decode cX6_againstOf 6 = .ok (.aload_n 0, 1) := by decide +kernel
theorem dX6_againstOf_7 : decode cX6_againstOf 7 = .ok (.iload_n 1, 1) := by decide +kernel
theorem dX6_againstOf_8 : decode cX6_againstOf 8 = .ok (.invokevirtual 144, 3) := by decide +kernel
theorem dX6_againstOf_11 : decode cX6_againstOf 11 = .ok (.istore_n 2, 1) := by decide +kernel
theorem dX6_againstOf_12 : decode cX6_againstOf 12 = .ok (.aload_n 0, 1) := by decide +kernel
theorem dX6_againstOf_13 : decode cX6_againstOf 13 = .ok (.getfield 44, 3) := by decide +kernel
theorem dX6_againstOf_16 : decode cX6_againstOf 16 = .ok (.invokevirtual 208, 3) := by decide +kernel
theorem dX6_againstOf_19 : decode cX6_againstOf 19 = .ok (.iload_n 2, 1) := by decide +kernel
theorem dX6_againstOf_20 : decode cX6_againstOf 20 = .ok (.iconst (-1), 1) := by decide +kernel
theorem dX6_againstOf_21 : decode cX6_againstOf 21 = .ok (.ixor, 1) := by decide +kernel
theorem dX6_againstOf_22 : decode cX6_againstOf 22 = .ok (.iand, 1) := by decide +kernel
theorem dX6_againstOf_23 : decode cX6_againstOf 23 = .ok (.ireturn, 1) := by decide +kernel
theorem dX6_measureOf_0 : decode cX6_measureOf 0 = .ok (.iload_n 2, 1) := by decide +kernel
theorem dX6_measureOf_1 : decode cX6_measureOf 1 = .ok (.tableswitch 68 0 3 #[31, 44, 53, 59], 31) := by decide +kernel
theorem dX6_measureOf_32 : decode cX6_measureOf 32 = .ok (.aload_n 0, 1) := by decide +kernel
theorem dX6_measureOf_33 : decode cX6_measureOf 33 = .ok (.getfield 19, 3) := by decide +kernel
theorem dX6_measureOf_36 : decode cX6_measureOf 36 = .ok (.getfield 85, 3) := by decide +kernel
theorem dX6_measureOf_39 : decode cX6_measureOf 39 = .ok (.iload_n 1, 1) := by decide +kernel
theorem dX6_measureOf_40 : decode cX6_measureOf 40 = .ok (.aaload, 1) := by decide +kernel
theorem dX6_measureOf_41 : decode cX6_measureOf 41 = .ok (.invokevirtual 209, 3) := by decide +kernel
theorem dX6_measureOf_44 : decode cX6_measureOf 44 = .ok (.ireturn, 1) := by decide +kernel
theorem dX6_measureOf_45 : decode cX6_measureOf 45 = .ok (.aload_n 0, 1) := by decide +kernel
theorem dX6_measureOf_46 : decode cX6_measureOf 46 = .ok (.iload_n 1, 1) := by decide +kernel
theorem dX6_measureOf_47 : decode cX6_measureOf 47 = .ok (.invokevirtual 144, 3) := by decide +kernel
theorem dX6_measureOf_50 : decode cX6_measureOf 50 = .ok (.invokestatic 186, 3) := by decide +kernel
theorem dX6_measureOf_53 : decode cX6_measureOf 53 = .ok (.ireturn, 1) := by decide +kernel
theorem dX6_measureOf_54 : decode cX6_measureOf 54 = .ok (.aload_n 0, 1) := by decide +kernel
theorem dX6_measureOf_55 : decode cX6_measureOf 55 = .ok (.iload_n 1, 1) := by decide +kernel
theorem dX6_measureOf_56 : decode cX6_measureOf 56 = .ok (.invokevirtual 210, 3) := by decide +kernel
theorem dX6_measureOf_59 : decode cX6_measureOf 59 = .ok (.ireturn, 1) := by decide +kernel
theorem dX6_measureOf_60 : decode cX6_measureOf 60 = .ok (.aload_n 0, 1) := by decide +kernel
theorem dX6_measureOf_61 : decode cX6_measureOf 61 = .ok (.iload_n 1, 1) := by decide +kernel
theorem dX6_measureOf_62 : decode cX6_measureOf 62 = .ok (.invokevirtual 213, 3) := by decide +kernel
theorem dX6_measureOf_65 : decode cX6_measureOf 65 = .ok (.invokestatic 186, 3) := by decide +kernel
theorem dX6_measureOf_68 : decode cX6_measureOf 68 = .ok (.ireturn, 1) := by decide +kernel
theorem dX6_measureOf_69 : decode cX6_measureOf 69 = .ok (.aload_n 0, 1) := by decide +kernel
theorem dX6_measureOf_70 : decode cX6_measureOf 70 = .ok (.getfield 19, 3) := by decide +kernel
theorem dX6_measureOf_73 : decode cX6_measureOf 73 = .ok (.getfield 85, 3) := by decide +kernel
theorem dX6_measureOf_76 : decode cX6_measureOf 76 = .ok (.iload_n 1, 1) := by decide +kernel
theorem dX6_measureOf_77 : decode cX6_measureOf 77 = .ok (.aaload, 1) := by decide +kernel
theorem dX6_measureOf_78 : decode cX6_measureOf 78 = .ok (.invokevirtual 204, 3) := by decide +kernel
theorem dX6_measureOf_81 : decode cX6_measureOf 81 = .ok (.aload_n 0, 1) := by decide +kernel
theorem dX6_measureOf_82 : decode cX6_measureOf 82 = .ok (.invokevirtual 198, 3) := by decide +kernel
theorem dX6_measureOf_85 : decode cX6_measureOf 85 = .ok (.iand, 1) := by decide +kernel
theorem dX6_measureOf_86 : decode cX6_measureOf 86 = .ok (.invokestatic 186, 3) := by decide +kernel
theorem dX6_measureOf_89 : decode cX6_measureOf 89 = .ok (.ireturn, 1) := by decide +kernel
theorem dX6_spansByFirst_0 : decode cX6_spansByFirst 0 = .ok (.iload_n 1, 1) := by decide +kernel
theorem dX6_spansByFirst_1 : decode cX6_spansByFirst 1 = .ok (.ifCond .ne 24, 3) := by decide +kernel
theorem dX6_spansByFirst_4 : decode cX6_spansByFirst 4 = .ok (.aload_n 0, 1) := by decide +kernel
theorem dX6_spansByFirst_5 : decode cX6_spansByFirst 5 = .ok (.getfield 19, 3) := by decide +kernel
theorem dX6_spansByFirst_8 : decode cX6_spansByFirst 8 = .ok (.getfield 85, 3) := by decide +kernel
theorem dX6_spansByFirst_11 : decode cX6_spansByFirst 11 = .ok (.iconst 0, 1) := by decide +kernel
theorem dX6_spansByFirst_12 : decode cX6_spansByFirst 12 = .ok (.aaload, 1) := by decide +kernel
theorem dX6_spansByFirst_13 : decode cX6_spansByFirst 13 = .ok (.invokevirtual 209, 3) := by decide +kernel
theorem dX6_spansByFirst_16 : decode cX6_spansByFirst 16 = .ok (.ifCond .ne 7, 3) := by decide +kernel
theorem dX6_spansByFirst_19 : decode cX6_spansByFirst 19 = .ok (.iconst 0, 1) := by decide +kernel
theorem dX6_spansByFirst_20 : decode cX6_spansByFirst 20 = .ok (.goto 4, 3) := by decide +kernel
theorem dX6_spansByFirst_23 : decode cX6_spansByFirst 23 = .ok (.iconst 1, 1) := by decide +kernel
theorem dX6_spansByFirst_24 : decode cX6_spansByFirst 24 = .ok (.ireturn, 1) := by decide +kernel
theorem dX6_spansByFirst_25 : decode cX6_spansByFirst 25 = .ok (.aload_n 0, 1) := by decide +kernel
theorem dX6_spansByFirst_26 : decode cX6_spansByFirst 26 = .ok (.getfield 44, 3) := by decide +kernel
theorem dX6_spansByFirst_29 : decode cX6_spansByFirst 29 = .ok (.aload_n 0, 1) := by decide +kernel
theorem dX6_spansByFirst_30 : decode cX6_spansByFirst 30 = .ok (.getfield 19, 3) := by decide +kernel
theorem dX6_spansByFirst_33 : decode cX6_spansByFirst 33 = .ok (.getfield 85, 3) := by decide +kernel
theorem dX6_spansByFirst_36 : decode cX6_spansByFirst 36 = .ok (.iconst 0, 1) := by decide +kernel
theorem dX6_spansByFirst_37 : decode cX6_spansByFirst 37 = .ok (.aaload, 1) := by decide +kernel
theorem dX6_spansByFirst_38 : decode cX6_spansByFirst 38 = .ok (.aload_n 0, 1) := by decide +kernel
theorem dX6_spansByFirst_39 : decode cX6_spansByFirst 39 = .ok (.getfield 19, 3) := by decide +kernel
theorem dX6_spansByFirst_42 : decode cX6_spansByFirst 42 = .ok (.getfield 85, 3) := by decide +kernel
theorem dX6_spansByFirst_45 : decode cX6_spansByFirst 45 = .ok (.iload_n 1, 1) := by decide +kernel
theorem dX6_spansByFirst_46 : decode cX6_spansByFirst 46 = .ok (.aaload, 1) := by decide +kernel
theorem dX6_spansByFirst_47 : decode cX6_spansByFirst 47 = .ok (.invokevirtual 121, 3) := by decide +kernel
theorem dX6_spansByFirst_50 : decode cX6_spansByFirst 50 = .ok (.aload_n 0, 1) := by decide +kernel
theorem dX6_spansByFirst_51 : decode cX6_spansByFirst 51 = .ok (.getfield 44, 3) := by decide +kernel
theorem dX6_spansByFirst_54 : decode cX6_spansByFirst 54 = .ok (.aload_n 0, 1) := by decide +kernel
theorem dX6_spansByFirst_55 : decode cX6_spansByFirst 55 = .ok (.getfield 19, 3) := by decide +kernel
theorem dX6_spansByFirst_58 : decode cX6_spansByFirst 58 = .ok (.getfield 111, 3) := by decide +kernel
theorem dX6_spansByFirst_61 : decode cX6_spansByFirst 61 = .ok (.invokevirtual 125, 3) := by decide +kernel
theorem dX6_spansByFirst_64 : decode cX6_spansByFirst 64 = .ok (.ireturn, 1) := by decide +kernel
theorem dX6_eventsOfNoOther_0 : decode cX6_eventsOfNoOther 0 = .ok (.aload_n 0, 1) := by decide +kernel
theorem dX6_eventsOfNoOther_1 : decode cX6_eventsOfNoOther 1 = .ok (.getfield 19, 3) := by decide +kernel
theorem dX6_eventsOfNoOther_4 : decode cX6_eventsOfNoOther 4 = .ok (.getfield 85, 3) := by decide +kernel
theorem dX6_eventsOfNoOther_7 : decode cX6_eventsOfNoOther 7 = .ok (.iload_n 1, 1) := by decide +kernel
theorem dX6_eventsOfNoOther_8 : decode cX6_eventsOfNoOther 8 = .ok (.aaload, 1) := by decide +kernel
theorem dX6_eventsOfNoOther_9 : decode cX6_eventsOfNoOther 9 = .ok (.invokevirtual 204, 3) := by decide +kernel
theorem dX6_eventsOfNoOther_12 : decode cX6_eventsOfNoOther 12 = .ok (.istore_n 2, 1) := by decide +kernel
theorem dX6_eventsOfNoOther_13 : decode cX6_eventsOfNoOther 13 = .ok (.iconst 0, 1) := by decide +kernel
theorem dX6_eventsOfNoOther_14 : decode cX6_eventsOfNoOther 14 = .ok (.istore_n 3, 1) := by decide +kernel
theorem dX6_eventsOfNoOther_15 : decode cX6_eventsOfNoOther 15 = .ok (.iload_n 3, 1) := by decide +kernel
theorem dX6_eventsOfNoOther_16 : decode cX6_eventsOfNoOther 16 = .ok (.aload_n 0, 1) := by decide +kernel
theorem dX6_eventsOfNoOther_17 : decode cX6_eventsOfNoOther 17 = .ok (.getfield 19, 3) := by decide +kernel
theorem dX6_eventsOfNoOther_20 : decode cX6_eventsOfNoOther 20 = .ok (.getfield 153, 3) := by decide +kernel
theorem dX6_eventsOfNoOther_23 : decode cX6_eventsOfNoOther 23 = .ok (.if_icmp .ge 31, 3) := by decide +kernel
theorem dX6_eventsOfNoOther_26 : decode cX6_eventsOfNoOther 26 = .ok (.iload_n 3, 1) := by decide +kernel
theorem dX6_eventsOfNoOther_27 : decode cX6_eventsOfNoOther 27 = .ok (.iload_n 1, 1) := by decide +kernel
theorem dX6_eventsOfNoOther_28 : decode cX6_eventsOfNoOther 28 = .ok (.if_icmp .eq 20, 3) := by decide +kernel
theorem dX6_eventsOfNoOther_31 : decode cX6_eventsOfNoOther 31 = .ok (.iload_n 2, 1) := by decide +kernel
theorem dX6_eventsOfNoOther_32 : decode cX6_eventsOfNoOther 32 = .ok (.aload_n 0, 1) := by decide +kernel
theorem dX6_eventsOfNoOther_33 : decode cX6_eventsOfNoOther 33 = .ok (.getfield 19, 3) := by decide +kernel
theorem dX6_eventsOfNoOther_36 : decode cX6_eventsOfNoOther 36 = .ok (.getfield 85, 3) := by decide +kernel
theorem dX6_eventsOfNoOther_39 : decode cX6_eventsOfNoOther 39 = .ok (.iload_n 3, 1) := by decide +kernel
theorem dX6_eventsOfNoOther_40 : decode cX6_eventsOfNoOther 40 = .ok (.aaload, 1) := by decide +kernel
theorem dX6_eventsOfNoOther_41 : decode cX6_eventsOfNoOther 41 = .ok (.invokevirtual 204, 3) := by decide +kernel
theorem dX6_eventsOfNoOther_44 : decode cX6_eventsOfNoOther 44 = .ok (.iconst (-1), 1) := by decide +kernel
theorem dX6_eventsOfNoOther_45 : decode cX6_eventsOfNoOther 45 = .ok (.ixor, 1) := by decide +kernel
theorem dX6_eventsOfNoOther_46 : decode cX6_eventsOfNoOther 46 = .ok (.iand, 1) := by decide +kernel
theorem dX6_eventsOfNoOther_47 : decode cX6_eventsOfNoOther 47 = .ok (.istore_n 2, 1) := by decide +kernel
theorem dX6_eventsOfNoOther_48 : decode cX6_eventsOfNoOther 48 = .ok (.iinc 3 1, 3) := by decide +kernel
theorem dX6_eventsOfNoOther_51 : decode cX6_eventsOfNoOther 51 = .ok (.goto (-36), 3) := by decide +kernel
theorem dX6_eventsOfNoOther_54 : decode cX6_eventsOfNoOther 54 = .ok (.iload_n 2, 1) := by decide +kernel
theorem dX6_eventsOfNoOther_55 : decode cX6_eventsOfNoOther 55 = .ok (.ireturn, 1) := by decide +kernel
theorem dX6_housesAbove_0 : decode cX6_housesAbove 0 = .ok (.iconst 0, 1) := by decide +kernel
theorem dX6_housesAbove_1 : decode cX6_housesAbove 1 = .ok (.istore_n 2, 1) := by decide +kernel
theorem dX6_housesAbove_2 : decode cX6_housesAbove 2 = .ok (.iconst 0, 1) := by decide +kernel
theorem dX6_housesAbove_3 : decode cX6_housesAbove 3 = .ok (.istore_n 3, 1) := by decide +kernel
theorem dX6_housesAbove_4 : decode cX6_housesAbove 4 = .ok (.iload_n 3, 1) := by decide +kernel
theorem dX6_housesAbove_5 : decode cX6_housesAbove 5 = .ok (.aload_n 0, 1) := by decide +kernel
theorem dX6_housesAbove_6 : decode cX6_housesAbove 6 = .ok (.getfield 19, 3) := by decide +kernel
theorem dX6_housesAbove_9 : decode cX6_housesAbove 9 = .ok (.getfield 153, 3) := by decide +kernel
theorem dX6_housesAbove_12 : decode cX6_housesAbove 12 = .ok (.if_icmp .ge 47, 3) := by decide +kernel
theorem dX6_housesAbove_15 : decode cX6_housesAbove 15 = .ok (.aload_n 0, 1) := by decide +kernel
theorem dX6_housesAbove_16 : decode cX6_housesAbove 16 = .ok (.getfield 55, 3) := by decide +kernel
theorem dX6_housesAbove_19 : decode cX6_housesAbove 19 = .ok (.iload_n 3, 1) := by decide +kernel
theorem dX6_housesAbove_20 : decode cX6_housesAbove 20 = .ok (.iaload, 1) := by decide +kernel
theorem dX6_housesAbove_21 : decode cX6_housesAbove 21 = .ok (.aload_n 0, 1) := by decide +kernel
theorem dX6_housesAbove_22 : decode cX6_housesAbove 22 = .ok (.getfield 55, 3) := by decide +kernel
theorem dX6_housesAbove_25 : decode cX6_housesAbove 25 = .ok (.iload_n 1, 1) := by decide +kernel
theorem dX6_housesAbove_26 : decode cX6_housesAbove 26 = .ok (.iaload, 1) := by decide +kernel
theorem dX6_housesAbove_27 : decode cX6_housesAbove 27 = .ok (.if_icmp .gt 23, 3) := by decide +kernel
theorem dX6_housesAbove_30 : decode cX6_housesAbove 30 = .ok (.iload_n 3, 1) := by decide +kernel
theorem dX6_housesAbove_31 : decode cX6_housesAbove 31 = .ok (.iload_n 1, 1) := by decide +kernel
theorem dX6_housesAbove_32 : decode cX6_housesAbove 32 = .ok (.if_icmp .ge 21, 3) := by decide +kernel
theorem dX6_housesAbove_35 : decode cX6_housesAbove 35 = .ok (.aload_n 0, 1) := by decide +kernel
theorem dX6_housesAbove_36 : decode cX6_housesAbove 36 = .ok (.getfield 55, 3) := by decide +kernel
theorem dX6_housesAbove_39 : decode cX6_housesAbove 39 = .ok (.iload_n 3, 1) := by decide +kernel
theorem dX6_housesAbove_40 : decode cX6_housesAbove 40 = .ok (.iaload, 1) := by decide +kernel
theorem dX6_housesAbove_41 : decode cX6_housesAbove 41 = .ok (.aload_n 0, 1) := by decide +kernel
theorem dX6_housesAbove_42 : decode cX6_housesAbove 42 = .ok (.getfield 55, 3) := by decide +kernel
theorem dX6_housesAbove_45 : decode cX6_housesAbove 45 = .ok (.iload_n 1, 1) := by decide +kernel
theorem dX6_housesAbove_46 : decode cX6_housesAbove 46 = .ok (.iaload, 1) := by decide +kernel
theorem dX6_housesAbove_47 : decode cX6_housesAbove 47 = .ok (.if_icmp .ne 6, 3) := by decide +kernel
theorem dX6_housesAbove_50 : decode cX6_housesAbove 50 = .ok (.iinc 2 1, 3) := by decide +kernel
theorem dX6_housesAbove_53 : decode cX6_housesAbove 53 = .ok (.iinc 3 1, 3) := by decide +kernel
theorem dX6_housesAbove_56 : decode cX6_housesAbove 56 = .ok (.goto (-52), 3) := by decide +kernel
theorem dX6_housesAbove_59 : decode cX6_housesAbove 59 = .ok (.iload_n 2, 1) := by decide +kernel
theorem dX6_housesAbove_60 : decode cX6_housesAbove 60 = .ok (.ireturn, 1) := by decide +kernel
theorem dX6_dateOf_0 : decode cX6_dateOf 0 = .ok (.iconst 0, 1) := by decide +kernel
theorem dX6_dateOf_1 : decode cX6_dateOf 1 = .ok (.istore_n 2, 1) := by decide +kernel
theorem dX6_dateOf_2 : decode cX6_dateOf 2 = .ok (.iload_n 2, 1) := by decide +kernel
theorem dX6_dateOf_3 : decode cX6_dateOf 3 = .ok (.aload_n 0, 1) := by decide +kernel
theorem dX6_dateOf_4 : decode cX6_dateOf 4 = .ok (.getfield 19, 3) := by decide +kernel
theorem dX6_dateOf_7 : decode cX6_dateOf 7 = .ok (.getfield 153, 3) := by decide +kernel
theorem dX6_dateOf_10 : decode cX6_dateOf 10 = .ok (.if_icmp .ge 48, 3) := by decide +kernel
theorem dX6_dateOf_13 : decode cX6_dateOf 13 = .ok (.aload_n 0, 1) := by decide +kernel
theorem dX6_dateOf_14 : decode cX6_dateOf 14 = .ok (.getfield 19, 3) := by decide +kernel
theorem dX6_dateOf_17 : decode cX6_dateOf 17 = .ok (.getfield 85, 3) := by decide +kernel
theorem dX6_dateOf_20 : decode cX6_dateOf 20 = .ok (.iload_n 2, 1) := by decide +kernel
theorem dX6_dateOf_21 : decode cX6_dateOf 21 = .ok (.aaload, 1) := by decide +kernel
theorem dX6_dateOf_22 : decode cX6_dateOf 22 = .ok (.iload_n 1, 1) := by decide +kernel
theorem dX6_dateOf_23 : decode cX6_dateOf 23 = .ok (.invokevirtual 216, 3) := by decide +kernel
theorem dX6_dateOf_26 : decode cX6_dateOf 26 = .ok (.istore_n 3, 1) := by decide +kernel
theorem dX6_dateOf_27 : decode cX6_dateOf 27 = .ok (.iload_n 3, 1) := by decide +kernel
theorem dX6_dateOf_28 : decode cX6_dateOf 28 = .ok (.ifCond .lt 24, 3) := by decide +kernel
theorem dX6_dateOf_31 : decode cX6_dateOf 31 = .ok (.aload_n 0, 1) := by decide +kernel
theorem dX6_dateOf_32 : decode cX6_dateOf 32 = .ok (.getfield 19, 3) := by decide +kernel
theorem dX6_dateOf_35 : decode cX6_dateOf 35 = .ok (.getfield 85, 3) := by decide +kernel
theorem dX6_dateOf_38 : decode cX6_dateOf 38 = .ok (.iload_n 2, 1) := by decide +kernel
theorem dX6_dateOf_39 : decode cX6_dateOf 39 = .ok (.aaload, 1) := by decide +kernel
theorem dX6_dateOf_40 : decode cX6_dateOf 40 = .ok (.getfield 94, 3) := by decide +kernel
theorem dX6_dateOf_43 : decode cX6_dateOf 43 = .ok (.iload_n 3, 1) := by decide +kernel
theorem dX6_dateOf_44 : decode cX6_dateOf 44 = .ok (.iaload, 1) := by decide +kernel
theorem dX6_dateOf_45 : decode cX6_dateOf 45 = .ok (.aload_n 0, 1) := by decide +kernel
theorem dX6_dateOf_46 : decode cX6_dateOf 46 = .ok (.iload_n 2, 1) := by decide +kernel
theorem dX6_dateOf_47 : decode cX6_dateOf 47 = .ok (.invokevirtual 141, 3) := by decide +kernel
theorem dX6_dateOf_50 : decode cX6_dateOf 50 = .ok (.isub, 1) := by decide +kernel
theorem dX6_dateOf_51 : decode cX6_dateOf 51 = .ok (.ireturn, 1) := by decide +kernel
theorem dX6_dateOf_52 : decode cX6_dateOf 52 = .ok (.iinc 2 1, 3) := by decide +kernel
theorem dX6_dateOf_55 : decode cX6_dateOf 55 = .ok (.goto (-53), 3) := by decide +kernel
theorem dX6_dateOf_58 : decode cX6_dateOf 58 = .ok (.ldc 120, 2) := by decide +kernel
theorem dX6_dateOf_60 : decode cX6_dateOf 60 = .ok (.ireturn, 1) := by decide +kernel
theorem dX6_maySeem_0 : decode cX6_maySeem 0 = .ok (.aload_n 0, 1) := by decide +kernel
theorem dX6_maySeem_1 : decode cX6_maySeem 1 = .ok (.getfield 19, 3) := by decide +kernel
theorem dX6_maySeem_4 : decode cX6_maySeem 4 = .ok (.getfield 85, 3) := by decide +kernel
theorem dX6_maySeem_7 : decode cX6_maySeem 7 = .ok (.iload_n 1, 1) := by decide +kernel
theorem dX6_maySeem_8 : decode cX6_maySeem 8 = .ok (.aaload, 1) := by decide +kernel
theorem dX6_maySeem_9 : decode cX6_maySeem 9 = .ok (.iload_n 2, 1) := by decide +kernel
theorem dX6_maySeem_10 : decode cX6_maySeem 10 = .ok (.invokevirtual 97, 3) := by decide +kernel
theorem dX6_maySeem_13 : decode cX6_maySeem 13 = .ok (.ifCond .eq 5, 3) := by decide +kernel
theorem dX6_maySeem_16 : decode cX6_maySeem 16 = .ok (.iconst 0, 1) := by decide +kernel
theorem dX6_maySeem_17 : decode cX6_maySeem 17 = .ok (.ireturn, 1) := by decide +kernel
theorem dX6_maySeem_18 : decode cX6_maySeem 18 = .ok (.aload_n 0, 1) := by decide +kernel
theorem dX6_maySeem_19 : decode cX6_maySeem 19 = .ok (.getfield 62, 3) := by decide +kernel
theorem dX6_maySeem_22 : decode cX6_maySeem 22 = .ok (.ifCond .ne 5, 3) := by decide +kernel
theorem dX6_maySeem_25 : decode cX6_maySeem 25 = .ok (.iconst 1, 1) := by decide +kernel
theorem dX6_maySeem_26 : decode cX6_maySeem 26 = .ok (.ireturn, 1) := by decide +kernel
theorem dX6_maySeem_27 : decode cX6_maySeem 27 = .ok (.aload_n 0, 1) := by decide +kernel
theorem dX6_maySeem_28 : decode cX6_maySeem 28 = .ok (.getfield 51, 3) := by decide +kernel
theorem dX6_maySeem_31 : decode cX6_maySeem 31 = .ok (.aload_n 0, 1) := by decide +kernel
theorem dX6_maySeem_32 : decode cX6_maySeem 32 = .ok (.getfield 19, 3) := by decide +kernel
theorem dX6_maySeem_35 : decode cX6_maySeem 35 = .ok (.iload_n 1, 1) := by decide +kernel
theorem dX6_maySeem_36 : decode cX6_maySeem 36 = .ok (.iload_n 2, 1) := by decide +kernel
theorem dX6_maySeem_37 : decode cX6_maySeem 37 = .ok (.invokevirtual 219, 3) := by decide +kernel
theorem dX6_maySeem_40 : decode cX6_maySeem 40 = .ok (.aload_n 0, 1) := by decide +kernel
theorem dX6_maySeem_41 : decode cX6_maySeem 41 = .ok (.getfield 51, 3) := by decide +kernel
theorem dX6_maySeem_44 : decode cX6_maySeem 44 = .ok (.invokevirtual 173, 3) := by decide +kernel
theorem dX6_maySeem_47 : decode cX6_maySeem 47 = .ok (.invokestatic 186, 3) := by decide +kernel
theorem dX6_maySeem_50 : decode cX6_maySeem 50 = .ok (.istore_n 3, 1) := by decide +kernel
theorem dX6_maySeem_51 : decode cX6_maySeem 51 = .ok (.iconst 0, 1) := by decide +kernel
theorem dX6_maySeem_52 : decode cX6_maySeem 52 = .ok (.istore 4, 2) := by decide +kernel
theorem dX6_maySeem_54 : decode cX6_maySeem 54 = .ok (.iload 4, 2) := by decide +kernel
theorem dX6_maySeem_56 : decode cX6_maySeem 56 = .ok (.aload_n 0, 1) := by decide +kernel
theorem dX6_maySeem_57 : decode cX6_maySeem 57 = .ok (.getfield 62, 3) := by decide +kernel
theorem dX6_maySeem_60 : decode cX6_maySeem 60 = .ok (.if_icmp .ge 22, 3) := by decide +kernel
theorem dX6_maySeem_63 : decode cX6_maySeem 63 = .ok (.aload_n 0, 1) := by decide +kernel
theorem dX6_maySeem_64 : decode cX6_maySeem 64 = .ok (.getfield 59, 3) := by decide +kernel
theorem dX6_maySeem_67 : decode cX6_maySeem 67 = .ok (.iload 4, 2) := by decide +kernel
theorem dX6_maySeem_69 : decode cX6_maySeem 69 = .ok (.iaload, 1) := by decide +kernel
theorem dX6_maySeem_70 : decode cX6_maySeem 70 = .ok (.iload_n 3, 1) := by decide +kernel
theorem dX6_maySeem_71 : decode cX6_maySeem 71 = .ok (.if_icmp .eq 5, 3) := by decide +kernel
theorem dX6_maySeem_74 : decode cX6_maySeem 74 = .ok (.iconst 0, 1) := by decide +kernel
theorem dX6_maySeem_75 : decode cX6_maySeem 75 = .ok (.ireturn, 1) := by decide +kernel
theorem dX6_maySeem_76 : decode cX6_maySeem 76 = .ok (.iinc 4 1, 3) := by decide +kernel
theorem dX6_maySeem_79 : decode cX6_maySeem 79 = .ok (.goto (-25), 3) := by decide +kernel
theorem dX6_maySeem_82 : decode cX6_maySeem 82 = .ok (.iconst 1, 1) := by decide +kernel
theorem dX6_maySeem_83 : decode cX6_maySeem 83 = .ok (.ireturn, 1) := by decide +kernel
