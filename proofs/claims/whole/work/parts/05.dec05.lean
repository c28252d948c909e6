/-! decode rows (written by wip/gen) -/
theorem d_Mo_targetOf_32 : decode prog_10_method_12_code 32 = .ok (.if_icmp .ne (39), 3) := by decide +kernel
theorem d_Mo_targetOf_35 : decode prog_10_method_12_code 35 = .ok (.iload_n 2, 1) := by decide +kernel
theorem d_Mo_targetOf_36 : decode prog_10_method_12_code 36 = .ok (.ifCond .ne (14), 3) := by decide +kernel
theorem d_Mo_targetOf_39 : decode prog_10_method_12_code 39 = .ok (.aload_n 0, 1) := by decide +kernel
theorem d_Mo_targetOf_40 : decode prog_10_method_12_code 40 = .ok (.getfield 28, 3) := by decide +kernel
theorem d_Mo_targetOf_43 : decode prog_10_method_12_code 43 = .ok (.iload_n 3, 1) := by decide +kernel
theorem d_Mo_targetOf_44 : decode prog_10_method_12_code 44 = .ok (.iconst 1, 1) := by decide +kernel
theorem d_Mo_targetOf_45 : decode prog_10_method_12_code 45 = .ok (.iadd, 1) := by decide +kernel
theorem d_Mo_targetOf_46 : decode prog_10_method_12_code 46 = .ok (.iaload, 1) := by decide +kernel
theorem d_Mo_targetOf_47 : decode prog_10_method_12_code 47 = .ok (.goto (23), 3) := by decide +kernel
theorem d_Mo_targetOf_50 : decode prog_10_method_12_code 50 = .ok (.iload_n 2, 1) := by decide +kernel
theorem d_Mo_targetOf_51 : decode prog_10_method_12_code 51 = .ok (.iconst 1, 1) := by decide +kernel
theorem d_Mo_targetOf_52 : decode prog_10_method_12_code 52 = .ok (.if_icmp .ne (17), 3) := by decide +kernel
theorem d_Mo_targetOf_55 : decode prog_10_method_12_code 55 = .ok (.aload_n 0, 1) := by decide +kernel
theorem d_Mo_targetOf_56 : decode prog_10_method_12_code 56 = .ok (.getfield 28, 3) := by decide +kernel
theorem d_Mo_targetOf_59 : decode prog_10_method_12_code 59 = .ok (.aload_n 0, 1) := by decide +kernel
theorem d_Mo_targetOf_60 : decode prog_10_method_12_code 60 = .ok (.getfield 31, 3) := by decide +kernel
theorem d_Mo_targetOf_63 : decode prog_10_method_12_code 63 = .ok (.iload_n 3, 1) := by decide +kernel
theorem d_Mo_targetOf_64 : decode prog_10_method_12_code 64 = .ok (.iaload, 1) := by decide +kernel
theorem d_Mo_targetOf_65 : decode prog_10_method_12_code 65 = .ok (.iaload, 1) := by decide +kernel
theorem d_Mo_targetOf_66 : decode prog_10_method_12_code 66 = .ok (.goto (4), 3) := by decide +kernel
theorem d_Mo_targetOf_69 : decode prog_10_method_12_code 69 = .ok (.iconst (-1), 1) := by decide +kernel
theorem d_Mo_targetOf_70 : decode prog_10_method_12_code 70 = .ok (.ireturn, 1) := by decide +kernel
theorem d_Mo_targetOf_71 : decode prog_10_method_12_code 71 = .ok (.iload_n 2, 1) := by decide +kernel
theorem d_Mo_targetOf_72 : decode prog_10_method_12_code 72 = .ok (.istore 5, 2) := by decide +kernel
theorem d_Mo_targetOf_74 : decode prog_10_method_12_code 74 = .ok (.aload_n 0, 1) := by decide +kernel
theorem d_Mo_targetOf_75 : decode prog_10_method_12_code 75 = .ok (.getfield 28, 3) := by decide +kernel
theorem d_Mo_targetOf_78 : decode prog_10_method_12_code 78 = .ok (.iload_n 3, 1) := by decide +kernel
theorem d_Mo_targetOf_79 : decode prog_10_method_12_code 79 = .ok (.iaload, 1) := by decide +kernel
theorem d_Mo_targetOf_80 : decode prog_10_method_12_code 80 = .ok (.istore 6, 2) := by decide +kernel
theorem d_Mo_targetOf_82 : decode prog_10_method_12_code 82 = .ok (.iload 6, 2) := by decide +kernel
theorem d_Mo_targetOf_84 : decode prog_10_method_12_code 84 = .ok (.aload_n 0, 1) := by decide +kernel
theorem d_Mo_targetOf_85 : decode prog_10_method_12_code 85 = .ok (.getfield 28, 3) := by decide +kernel
theorem d_Mo_targetOf_88 : decode prog_10_method_12_code 88 = .ok (.iload_n 3, 1) := by decide +kernel
theorem d_Mo_targetOf_89 : decode prog_10_method_12_code 89 = .ok (.iconst 2, 1) := by decide +kernel
theorem d_Mo_targetOf_90 : decode prog_10_method_12_code 90 = .ok (.iadd, 1) := by decide +kernel
theorem d_Mo_targetOf_91 : decode prog_10_method_12_code 91 = .ok (.iaload, 1) := by decide +kernel
theorem d_Mo_targetOf_92 : decode prog_10_method_12_code 92 = .ok (.if_icmp .ge (117), 3) := by decide +kernel
theorem d_Mo_targetOf_95 : decode prog_10_method_12_code 95 = .ok (.iload 6, 2) := by decide +kernel
theorem d_Mo_targetOf_97 : decode prog_10_method_12_code 97 = .ok (.aload_n 0, 1) := by decide +kernel
theorem d_Mo_targetOf_98 : decode prog_10_method_12_code 98 = .ok (.getfield 28, 3) := by decide +kernel
theorem d_Mo_targetOf_101 : decode prog_10_method_12_code 101 = .ok (.iload_n 3, 1) := by decide +kernel
theorem d_Mo_targetOf_102 : decode prog_10_method_12_code 102 = .ok (.iconst 1, 1) := by decide +kernel
theorem d_Mo_targetOf_103 : decode prog_10_method_12_code 103 = .ok (.iadd, 1) := by decide +kernel
theorem d_Mo_targetOf_104 : decode prog_10_method_12_code 104 = .ok (.iaload, 1) := by decide +kernel
theorem d_Mo_targetOf_105 : decode prog_10_method_12_code 105 = .ok (.if_icmp .ge (7), 3) := by decide +kernel
theorem d_Mo_targetOf_108 : decode prog_10_method_12_code 108 = .ok (.iconst 1, 1) := by decide +kernel
theorem d_Mo_targetOf_109 : decode prog_10_method_12_code 109 = .ok (.goto (4), 3) := by decide +kernel
theorem d_Mo_targetOf_112 : decode prog_10_method_12_code 112 = .ok (.iconst 0, 1) := by decide +kernel
theorem d_Mo_targetOf_113 : decode prog_10_method_12_code 113 = .ok (.istore 7, 2) := by decide +kernel
theorem d_Mo_targetOf_115 : decode prog_10_method_12_code 115 = .ok (.iload 7, 2) := by decide +kernel
theorem d_Mo_targetOf_117 : decode prog_10_method_12_code 117 = .ok (.ifCond .eq (37), 3) := by decide +kernel
theorem d_Mo_targetOf_120 : decode prog_10_method_12_code 120 = .ok (.aload_n 0, 1) := by decide +kernel
theorem d_Mo_targetOf_121 : decode prog_10_method_12_code 121 = .ok (.getfield 34, 3) := by decide +kernel
theorem d_Mo_targetOf_124 : decode prog_10_method_12_code 124 = .ok (.iload 6, 2) := by decide +kernel
theorem d_Mo_targetOf_126 : decode prog_10_method_12_code 126 = .ok (.iaload, 1) := by decide +kernel
theorem d_Mo_targetOf_127 : decode prog_10_method_12_code 127 = .ok (.invokestatic 105, 3) := by decide +kernel
theorem d_Mo_targetOf_130 : decode prog_10_method_12_code 130 = .ok (.ifCond .eq (20), 3) := by decide +kernel
theorem d_Mo_targetOf_133 : decode prog_10_method_12_code 133 = .ok (.iload 4, 2) := by decide +kernel
theorem d_Mo_targetOf_135 : decode prog_10_method_12_code 135 = .ok (.bipush (6), 2) := by decide +kernel
theorem d_Mo_targetOf_137 : decode prog_10_method_12_code 137 = .ok (.if_icmp .ne (9), 3) := by decide +kernel
theorem d_Mo_targetOf_140 : decode prog_10_method_12_code 140 = .ok (.iload 6, 2) := by decide +kernel
theorem d_Mo_targetOf_142 : decode prog_10_method_12_code 142 = .ok (.iload_n 1, 1) := by decide +kernel
theorem d_Mo_targetOf_143 : decode prog_10_method_12_code 143 = .ok (.if_icmp .ne (7), 3) := by decide +kernel
theorem d_Mo_targetOf_146 : decode prog_10_method_12_code 146 = .ok (.iconst 1, 1) := by decide +kernel
theorem d_Mo_targetOf_147 : decode prog_10_method_12_code 147 = .ok (.goto (25), 3) := by decide +kernel
theorem d_Mo_targetOf_150 : decode prog_10_method_12_code 150 = .ok (.iconst 0, 1) := by decide +kernel
theorem d_Mo_targetOf_151 : decode prog_10_method_12_code 151 = .ok (.goto (21), 3) := by decide +kernel
theorem d_Mo_targetOf_154 : decode prog_10_method_12_code 154 = .ok (.aload_n 0, 1) := by decide +kernel
theorem d_Mo_targetOf_155 : decode prog_10_method_12_code 155 = .ok (.getfield 34, 3) := by decide +kernel
theorem d_Mo_targetOf_158 : decode prog_10_method_12_code 158 = .ok (.iload 6, 2) := by decide +kernel
theorem d_Mo_targetOf_160 : decode prog_10_method_12_code 160 = .ok (.iaload, 1) := by decide +kernel
theorem d_Mo_targetOf_161 : decode prog_10_method_12_code 161 = .ok (.invokestatic 105, 3) := by decide +kernel
theorem d_Mo_targetOf_164 : decode prog_10_method_12_code 164 = .ok (.ifCond .ne (7), 3) := by decide +kernel
theorem d_Mo_targetOf_167 : decode prog_10_method_12_code 167 = .ok (.iconst 1, 1) := by decide +kernel
theorem d_Mo_targetOf_168 : decode prog_10_method_12_code 168 = .ok (.goto (4), 3) := by decide +kernel
theorem d_Mo_targetOf_171 : decode prog_10_method_12_code 171 = .ok (.iconst 0, 1) := by decide +kernel
theorem d_Mo_targetOf_172 : decode prog_10_method_12_code 172 = .ok (.istore 8, 2) := by decide +kernel
theorem d_Mo_targetOf_174 : decode prog_10_method_12_code 174 = .ok (.iload 8, 2) := by decide +kernel
theorem d_Mo_targetOf_176 : decode prog_10_method_12_code 176 = .ok (.ifCond .eq (11), 3) := by decide +kernel
theorem d_Mo_targetOf_179 : decode prog_10_method_12_code 179 = .ok (.iload 5, 2) := by decide +kernel
theorem d_Mo_targetOf_181 : decode prog_10_method_12_code 181 = .ok (.ifCond .ne (6), 3) := by decide +kernel
theorem d_Mo_targetOf_184 : decode prog_10_method_12_code 184 = .ok (.iload 6, 2) := by decide +kernel
theorem d_Mo_targetOf_186 : decode prog_10_method_12_code 186 = .ok (.ireturn, 1) := by decide +kernel
theorem d_Mo_targetOf_187 : decode prog_10_method_12_code 187 = .ok (.iload 8, 2) := by decide +kernel
theorem d_Mo_targetOf_189 : decode prog_10_method_12_code 189 = .ok (.ifCond .eq (10), 3) := by decide +kernel
theorem d_Mo_targetOf_192 : decode prog_10_method_12_code 192 = .ok (.iload 5, 2) := by decide +kernel
theorem d_Mo_targetOf_194 : decode prog_10_method_12_code 194 = .ok (.iconst 1, 1) := by decide +kernel
theorem d_Mo_targetOf_195 : decode prog_10_method_12_code 195 = .ok (.isub, 1) := by decide +kernel
theorem d_Mo_targetOf_196 : decode prog_10_method_12_code 196 = .ok (.goto (5), 3) := by decide +kernel
theorem d_Mo_targetOf_199 : decode prog_10_method_12_code 199 = .ok (.iload 5, 2) := by decide +kernel
theorem d_Mo_targetOf_201 : decode prog_10_method_12_code 201 = .ok (.istore 5, 2) := by decide +kernel
theorem d_Mo_targetOf_203 : decode prog_10_method_12_code 203 = .ok (.iinc 6 (1), 3) := by decide +kernel
theorem d_Mo_targetOf_206 : decode prog_10_method_12_code 206 = .ok (.goto (-124), 3) := by decide +kernel
theorem d_Mo_targetOf_209 : decode prog_10_method_12_code 209 = .ok (.iconst (-1), 1) := by decide +kernel
theorem d_Mo_targetOf_210 : decode prog_10_method_12_code 210 = .ok (.ireturn, 1) := by decide +kernel
theorem d_Mo_eighth_0 : decode prog_10_method_13_code 0 = .ok (.lconst 1, 1) := by decide +kernel
theorem d_Mo_eighth_1 : decode prog_10_method_13_code 1 = .ok (.lstore_n 1, 1) := by decide +kernel
theorem d_Mo_eighth_2 : decode prog_10_method_13_code 2 = .ok (.iconst 0, 1) := by decide +kernel
theorem d_Mo_eighth_3 : decode prog_10_method_13_code 3 = .ok (.istore_n 3, 1) := by decide +kernel
theorem d_Mo_eighth_4 : decode prog_10_method_13_code 4 = .ok (.iload_n 3, 1) := by decide +kernel
theorem d_Mo_eighth_5 : decode prog_10_method_13_code 5 = .ok (.bipush (8), 2) := by decide +kernel
theorem d_Mo_eighth_7 : decode prog_10_method_13_code 7 = .ok (.if_icmp .ge (14), 3) := by decide +kernel
theorem d_Mo_eighth_10 : decode prog_10_method_13_code 10 = .ok (.lload_n 1, 1) := by decide +kernel
theorem d_Mo_eighth_11 : decode prog_10_method_13_code 11 = .ok (.iload_n 0, 1) := by decide +kernel
theorem d_Mo_eighth_12 : decode prog_10_method_13_code 12 = .ok (.i2l, 1) := by decide +kernel
theorem d_Mo_eighth_13 : decode prog_10_method_13_code 13 = .ok (.lmul, 1) := by decide +kernel
theorem d_Mo_eighth_14 : decode prog_10_method_13_code 14 = .ok (.lstore_n 1, 1) := by decide +kernel
theorem d_Mo_eighth_15 : decode prog_10_method_13_code 15 = .ok (.iinc 3 (1), 3) := by decide +kernel
theorem d_Mo_eighth_18 : decode prog_10_method_13_code 18 = .ok (.goto (-14), 3) := by decide +kernel
theorem d_Mo_eighth_21 : decode prog_10_method_13_code 21 = .ok (.lload_n 1, 1) := by decide +kernel
theorem d_Mo_eighth_22 : decode prog_10_method_13_code 22 = .ok (.lreturn, 1) := by decide +kernel
theorem d_Mo_log_0 : decode prog_10_method_14_code 0 = .ok (.iload_n 0, 1) := by decide +kernel
theorem d_Mo_log_1 : decode prog_10_method_14_code 1 = .ok (.invokestatic 109, 3) := by decide +kernel
theorem d_Mo_log_4 : decode prog_10_method_14_code 4 = .ok (.lstore_n 2, 1) := by decide +kernel
theorem d_Mo_log_5 : decode prog_10_method_14_code 5 = .ok (.iload_n 1, 1) := by decide +kernel
theorem d_Mo_log_6 : decode prog_10_method_14_code 6 = .ok (.invokestatic 109, 3) := by decide +kernel
theorem d_Mo_log_9 : decode prog_10_method_14_code 9 = .ok (.lstore 4, 2) := by decide +kernel
theorem d_Mo_log_11 : decode prog_10_method_14_code 11 = .ok (.iconst 0, 1) := by decide +kernel
theorem d_Mo_log_12 : decode prog_10_method_14_code 12 = .ok (.istore 6, 2) := by decide +kernel
theorem d_Mo_log_14 : decode prog_10_method_14_code 14 = .ok (.ldc2_w 113, 3) := by decide +kernel
theorem d_Mo_log_17 : decode prog_10_method_14_code 17 = .ok (.lload 4, 2) := by decide +kernel
theorem d_Mo_log_19 : decode prog_10_method_14_code 19 = .ok (.lmul, 1) := by decide +kernel
theorem d_Mo_log_20 : decode prog_10_method_14_code 20 = .ok (.lload_n 2, 1) := by decide +kernel
theorem d_Mo_log_21 : decode prog_10_method_14_code 21 = .ok (.lcmp, 1) := by decide +kernel
theorem d_Mo_log_22 : decode prog_10_method_14_code 22 = .ok (.ifCond .gt (20), 3) := by decide +kernel
theorem d_Mo_log_25 : decode prog_10_method_14_code 25 = .ok (.ldc2_w 113, 3) := by decide +kernel
theorem d_Mo_log_28 : decode prog_10_method_14_code 28 = .ok (.lload 4, 2) := by decide +kernel
theorem d_Mo_log_30 : decode prog_10_method_14_code 30 = .ok (.lmul, 1) := by decide +kernel
theorem d_Mo_log_31 : decode prog_10_method_14_code 31 = .ok (.lstore 4, 2) := by decide +kernel
theorem d_Mo_log_33 : decode prog_10_method_14_code 33 = .ok (.iload 6, 2) := by decide +kernel
theorem d_Mo_log_35 : decode prog_10_method_14_code 35 = .ok (.iconst 1, 1) := by decide +kernel
theorem d_Mo_log_36 : decode prog_10_method_14_code 36 = .ok (.iadd, 1) := by decide +kernel
theorem d_Mo_log_37 : decode prog_10_method_14_code 37 = .ok (.istore 6, 2) := by decide +kernel
theorem d_Mo_log_39 : decode prog_10_method_14_code 39 = .ok (.goto (-25), 3) := by decide +kernel
theorem d_Mo_log_42 : decode prog_10_method_14_code 42 = .ok (.lload 4, 2) := by decide +kernel
theorem d_Mo_log_44 : decode prog_10_method_14_code 44 = .ok (.lload_n 2, 1) := by decide +kernel
theorem d_Mo_log_45 : decode prog_10_method_14_code 45 = .ok (.lcmp, 1) := by decide +kernel
theorem d_Mo_log_46 : decode prog_10_method_14_code 46 = .ok (.ifCond .le (18), 3) := by decide +kernel
theorem d_Mo_log_49 : decode prog_10_method_14_code 49 = .ok (.ldc2_w 113, 3) := by decide +kernel
theorem d_Mo_log_52 : decode prog_10_method_14_code 52 = .ok (.lload_n 2, 1) := by decide +kernel
theorem d_Mo_log_53 : decode prog_10_method_14_code 53 = .ok (.lmul, 1) := by decide +kernel
theorem d_Mo_log_54 : decode prog_10_method_14_code 54 = .ok (.lstore_n 2, 1) := by decide +kernel
theorem d_Mo_log_55 : decode prog_10_method_14_code 55 = .ok (.iload 6, 2) := by decide +kernel
theorem d_Mo_log_57 : decode prog_10_method_14_code 57 = .ok (.iconst 1, 1) := by decide +kernel
theorem d_Mo_log_58 : decode prog_10_method_14_code 58 = .ok (.isub, 1) := by decide +kernel
theorem d_Mo_log_59 : decode prog_10_method_14_code 59 = .ok (.istore 6, 2) := by decide +kernel
theorem d_Mo_log_61 : decode prog_10_method_14_code 61 = .ok (.goto (-19), 3) := by decide +kernel
theorem d_Mo_log_64 : decode prog_10_method_14_code 64 = .ok (.iload 6, 2) := by decide +kernel
theorem d_Mo_log_66 : decode prog_10_method_14_code 66 = .ok (.ireturn, 1) := by decide +kernel
theorem d_Mo_kindAt_0 : decode prog_10_method_15_code 0 = .ok (.aload_n 0, 1) := by decide +kernel
theorem d_Mo_kindAt_1 : decode prog_10_method_15_code 1 = .ok (.getfield 19, 3) := by decide +kernel
theorem d_Mo_kindAt_4 : decode prog_10_method_15_code 4 = .ok (.iload_n 2, 1) := by decide +kernel
theorem d_Mo_kindAt_5 : decode prog_10_method_15_code 5 = .ok (.iaload, 1) := by decide +kernel
theorem d_Mo_kindAt_6 : decode prog_10_method_15_code 6 = .ok (.istore_n 3, 1) := by decide +kernel
theorem d_Mo_kindAt_7 : decode prog_10_method_15_code 7 = .ok (.iload_n 3, 1) := by decide +kernel
theorem d_Mo_kindAt_8 : decode prog_10_method_15_code 8 = .ok (.iconst 1, 1) := by decide +kernel
theorem d_Mo_kindAt_9 : decode prog_10_method_15_code 9 = .ok (.if_icmp .eq (8), 3) := by decide +kernel
theorem d_Mo_kindAt_12 : decode prog_10_method_15_code 12 = .ok (.iload_n 3, 1) := by decide +kernel
theorem d_Mo_kindAt_13 : decode prog_10_method_15_code 13 = .ok (.iconst 3, 1) := by decide +kernel
theorem d_Mo_kindAt_14 : decode prog_10_method_15_code 14 = .ok (.if_icmp .ne (31), 3) := by decide +kernel
theorem d_Mo_kindAt_17 : decode prog_10_method_15_code 17 = .ok (.aload_n 0, 1) := by decide +kernel
theorem d_Mo_kindAt_18 : decode prog_10_method_15_code 18 = .ok (.getfield 13, 3) := by decide +kernel
theorem d_Mo_kindAt_21 : decode prog_10_method_15_code 21 = .ok (.bipush (8), 2) := by decide +kernel
theorem d_Mo_kindAt_23 : decode prog_10_method_15_code 23 = .ok (.iload_n 1, 1) := by decide +kernel
theorem d_Mo_kindAt_24 : decode prog_10_method_15_code 24 = .ok (.imul, 1) := by decide +kernel
theorem d_Mo_kindAt_25 : decode prog_10_method_15_code 25 = .ok (.aload_n 0, 1) := by decide +kernel
theorem d_Mo_kindAt_26 : decode prog_10_method_15_code 26 = .ok (.getfield 22, 3) := by decide +kernel
theorem d_Mo_kindAt_29 : decode prog_10_method_15_code 29 = .ok (.iload_n 2, 1) := by decide +kernel
theorem d_Mo_kindAt_30 : decode prog_10_method_15_code 30 = .ok (.iaload, 1) := by decide +kernel
theorem d_Mo_kindAt_31 : decode prog_10_method_15_code 31 = .ok (.iadd, 1) := by decide +kernel
theorem d_Mo_kindAt_32 : decode prog_10_method_15_code 32 = .ok (.iaload, 1) := by decide +kernel
theorem d_Mo_kindAt_33 : decode prog_10_method_15_code 33 = .ok (.iconst 4, 1) := by decide +kernel
theorem d_Mo_kindAt_34 : decode prog_10_method_15_code 34 = .ok (.if_icmp .ge (7), 3) := by decide +kernel
theorem d_Mo_kindAt_37 : decode prog_10_method_15_code 37 = .ok (.iconst 1, 1) := by decide +kernel
theorem d_Mo_kindAt_38 : decode prog_10_method_15_code 38 = .ok (.goto (8), 3) := by decide +kernel
theorem d_Mo_kindAt_41 : decode prog_10_method_15_code 41 = .ok (.iconst 0, 1) := by decide +kernel
theorem d_Mo_kindAt_42 : decode prog_10_method_15_code 42 = .ok (.goto (4), 3) := by decide +kernel
theorem d_Mo_kindAt_45 : decode prog_10_method_15_code 45 = .ok (.iconst 0, 1) := by decide +kernel
theorem d_Mo_kindAt_46 : decode prog_10_method_15_code 46 = .ok (.istore 4, 2) := by decide +kernel
theorem d_Mo_kindAt_48 : decode prog_10_method_15_code 48 = .ok (.iload_n 3, 1) := by decide +kernel
theorem d_Mo_kindAt_49 : decode prog_10_method_15_code 49 = .ok (.iconst 2, 1) := by decide +kernel
theorem d_Mo_kindAt_50 : decode prog_10_method_15_code 50 = .ok (.if_icmp .eq (8), 3) := by decide +kernel
theorem d_Mo_kindAt_53 : decode prog_10_method_15_code 53 = .ok (.iload_n 3, 1) := by decide +kernel
theorem d_Mo_kindAt_54 : decode prog_10_method_15_code 54 = .ok (.iconst 3, 1) := by decide +kernel
theorem d_Mo_kindAt_55 : decode prog_10_method_15_code 55 = .ok (.if_icmp .ne (31), 3) := by decide +kernel
theorem d_Mo_kindAt_58 : decode prog_10_method_15_code 58 = .ok (.aload_n 0, 1) := by decide +kernel
theorem d_Mo_kindAt_59 : decode prog_10_method_15_code 59 = .ok (.getfield 13, 3) := by decide +kernel
theorem d_Mo_kindAt_62 : decode prog_10_method_15_code 62 = .ok (.bipush (8), 2) := by decide +kernel
theorem d_Mo_kindAt_64 : decode prog_10_method_15_code 64 = .ok (.iload_n 1, 1) := by decide +kernel
theorem d_Mo_kindAt_65 : decode prog_10_method_15_code 65 = .ok (.imul, 1) := by decide +kernel
theorem d_Mo_kindAt_66 : decode prog_10_method_15_code 66 = .ok (.aload_n 0, 1) := by decide +kernel
theorem d_Mo_kindAt_67 : decode prog_10_method_15_code 67 = .ok (.getfield 25, 3) := by decide +kernel
theorem d_Mo_kindAt_70 : decode prog_10_method_15_code 70 = .ok (.iload_n 2, 1) := by decide +kernel
theorem d_Mo_kindAt_71 : decode prog_10_method_15_code 71 = .ok (.iaload, 1) := by decide +kernel
theorem d_Mo_kindAt_72 : decode prog_10_method_15_code 72 = .ok (.iadd, 1) := by decide +kernel
theorem d_Mo_kindAt_73 : decode prog_10_method_15_code 73 = .ok (.iaload, 1) := by decide +kernel
theorem d_Mo_kindAt_74 : decode prog_10_method_15_code 74 = .ok (.iconst 4, 1) := by decide +kernel
theorem d_Mo_kindAt_75 : decode prog_10_method_15_code 75 = .ok (.if_icmp .ge (7), 3) := by decide +kernel
theorem d_Mo_kindAt_78 : decode prog_10_method_15_code 78 = .ok (.iconst 1, 1) := by decide +kernel
theorem d_Mo_kindAt_79 : decode prog_10_method_15_code 79 = .ok (.goto (8), 3) := by decide +kernel
theorem d_Mo_kindAt_82 : decode prog_10_method_15_code 82 = .ok (.iconst 0, 1) := by decide +kernel
theorem d_Mo_kindAt_83 : decode prog_10_method_15_code 83 = .ok (.goto (4), 3) := by decide +kernel
theorem d_Mo_kindAt_86 : decode prog_10_method_15_code 86 = .ok (.iconst 0, 1) := by decide +kernel
theorem d_Mo_kindAt_87 : decode prog_10_method_15_code 87 = .ok (.istore 5, 2) := by decide +kernel
theorem d_Mo_kindAt_89 : decode prog_10_method_15_code 89 = .ok (.iload_n 3, 1) := by decide +kernel
theorem d_Mo_kindAt_90 : decode prog_10_method_15_code 90 = .ok (.iconst 1, 1) := by decide +kernel
theorem d_Mo_kindAt_91 : decode prog_10_method_15_code 91 = .ok (.if_icmp .eq (13), 3) := by decide +kernel
theorem d_Mo_kindAt_94 : decode prog_10_method_15_code 94 = .ok (.iload_n 3, 1) := by decide +kernel
theorem d_Mo_kindAt_95 : decode prog_10_method_15_code 95 = .ok (.iconst 2, 1) := by decide +kernel
theorem d_Mo_kindAt_96 : decode prog_10_method_15_code 96 = .ok (.if_icmp .eq (8), 3) := by decide +kernel
theorem d_Mo_kindAt_99 : decode prog_10_method_15_code 99 = .ok (.iload_n 3, 1) := by decide +kernel
theorem d_Mo_kindAt_100 : decode prog_10_method_15_code 100 = .ok (.iconst 3, 1) := by decide +kernel
theorem d_Mo_kindAt_101 : decode prog_10_method_15_code 101 = .ok (.if_icmp .ne (37), 3) := by decide +kernel
theorem d_Mo_kindAt_104 : decode prog_10_method_15_code 104 = .ok (.iload 4, 2) := by decide +kernel
theorem d_Mo_kindAt_106 : decode prog_10_method_15_code 106 = .ok (.ifCond .eq (12), 3) := by decide +kernel
theorem d_Mo_kindAt_109 : decode prog_10_method_15_code 109 = .ok (.iload 5, 2) := by decide +kernel
theorem d_Mo_kindAt_111 : decode prog_10_method_15_code 111 = .ok (.ifCond .eq (7), 3) := by decide +kernel
theorem d_Mo_kindAt_114 : decode prog_10_method_15_code 114 = .ok (.iconst 1, 1) := by decide +kernel
theorem d_Mo_kindAt_115 : decode prog_10_method_15_code 115 = .ok (.goto (22), 3) := by decide +kernel
theorem d_Mo_kindAt_118 : decode prog_10_method_15_code 118 = .ok (.iload 4, 2) := by decide +kernel
theorem d_Mo_kindAt_120 : decode prog_10_method_15_code 120 = .ok (.ifCond .eq (7), 3) := by decide +kernel
theorem d_Mo_kindAt_123 : decode prog_10_method_15_code 123 = .ok (.iconst 2, 1) := by decide +kernel
theorem d_Mo_kindAt_124 : decode prog_10_method_15_code 124 = .ok (.goto (13), 3) := by decide +kernel
theorem d_Mo_kindAt_127 : decode prog_10_method_15_code 127 = .ok (.iload 5, 2) := by decide +kernel
theorem d_Mo_kindAt_129 : decode prog_10_method_15_code 129 = .ok (.ifCond .eq (7), 3) := by decide +kernel
theorem d_Mo_kindAt_132 : decode prog_10_method_15_code 132 = .ok (.iconst 3, 1) := by decide +kernel
theorem d_Mo_kindAt_133 : decode prog_10_method_15_code 133 = .ok (.goto (4), 3) := by decide +kernel
theorem d_Mo_kindAt_136 : decode prog_10_method_15_code 136 = .ok (.iconst 4, 1) := by decide +kernel
theorem d_Mo_kindAt_137 : decode prog_10_method_15_code 137 = .ok (.ireturn, 1) := by decide +kernel
theorem d_Mo_kindAt_138 : decode prog_10_method_15_code 138 = .ok (.iload_n 3, 1) := by decide +kernel
theorem d_Mo_kindAt_139 : decode prog_10_method_15_code 139 = .ok (.iconst 4, 1) := by decide +kernel
theorem d_Mo_kindAt_140 : decode prog_10_method_15_code 140 = .ok (.if_icmp .ne (8), 3) := by decide +kernel
theorem d_Mo_kindAt_143 : decode prog_10_method_15_code 143 = .ok (.bipush (7), 2) := by decide +kernel
theorem d_Mo_kindAt_145 : decode prog_10_method_15_code 145 = .ok (.goto (15), 3) := by decide +kernel
theorem d_Mo_kindAt_148 : decode prog_10_method_15_code 148 = .ok (.iload_n 3, 1) := by decide +kernel
theorem d_Mo_kindAt_149 : decode prog_10_method_15_code 149 = .ok (.bipush (7), 2) := by decide +kernel
theorem d_Mo_kindAt_151 : decode prog_10_method_15_code 151 = .ok (.if_icmp .ne (8), 3) := by decide +kernel
theorem d_Mo_kindAt_154 : decode prog_10_method_15_code 154 = .ok (.bipush (8), 2) := by decide +kernel
theorem d_Mo_kindAt_156 : decode prog_10_method_15_code 156 = .ok (.goto (4), 3) := by decide +kernel
theorem d_Mo_kindAt_159 : decode prog_10_method_15_code 159 = .ok (.iconst 0, 1) := by decide +kernel
theorem d_Mo_kindAt_160 : decode prog_10_method_15_code 160 = .ok (.ireturn, 1) := by decide +kernel
theorem d_Mo_rowsIn_0 : decode prog_10_method_16_code 0 = .ok (.iconst 0, 1) := by decide +kernel
theorem d_Mo_rowsIn_1 : decode prog_10_method_16_code 1 = .ok (.istore_n 2, 1) := by decide +kernel
theorem d_Mo_rowsIn_2 : decode prog_10_method_16_code 2 = .ok (.iconst 0, 1) := by decide +kernel
theorem d_Mo_rowsIn_3 : decode prog_10_method_16_code 3 = .ok (.istore_n 3, 1) := by decide +kernel
theorem d_Mo_rowsIn_4 : decode prog_10_method_16_code 4 = .ok (.iload_n 3, 1) := by decide +kernel
theorem d_Mo_rowsIn_5 : decode prog_10_method_16_code 5 = .ok (.aload_n 0, 1) := by decide +kernel
theorem d_Mo_rowsIn_6 : decode prog_10_method_16_code 6 = .ok (.getfield 70, 3) := by decide +kernel
theorem d_Mo_rowsIn_9 : decode prog_10_method_16_code 9 = .ok (.if_icmp .ge (37), 3) := by decide +kernel
theorem d_Mo_rowsIn_12 : decode prog_10_method_16_code 12 = .ok (.aload_n 0, 1) := by decide +kernel
theorem d_Mo_rowsIn_13 : decode prog_10_method_16_code 13 = .ok (.iload_n 3, 1) := by decide +kernel
theorem d_Mo_rowsIn_14 : decode prog_10_method_16_code 14 = .ok (.aload_n 0, 1) := by decide +kernel
theorem d_Mo_rowsIn_15 : decode prog_10_method_16_code 15 = .ok (.getfield 37, 3) := by decide +kernel
theorem d_Mo_rowsIn_18 : decode prog_10_method_16_code 18 = .ok (.iload_n 1, 1) := by decide +kernel
theorem d_Mo_rowsIn_19 : decode prog_10_method_16_code 19 = .ok (.iaload, 1) := by decide +kernel
theorem d_Mo_rowsIn_20 : decode prog_10_method_16_code 20 = .ok (.invokevirtual 115, 3) := by decide +kernel
theorem d_Mo_rowsIn_23 : decode prog_10_method_16_code 23 = .ok (.aload_n 0, 1) := by decide +kernel
theorem d_Mo_rowsIn_24 : decode prog_10_method_16_code 24 = .ok (.getfield 34, 3) := by decide +kernel
theorem d_Mo_rowsIn_27 : decode prog_10_method_16_code 27 = .ok (.iload_n 1, 1) := by decide +kernel
theorem d_Mo_rowsIn_28 : decode prog_10_method_16_code 28 = .ok (.iaload, 1) := by decide +kernel
theorem d_Mo_rowsIn_29 : decode prog_10_method_16_code 29 = .ok (.if_icmp .ne (9), 3) := by decide +kernel
theorem d_Mo_rowsIn_32 : decode prog_10_method_16_code 32 = .ok (.iload_n 2, 1) := by decide +kernel
theorem d_Mo_rowsIn_33 : decode prog_10_method_16_code 33 = .ok (.iconst 1, 1) := by decide +kernel
theorem d_Mo_rowsIn_34 : decode prog_10_method_16_code 34 = .ok (.iadd, 1) := by decide +kernel
theorem d_Mo_rowsIn_35 : decode prog_10_method_16_code 35 = .ok (.goto (4), 3) := by decide +kernel
theorem d_Mo_rowsIn_38 : decode prog_10_method_16_code 38 = .ok (.iload_n 2, 1) := by decide +kernel
theorem d_Mo_rowsIn_39 : decode prog_10_method_16_code 39 = .ok (.istore_n 2, 1) := by decide +kernel
theorem d_Mo_rowsIn_40 : decode prog_10_method_16_code 40 = .ok (.iinc 3 (1), 3) := by decide +kernel
theorem d_Mo_rowsIn_43 : decode prog_10_method_16_code 43 = .ok (.goto (-39), 3) := by decide +kernel
theorem d_Mo_rowsIn_46 : decode prog_10_method_16_code 46 = .ok (.iload_n 2, 1) := by decide +kernel
theorem d_Mo_rowsIn_47 : decode prog_10_method_16_code 47 = .ok (.ireturn, 1) := by decide +kernel
theorem d_Mo_rowsFrom_0 : decode prog_10_method_17_code 0 = .ok (.iconst 0, 1) := by decide +kernel
theorem d_Mo_rowsFrom_1 : decode prog_10_method_17_code 1 = .ok (.istore_n 3, 1) := by decide +kernel
theorem d_Mo_rowsFrom_2 : decode prog_10_method_17_code 2 = .ok (.iconst 0, 1) := by decide +kernel
theorem d_Mo_rowsFrom_3 : decode prog_10_method_17_code 3 = .ok (.istore 4, 2) := by decide +kernel
theorem d_Mo_rowsFrom_5 : decode prog_10_method_17_code 5 = .ok (.iload 4, 2) := by decide +kernel
theorem d_Mo_rowsFrom_7 : decode prog_10_method_17_code 7 = .ok (.aload_n 0, 1) := by decide +kernel
theorem d_Mo_rowsFrom_8 : decode prog_10_method_17_code 8 = .ok (.getfield 70, 3) := by decide +kernel
theorem d_Mo_rowsFrom_11 : decode prog_10_method_17_code 11 = .ok (.if_icmp .ge (59), 3) := by decide +kernel
theorem d_Mo_rowsFrom_14 : decode prog_10_method_17_code 14 = .ok (.aload_n 0, 1) := by decide +kernel
theorem d_Mo_rowsFrom_15 : decode prog_10_method_17_code 15 = .ok (.iload 4, 2) := by decide +kernel
theorem d_Mo_rowsFrom_17 : decode prog_10_method_17_code 17 = .ok (.aload_n 0, 1) := by decide +kernel
theorem d_Mo_rowsFrom_18 : decode prog_10_method_17_code 18 = .ok (.getfield 37, 3) := by decide +kernel
theorem d_Mo_rowsFrom_21 : decode prog_10_method_17_code 21 = .ok (.iload_n 1, 1) := by decide +kernel
theorem d_Mo_rowsFrom_22 : decode prog_10_method_17_code 22 = .ok (.iaload, 1) := by decide +kernel
theorem d_Mo_rowsFrom_23 : decode prog_10_method_17_code 23 = .ok (.invokevirtual 115, 3) := by decide +kernel
theorem d_Mo_rowsFrom_26 : decode prog_10_method_17_code 26 = .ok (.aload_n 0, 1) := by decide +kernel
theorem d_Mo_rowsFrom_27 : decode prog_10_method_17_code 27 = .ok (.getfield 34, 3) := by decide +kernel
theorem d_Mo_rowsFrom_30 : decode prog_10_method_17_code 30 = .ok (.iload_n 1, 1) := by decide +kernel
theorem d_Mo_rowsFrom_31 : decode prog_10_method_17_code 31 = .ok (.iaload, 1) := by decide +kernel
theorem d_Mo_rowsFrom_32 : decode prog_10_method_17_code 32 = .ok (.if_icmp .ne (30), 3) := by decide +kernel
theorem d_Mo_rowsFrom_35 : decode prog_10_method_17_code 35 = .ok (.aload_n 0, 1) := by decide +kernel
theorem d_Mo_rowsFrom_36 : decode prog_10_method_17_code 36 = .ok (.iload 4, 2) := by decide +kernel
theorem d_Mo_rowsFrom_38 : decode prog_10_method_17_code 38 = .ok (.aload_n 0, 1) := by decide +kernel
theorem d_Mo_rowsFrom_39 : decode prog_10_method_17_code 39 = .ok (.getfield 37, 3) := by decide +kernel
theorem d_Mo_rowsFrom_42 : decode prog_10_method_17_code 42 = .ok (.iload_n 2, 1) := by decide +kernel
theorem d_Mo_rowsFrom_43 : decode prog_10_method_17_code 43 = .ok (.iaload, 1) := by decide +kernel
theorem d_Mo_rowsFrom_44 : decode prog_10_method_17_code 44 = .ok (.invokevirtual 115, 3) := by decide +kernel
theorem d_Mo_rowsFrom_47 : decode prog_10_method_17_code 47 = .ok (.aload_n 0, 1) := by decide +kernel
theorem d_Mo_rowsFrom_48 : decode prog_10_method_17_code 48 = .ok (.getfield 34, 3) := by decide +kernel
theorem d_Mo_rowsFrom_51 : decode prog_10_method_17_code 51 = .ok (.iload_n 2, 1) := by decide +kernel
theorem d_Mo_rowsFrom_52 : decode prog_10_method_17_code 52 = .ok (.iaload, 1) := by decide +kernel
theorem d_Mo_rowsFrom_53 : decode prog_10_method_17_code 53 = .ok (.if_icmp .ne (9), 3) := by decide +kernel
theorem d_Mo_rowsFrom_56 : decode prog_10_method_17_code 56 = .ok (.iload_n 3, 1) := by decide +kernel
theorem d_Mo_rowsFrom_57 : decode prog_10_method_17_code 57 = .ok (.iconst 1, 1) := by decide +kernel
theorem d_Mo_rowsFrom_58 : decode prog_10_method_17_code 58 = .ok (.iadd, 1) := by decide +kernel
theorem d_Mo_rowsFrom_59 : decode prog_10_method_17_code 59 = .ok (.goto (4), 3) := by decide +kernel
theorem d_Mo_rowsFrom_62 : decode prog_10_method_17_code 62 = .ok (.iload_n 3, 1) := by decide +kernel
theorem d_Mo_rowsFrom_63 : decode prog_10_method_17_code 63 = .ok (.istore_n 3, 1) := by decide +kernel
theorem d_Mo_rowsFrom_64 : decode prog_10_method_17_code 64 = .ok (.iinc 4 (1), 3) := by decide +kernel
theorem d_Mo_rowsFrom_67 : decode prog_10_method_17_code 67 = .ok (.goto (-62), 3) := by decide +kernel
theorem d_Mo_rowsFrom_70 : decode prog_10_method_17_code 70 = .ok (.iload_n 3, 1) := by decide +kernel
theorem d_Mo_rowsFrom_71 : decode prog_10_method_17_code 71 = .ok (.ireturn, 1) := by decide +kernel
theorem d_Mo_scoreSteps_0 : decode prog_10_method_18_code 0 = .ok (.iconst 0, 1) := by decide +kernel
theorem d_Mo_scoreSteps_1 : decode prog_10_method_18_code 1 = .ok (.istore_n 2, 1) := by decide +kernel
theorem d_Mo_scoreSteps_2 : decode prog_10_method_18_code 2 = .ok (.aload_n 0, 1) := by decide +kernel
theorem d_Mo_scoreSteps_3 : decode prog_10_method_18_code 3 = .ok (.iload_n 1, 1) := by decide +kernel
theorem d_Mo_scoreSteps_4 : decode prog_10_method_18_code 4 = .ok (.iload_n 2, 1) := by decide +kernel
theorem d_Mo_scoreSteps_5 : decode prog_10_method_18_code 5 = .ok (.invokevirtual 119, 3) := by decide +kernel
theorem d_Mo_scoreSteps_8 : decode prog_10_method_18_code 8 = .ok (.ifCond .lt (10), 3) := by decide +kernel
theorem d_Mo_scoreSteps_11 : decode prog_10_method_18_code 11 = .ok (.iload_n 2, 1) := by decide +kernel
theorem d_Mo_scoreSteps_12 : decode prog_10_method_18_code 12 = .ok (.iconst 1, 1) := by decide +kernel
theorem d_Mo_scoreSteps_13 : decode prog_10_method_18_code 13 = .ok (.iadd, 1) := by decide +kernel
theorem d_Mo_scoreSteps_14 : decode prog_10_method_18_code 14 = .ok (.istore_n 2, 1) := by decide +kernel
theorem d_Mo_scoreSteps_15 : decode prog_10_method_18_code 15 = .ok (.goto (-13), 3) := by decide +kernel
theorem d_Mo_scoreSteps_18 : decode prog_10_method_18_code 18 = .ok (.iconst 0, 1) := by decide +kernel
theorem d_Mo_scoreSteps_19 : decode prog_10_method_18_code 19 = .ok (.istore_n 3, 1) := by decide +kernel
theorem d_Mo_scoreSteps_20 : decode prog_10_method_18_code 20 = .ok (.iload_n 3, 1) := by decide +kernel
theorem d_Mo_scoreSteps_21 : decode prog_10_method_18_code 21 = .ok (.iload_n 2, 1) := by decide +kernel
theorem d_Mo_scoreSteps_22 : decode prog_10_method_18_code 22 = .ok (.if_icmp .ge (95), 3) := by decide +kernel
theorem d_Mo_scoreSteps_25 : decode prog_10_method_18_code 25 = .ok (.aload_n 0, 1) := by decide +kernel
theorem d_Mo_scoreSteps_26 : decode prog_10_method_18_code 26 = .ok (.iload_n 1, 1) := by decide +kernel
theorem d_Mo_scoreSteps_27 : decode prog_10_method_18_code 27 = .ok (.iload_n 3, 1) := by decide +kernel
theorem d_Mo_scoreSteps_28 : decode prog_10_method_18_code 28 = .ok (.invokevirtual 119, 3) := by decide +kernel
theorem d_Mo_scoreSteps_31 : decode prog_10_method_18_code 31 = .ok (.istore 4, 2) := by decide +kernel
theorem d_Mo_scoreSteps_33 : decode prog_10_method_18_code 33 = .ok (.aload_n 0, 1) := by decide +kernel
theorem d_Mo_scoreSteps_34 : decode prog_10_method_18_code 34 = .ok (.getfield 34, 3) := by decide +kernel
theorem d_Mo_scoreSteps_37 : decode prog_10_method_18_code 37 = .ok (.iload_n 1, 1) := by decide +kernel
theorem d_Mo_scoreSteps_38 : decode prog_10_method_18_code 38 = .ok (.iaload, 1) := by decide +kernel
theorem d_Mo_scoreSteps_39 : decode prog_10_method_18_code 39 = .ok (.invokestatic 105, 3) := by decide +kernel
theorem d_Mo_scoreSteps_42 : decode prog_10_method_18_code 42 = .ok (.ifCond .ne (16), 3) := by decide +kernel
theorem d_Mo_scoreSteps_45 : decode prog_10_method_18_code 45 = .ok (.aload_n 0, 1) := by decide +kernel
theorem d_Mo_scoreSteps_46 : decode prog_10_method_18_code 46 = .ok (.getfield 34, 3) := by decide +kernel
theorem d_Mo_scoreSteps_49 : decode prog_10_method_18_code 49 = .ok (.iload 4, 2) := by decide +kernel
theorem d_Mo_scoreSteps_51 : decode prog_10_method_18_code 51 = .ok (.iaload, 1) := by decide +kernel
theorem d_Mo_scoreSteps_52 : decode prog_10_method_18_code 52 = .ok (.invokestatic 105, 3) := by decide +kernel
theorem d_Mo_scoreSteps_55 : decode prog_10_method_18_code 55 = .ok (.ifCond .eq (7), 3) := by decide +kernel
theorem d_Mo_scoreSteps_58 : decode prog_10_method_18_code 58 = .ok (.iconst 0, 1) := by decide +kernel
theorem d_Mo_scoreSteps_59 : decode prog_10_method_18_code 59 = .ok (.goto (10), 3) := by decide +kernel
theorem d_Mo_scoreSteps_62 : decode prog_10_method_18_code 62 = .ok (.aload_n 0, 1) := by decide +kernel
theorem d_Mo_scoreSteps_63 : decode prog_10_method_18_code 63 = .ok (.iload_n 1, 1) := by decide +kernel
theorem d_Mo_scoreSteps_64 : decode prog_10_method_18_code 64 = .ok (.iload 4, 2) := by decide +kernel
theorem d_Mo_scoreSteps_66 : decode prog_10_method_18_code 66 = .ok (.invokevirtual 122, 3) := by decide +kernel
theorem d_Mo_scoreSteps_69 : decode prog_10_method_18_code 69 = .ok (.istore 5, 2) := by decide +kernel
theorem d_Mo_scoreSteps_71 : decode prog_10_method_18_code 71 = .ok (.aload_n 0, 1) := by decide +kernel
theorem d_Mo_scoreSteps_72 : decode prog_10_method_18_code 72 = .ok (.getfield 40, 3) := by decide +kernel
theorem d_Mo_scoreSteps_75 : decode prog_10_method_18_code 75 = .ok (.bipush (8), 2) := by decide +kernel
theorem d_Mo_scoreSteps_77 : decode prog_10_method_18_code 77 = .ok (.iload_n 1, 1) := by decide +kernel
theorem d_Mo_scoreSteps_78 : decode prog_10_method_18_code 78 = .ok (.imul, 1) := by decide +kernel
theorem d_Mo_scoreSteps_79 : decode prog_10_method_18_code 79 = .ok (.iload_n 3, 1) := by decide +kernel
theorem d_Mo_scoreSteps_80 : decode prog_10_method_18_code 80 = .ok (.iadd, 1) := by decide +kernel
theorem d_Mo_scoreSteps_81 : decode prog_10_method_18_code 81 = .ok (.aload_n 0, 1) := by decide +kernel
theorem d_Mo_scoreSteps_82 : decode prog_10_method_18_code 82 = .ok (.getfield 34, 3) := by decide +kernel
theorem d_Mo_scoreSteps_85 : decode prog_10_method_18_code 85 = .ok (.iload_n 1, 1) := by decide +kernel
theorem d_Mo_scoreSteps_86 : decode prog_10_method_18_code 86 = .ok (.iaload, 1) := by decide +kernel
theorem d_Mo_scoreSteps_87 : decode prog_10_method_18_code 87 = .ok (.bipush (7), 2) := by decide +kernel
theorem d_Mo_scoreSteps_89 : decode prog_10_method_18_code 89 = .ok (.if_icmp .ne (7), 3) := by decide +kernel
theorem d_Mo_scoreSteps_92 : decode prog_10_method_18_code 92 = .ok (.iconst 0, 1) := by decide +kernel
theorem d_Mo_scoreSteps_93 : decode prog_10_method_18_code 93 = .ok (.goto (17), 3) := by decide +kernel
theorem d_Mo_scoreSteps_96 : decode prog_10_method_18_code 96 = .ok (.iload 5, 2) := by decide +kernel
theorem d_Mo_scoreSteps_98 : decode prog_10_method_18_code 98 = .ok (.iconst 1, 1) := by decide +kernel
theorem d_Mo_scoreSteps_99 : decode prog_10_method_18_code 99 = .ok (.iadd, 1) := by decide +kernel
theorem d_Mo_scoreSteps_100 : decode prog_10_method_18_code 100 = .ok (.aload_n 0, 1) := by decide +kernel
theorem d_Mo_scoreSteps_101 : decode prog_10_method_18_code 101 = .ok (.iload_n 1, 1) := by decide +kernel
theorem d_Mo_scoreSteps_102 : decode prog_10_method_18_code 102 = .ok (.invokevirtual 125, 3) := by decide +kernel
theorem d_Mo_scoreSteps_105 : decode prog_10_method_18_code 105 = .ok (.iload_n 2, 1) := by decide +kernel
theorem d_Mo_scoreSteps_106 : decode prog_10_method_18_code 106 = .ok (.iadd, 1) := by decide +kernel
theorem d_Mo_scoreSteps_107 : decode prog_10_method_18_code 107 = .ok (.invokestatic 129, 3) := by decide +kernel
theorem d_Mo_scoreSteps_110 : decode prog_10_method_18_code 110 = .ok (.iastore, 1) := by decide +kernel
theorem d_Mo_scoreSteps_111 : decode prog_10_method_18_code 111 = .ok (.iinc 3 (1), 3) := by decide +kernel
theorem d_Mo_scoreSteps_114 : decode prog_10_method_18_code 114 = .ok (.goto (-94), 3) := by decide +kernel
theorem d_Mo_scoreSteps_117 : decode prog_10_method_18_code 117 = .ok (.return_, 1) := by decide +kernel
theorem d_Mo_scoreLetters_0 : decode prog_10_method_19_code 0 = .ok (.aload_n 0, 1) := by decide +kernel
theorem d_Mo_scoreLetters_1 : decode prog_10_method_19_code 1 = .ok (.getfield 37, 3) := by decide +kernel
theorem d_Mo_scoreLetters_4 : decode prog_10_method_19_code 4 = .ok (.iload_n 1, 1) := by decide +kernel
theorem d_Mo_scoreLetters_5 : decode prog_10_method_19_code 5 = .ok (.iaload, 1) := by decide +kernel
theorem d_Mo_scoreLetters_6 : decode prog_10_method_19_code 6 = .ok (.istore_n 2, 1) := by decide +kernel
theorem d_Mo_scoreLetters_7 : decode prog_10_method_19_code 7 = .ok (.aload_n 0, 1) := by decide +kernel
theorem d_Mo_scoreLetters_8 : decode prog_10_method_19_code 8 = .ok (.getfield 34, 3) := by decide +kernel
theorem d_Mo_scoreLetters_11 : decode prog_10_method_19_code 11 = .ok (.iload_n 1, 1) := by decide +kernel
theorem d_Mo_scoreLetters_12 : decode prog_10_method_19_code 12 = .ok (.iaload, 1) := by decide +kernel
theorem d_Mo_scoreLetters_13 : decode prog_10_method_19_code 13 = .ok (.istore_n 3, 1) := by decide +kernel
theorem d_Mo_scoreLetters_14 : decode prog_10_method_19_code 14 = .ok (.iconst 0, 1) := by decide +kernel
theorem d_Mo_scoreLetters_15 : decode prog_10_method_19_code 15 = .ok (.istore 4, 2) := by decide +kernel
theorem d_Mo_scoreLetters_17 : decode prog_10_method_19_code 17 = .ok (.iload 4, 2) := by decide +kernel
theorem d_Mo_scoreLetters_19 : decode prog_10_method_19_code 19 = .ok (.iconst 4, 1) := by decide +kernel
theorem d_Mo_scoreLetters_20 : decode prog_10_method_19_code 20 = .ok (.if_icmp .ge (229), 3) := by decide +kernel
theorem d_Mo_scoreLetters_23 : decode prog_10_method_19_code 23 = .ok (.iconst 0, 1) := by decide +kernel
theorem d_Mo_scoreLetters_24 : decode prog_10_method_19_code 24 = .ok (.istore 5, 2) := by decide +kernel
theorem d_Mo_scoreLetters_26 : decode prog_10_method_19_code 26 = .ok (.iload 5, 2) := by decide +kernel
theorem d_Mo_scoreLetters_28 : decode prog_10_method_19_code 28 = .ok (.iconst 4, 1) := by decide +kernel
theorem d_Mo_scoreLetters_29 : decode prog_10_method_19_code 29 = .ok (.if_icmp .ge (214), 3) := by decide +kernel
theorem d_Mo_scoreLetters_32 : decode prog_10_method_19_code 32 = .ok (.iconst 0, 1) := by decide +kernel
theorem d_Mo_scoreLetters_33 : decode prog_10_method_19_code 33 = .ok (.istore 6, 2) := by decide +kernel
theorem d_Mo_scoreLetters_35 : decode prog_10_method_19_code 35 = .ok (.iconst 0, 1) := by decide +kernel
theorem d_Mo_scoreLetters_36 : decode prog_10_method_19_code 36 = .ok (.istore 7, 2) := by decide +kernel
theorem d_Mo_scoreLetters_38 : decode prog_10_method_19_code 38 = .ok (.iload 7, 2) := by decide +kernel
theorem d_Mo_scoreLetters_40 : decode prog_10_method_19_code 40 = .ok (.aload_n 0, 1) := by decide +kernel
theorem d_Mo_scoreLetters_41 : decode prog_10_method_19_code 41 = .ok (.getfield 70, 3) := by decide +kernel
theorem d_Mo_scoreLetters_44 : decode prog_10_method_19_code 44 = .ok (.if_icmp .ge (123), 3) := by decide +kernel
theorem d_Mo_scoreLetters_47 : decode prog_10_method_19_code 47 = .ok (.aload_n 0, 1) := by decide +kernel
theorem d_Mo_scoreLetters_48 : decode prog_10_method_19_code 48 = .ok (.getfield 13, 3) := by decide +kernel
theorem d_Mo_scoreLetters_51 : decode prog_10_method_19_code 51 = .ok (.bipush (8), 2) := by decide +kernel
theorem d_Mo_scoreLetters_53 : decode prog_10_method_19_code 53 = .ok (.iload 7, 2) := by decide +kernel
theorem d_Mo_scoreLetters_55 : decode prog_10_method_19_code 55 = .ok (.imul, 1) := by decide +kernel
theorem d_Mo_scoreLetters_56 : decode prog_10_method_19_code 56 = .ok (.iload_n 3, 1) := by decide +kernel
theorem d_Mo_scoreLetters_57 : decode prog_10_method_19_code 57 = .ok (.iconst 3, 1) := by decide +kernel
theorem d_Mo_scoreLetters_58 : decode prog_10_method_19_code 58 = .ok (.if_icmp .ne (12), 3) := by decide +kernel
theorem d_Mo_scoreLetters_61 : decode prog_10_method_19_code 61 = .ok (.aload_n 0, 1) := by decide +kernel
theorem d_Mo_scoreLetters_62 : decode prog_10_method_19_code 62 = .ok (.getfield 25, 3) := by decide +kernel
theorem d_Mo_scoreLetters_65 : decode prog_10_method_19_code 65 = .ok (.iload_n 2, 1) := by decide +kernel
theorem d_Mo_scoreLetters_66 : decode prog_10_method_19_code 66 = .ok (.iaload, 1) := by decide +kernel
theorem d_Mo_scoreLetters_67 : decode prog_10_method_19_code 67 = .ok (.goto (9), 3) := by decide +kernel
theorem d_Mo_scoreLetters_70 : decode prog_10_method_19_code 70 = .ok (.aload_n 0, 1) := by decide +kernel
theorem d_Mo_scoreLetters_71 : decode prog_10_method_19_code 71 = .ok (.getfield 22, 3) := by decide +kernel
theorem d_Mo_scoreLetters_74 : decode prog_10_method_19_code 74 = .ok (.iload_n 2, 1) := by decide +kernel
theorem d_Mo_scoreLetters_75 : decode prog_10_method_19_code 75 = .ok (.iaload, 1) := by decide +kernel
theorem d_Mo_scoreLetters_76 : decode prog_10_method_19_code 76 = .ok (.iadd, 1) := by decide +kernel
theorem d_Mo_scoreLetters_77 : decode prog_10_method_19_code 77 = .ok (.iaload, 1) := by decide +kernel
theorem d_Mo_scoreLetters_78 : decode prog_10_method_19_code 78 = .ok (.iload 4, 2) := by decide +kernel
theorem d_Mo_scoreLetters_80 : decode prog_10_method_19_code 80 = .ok (.if_icmp .ne (7), 3) := by decide +kernel
theorem d_Mo_scoreLetters_83 : decode prog_10_method_19_code 83 = .ok (.iconst 1, 1) := by decide +kernel
theorem d_Mo_scoreLetters_84 : decode prog_10_method_19_code 84 = .ok (.goto (4), 3) := by decide +kernel
theorem d_Mo_scoreLetters_87 : decode prog_10_method_19_code 87 = .ok (.iconst 0, 1) := by decide +kernel
theorem d_Mo_scoreLetters_88 : decode prog_10_method_19_code 88 = .ok (.istore 8, 2) := by decide +kernel
theorem d_Mo_scoreLetters_90 : decode prog_10_method_19_code 90 = .ok (.iload_n 3, 1) := by decide +kernel
theorem d_Mo_scoreLetters_91 : decode prog_10_method_19_code 91 = .ok (.iconst 1, 1) := by decide +kernel
theorem d_Mo_scoreLetters_92 : decode prog_10_method_19_code 92 = .ok (.if_icmp .ne (38), 3) := by decide +kernel
theorem d_Mo_scoreLetters_95 : decode prog_10_method_19_code 95 = .ok (.iload 8, 2) := by decide +kernel
theorem d_Mo_scoreLetters_97 : decode prog_10_method_19_code 97 = .ok (.ifCond .eq (29), 3) := by decide +kernel
theorem d_Mo_scoreLetters_100 : decode prog_10_method_19_code 100 = .ok (.aload_n 0, 1) := by decide +kernel
theorem d_Mo_scoreLetters_101 : decode prog_10_method_19_code 101 = .ok (.getfield 13, 3) := by decide +kernel
theorem d_Mo_scoreLetters_104 : decode prog_10_method_19_code 104 = .ok (.bipush (8), 2) := by decide +kernel
theorem d_Mo_scoreLetters_106 : decode prog_10_method_19_code 106 = .ok (.iload 7, 2) := by decide +kernel
theorem d_Mo_scoreLetters_108 : decode prog_10_method_19_code 108 = .ok (.imul, 1) := by decide +kernel
theorem d_Mo_scoreLetters_109 : decode prog_10_method_19_code 109 = .ok (.aload_n 0, 1) := by decide +kernel
theorem d_Mo_scoreLetters_110 : decode prog_10_method_19_code 110 = .ok (.getfield 25, 3) := by decide +kernel
theorem d_Mo_scoreLetters_113 : decode prog_10_method_19_code 113 = .ok (.iload_n 2, 1) := by decide +kernel
theorem d_Mo_scoreLetters_114 : decode prog_10_method_19_code 114 = .ok (.iaload, 1) := by decide +kernel
theorem d_Mo_scoreLetters_115 : decode prog_10_method_19_code 115 = .ok (.iadd, 1) := by decide +kernel
theorem d_Mo_scoreLetters_116 : decode prog_10_method_19_code 116 = .ok (.iaload, 1) := by decide +kernel
theorem d_Mo_scoreLetters_117 : decode prog_10_method_19_code 117 = .ok (.iload 5, 2) := by decide +kernel
theorem d_Mo_scoreLetters_119 : decode prog_10_method_19_code 119 = .ok (.if_icmp .ne (7), 3) := by decide +kernel
theorem d_Mo_scoreLetters_122 : decode prog_10_method_19_code 122 = .ok (.iconst 1, 1) := by decide +kernel
theorem d_Mo_scoreLetters_123 : decode prog_10_method_19_code 123 = .ok (.goto (9), 3) := by decide +kernel
theorem d_Mo_scoreLetters_126 : decode prog_10_method_19_code 126 = .ok (.iconst 0, 1) := by decide +kernel
theorem d_Mo_scoreLetters_127 : decode prog_10_method_19_code 127 = .ok (.goto (5), 3) := by decide +kernel
theorem d_Mo_scoreLetters_130 : decode prog_10_method_19_code 130 = .ok (.iload 8, 2) := by decide +kernel
theorem d_Mo_scoreLetters_132 : decode prog_10_method_19_code 132 = .ok (.istore 9, 2) := by decide +kernel
theorem d_Mo_scoreLetters_134 : decode prog_10_method_19_code 134 = .ok (.iload 9, 2) := by decide +kernel
theorem d_Mo_scoreLetters_136 : decode prog_10_method_19_code 136 = .ok (.ifCond .eq (21), 3) := by decide +kernel
theorem d_Mo_scoreLetters_139 : decode prog_10_method_19_code 139 = .ok (.aload_n 0, 1) := by decide +kernel
theorem d_Mo_scoreLetters_140 : decode prog_10_method_19_code 140 = .ok (.iload 7, 2) := by decide +kernel
theorem d_Mo_scoreLetters_142 : decode prog_10_method_19_code 142 = .ok (.iload_n 2, 1) := by decide +kernel
theorem d_Mo_scoreLetters_143 : decode prog_10_method_19_code 143 = .ok (.invokevirtual 115, 3) := by decide +kernel
theorem d_Mo_scoreLetters_146 : decode prog_10_method_19_code 146 = .ok (.iload_n 3, 1) := by decide +kernel
theorem d_Mo_scoreLetters_147 : decode prog_10_method_19_code 147 = .ok (.if_icmp .ne (10), 3) := by decide +kernel
theorem d_Mo_scoreLetters_150 : decode prog_10_method_19_code 150 = .ok (.iload 6, 2) := by decide +kernel
theorem d_Mo_scoreLetters_152 : decode prog_10_method_19_code 152 = .ok (.iconst 1, 1) := by decide +kernel
theorem d_Mo_scoreLetters_153 : decode prog_10_method_19_code 153 = .ok (.iadd, 1) := by decide +kernel
theorem d_Mo_scoreLetters_154 : decode prog_10_method_19_code 154 = .ok (.goto (5), 3) := by decide +kernel
theorem d_Mo_scoreLetters_157 : decode prog_10_method_19_code 157 = .ok (.iload 6, 2) := by decide +kernel
theorem d_Mo_scoreLetters_159 : decode prog_10_method_19_code 159 = .ok (.istore 6, 2) := by decide +kernel
theorem d_Mo_scoreLetters_161 : decode prog_10_method_19_code 161 = .ok (.iinc 7 (1), 3) := by decide +kernel
theorem d_Mo_scoreLetters_164 : decode prog_10_method_19_code 164 = .ok (.goto (-126), 3) := by decide +kernel
theorem d_Mo_scoreLetters_167 : decode prog_10_method_19_code 167 = .ok (.aload_n 0, 1) := by decide +kernel
theorem d_Mo_scoreLetters_168 : decode prog_10_method_19_code 168 = .ok (.getfield 43, 3) := by decide +kernel
theorem d_Mo_scoreLetters_171 : decode prog_10_method_19_code 171 = .ok (.bipush (16), 2) := by decide +kernel
theorem d_Mo_scoreLetters_173 : decode prog_10_method_19_code 173 = .ok (.iload_n 1, 1) := by decide +kernel
theorem d_Mo_scoreLetters_174 : decode prog_10_method_19_code 174 = .ok (.imul, 1) := by decide +kernel
theorem d_Mo_scoreLetters_175 : decode prog_10_method_19_code 175 = .ok (.iconst 4, 1) := by decide +kernel
theorem d_Mo_scoreLetters_176 : decode prog_10_method_19_code 176 = .ok (.iload 4, 2) := by decide +kernel
theorem d_Mo_scoreLetters_178 : decode prog_10_method_19_code 178 = .ok (.imul, 1) := by decide +kernel
theorem d_Mo_scoreLetters_179 : decode prog_10_method_19_code 179 = .ok (.iadd, 1) := by decide +kernel
theorem d_Mo_scoreLetters_180 : decode prog_10_method_19_code 180 = .ok (.iload 5, 2) := by decide +kernel
theorem d_Mo_scoreLetters_182 : decode prog_10_method_19_code 182 = .ok (.iadd, 1) := by decide +kernel
theorem d_Mo_scoreLetters_183 : decode prog_10_method_19_code 183 = .ok (.iload_n 3, 1) := by decide +kernel
theorem d_Mo_scoreLetters_184 : decode prog_10_method_19_code 184 = .ok (.invokestatic 105, 3) := by decide +kernel
theorem d_Mo_scoreLetters_187 : decode prog_10_method_19_code 187 = .ok (.ifCond .eq (7), 3) := by decide +kernel
theorem d_Mo_scoreLetters_190 : decode prog_10_method_19_code 190 = .ok (.iconst 0, 1) := by decide +kernel
theorem d_Mo_scoreLetters_191 : decode prog_10_method_19_code 191 = .ok (.goto (45), 3) := by decide +kernel
theorem d_Mo_scoreLetters_194 : decode prog_10_method_19_code 194 = .ok (.iload_n 3, 1) := by decide +kernel
theorem d_Mo_scoreLetters_195 : decode prog_10_method_19_code 195 = .ok (.iconst 1, 1) := by decide +kernel
theorem d_Mo_scoreLetters_196 : decode prog_10_method_19_code 196 = .ok (.if_icmp .ne (24), 3) := by decide +kernel
theorem d_Mo_scoreLetters_199 : decode prog_10_method_19_code 199 = .ok (.bipush (16), 2) := by decide +kernel
theorem d_Mo_scoreLetters_201 : decode prog_10_method_19_code 201 = .ok (.iload 6, 2) := by decide +kernel
theorem d_Mo_scoreLetters_203 : decode prog_10_method_19_code 203 = .ok (.iconst 1, 1) := by decide +kernel
theorem d_Mo_scoreLetters_204 : decode prog_10_method_19_code 204 = .ok (.iadd, 1) := by decide +kernel
theorem d_Mo_scoreLetters_205 : decode prog_10_method_19_code 205 = .ok (.imul, 1) := by decide +kernel
theorem d_Mo_scoreLetters_206 : decode prog_10_method_19_code 206 = .ok (.aload_n 0, 1) := by decide +kernel
theorem d_Mo_scoreLetters_207 : decode prog_10_method_19_code 207 = .ok (.iload_n 1, 1) := by decide +kernel
theorem d_Mo_scoreLetters_208 : decode prog_10_method_19_code 208 = .ok (.invokevirtual 125, 3) := by decide +kernel
theorem d_Mo_scoreLetters_211 : decode prog_10_method_19_code 211 = .ok (.bipush (16), 2) := by decide +kernel
theorem d_Mo_scoreLetters_213 : decode prog_10_method_19_code 213 = .ok (.iadd, 1) := by decide +kernel
theorem d_Mo_scoreLetters_214 : decode prog_10_method_19_code 214 = .ok (.invokestatic 129, 3) := by decide +kernel
theorem d_Mo_scoreLetters_217 : decode prog_10_method_19_code 217 = .ok (.goto (19), 3) := by decide +kernel
theorem d_Mo_scoreLetters_220 : decode prog_10_method_19_code 220 = .ok (.iconst 4, 1) := by decide +kernel
theorem d_Mo_scoreLetters_221 : decode prog_10_method_19_code 221 = .ok (.iload 6, 2) := by decide +kernel
theorem d_Mo_scoreLetters_223 : decode prog_10_method_19_code 223 = .ok (.iconst 1, 1) := by decide +kernel
theorem d_Mo_scoreLetters_224 : decode prog_10_method_19_code 224 = .ok (.iadd, 1) := by decide +kernel
theorem d_Mo_scoreLetters_225 : decode prog_10_method_19_code 225 = .ok (.imul, 1) := by decide +kernel
theorem d_Mo_scoreLetters_226 : decode prog_10_method_19_code 226 = .ok (.aload_n 0, 1) := by decide +kernel
theorem d_Mo_scoreLetters_227 : decode prog_10_method_19_code 227 = .ok (.iload_n 1, 1) := by decide +kernel
theorem d_Mo_scoreLetters_228 : decode prog_10_method_19_code 228 = .ok (.invokevirtual 125, 3) := by decide +kernel
theorem d_Mo_scoreLetters_231 : decode prog_10_method_19_code 231 = .ok (.iconst 4, 1) := by decide +kernel
theorem d_Mo_scoreLetters_232 : decode prog_10_method_19_code 232 = .ok (.iadd, 1) := by decide +kernel
theorem d_Mo_scoreLetters_233 : decode prog_10_method_19_code 233 = .ok (.invokestatic 129, 3) := by decide +kernel
theorem d_Mo_scoreLetters_236 : decode prog_10_method_19_code 236 = .ok (.iastore, 1) := by decide +kernel
theorem d_Mo_scoreLetters_237 : decode prog_10_method_19_code 237 = .ok (.iinc 5 (1), 3) := by decide +kernel
theorem d_Mo_scoreLetters_240 : decode prog_10_method_19_code 240 = .ok (.goto (-214), 3) := by decide +kernel
theorem d_Mo_scoreLetters_243 : decode prog_10_method_19_code 243 = .ok (.iinc 4 (1), 3) := by decide +kernel
theorem d_Mo_scoreLetters_246 : decode prog_10_method_19_code 246 = .ok (.goto (-229), 3) := by decide +kernel
theorem d_Mo_scoreLetters_249 : decode prog_10_method_19_code 249 = .ok (.return_, 1) := by decide +kernel
theorem d_Mo_build_0 : decode prog_10_method_20_code 0 = .ok (.aload_n 0, 1) := by decide +kernel
theorem d_Mo_build_1 : decode prog_10_method_20_code 1 = .ok (.invokevirtual 132, 3) := by decide +kernel
theorem d_Mo_build_4 : decode prog_10_method_20_code 4 = .ok (.ifCond .ne (6), 3) := by decide +kernel
theorem d_Mo_build_7 : decode prog_10_method_20_code 7 = .ok (.ldc 136, 2) := by decide +kernel
theorem d_Mo_build_9 : decode prog_10_method_20_code 9 = .ok (.ireturn, 1) := by decide +kernel
theorem d_Mo_build_10 : decode prog_10_method_20_code 10 = .ok (.aload_n 0, 1) := by decide +kernel
theorem d_Mo_build_11 : decode prog_10_method_20_code 11 = .ok (.invokevirtual 137, 3) := by decide +kernel
theorem d_Mo_build_14 : decode prog_10_method_20_code 14 = .ok (.aload_n 0, 1) := by decide +kernel
theorem d_Mo_build_15 : decode prog_10_method_20_code 15 = .ok (.invokevirtual 140, 3) := by decide +kernel
theorem d_Mo_build_18 : decode prog_10_method_20_code 18 = .ok (.iconst 0, 1) := by decide +kernel
theorem d_Mo_build_19 : decode prog_10_method_20_code 19 = .ok (.istore_n 1, 1) := by decide +kernel
theorem d_Mo_build_20 : decode prog_10_method_20_code 20 = .ok (.iload_n 1, 1) := by decide +kernel
theorem d_Mo_build_21 : decode prog_10_method_20_code 21 = .ok (.aload_n 0, 1) := by decide +kernel
theorem d_Mo_build_22 : decode prog_10_method_20_code 22 = .ok (.getfield 98, 3) := by decide +kernel
theorem d_Mo_build_25 : decode prog_10_method_20_code 25 = .ok (.if_icmp .ge (60), 3) := by decide +kernel
theorem d_Mo_build_28 : decode prog_10_method_20_code 28 = .ok (.aload_n 0, 1) := by decide +kernel
theorem d_Mo_build_29 : decode prog_10_method_20_code 29 = .ok (.iload_n 1, 1) := by decide +kernel
theorem d_Mo_build_30 : decode prog_10_method_20_code 30 = .ok (.invokevirtual 143, 3) := by decide +kernel
theorem d_Mo_build_33 : decode prog_10_method_20_code 33 = .ok (.aload_n 0, 1) := by decide +kernel
theorem d_Mo_build_34 : decode prog_10_method_20_code 34 = .ok (.getfield 34, 3) := by decide +kernel
theorem d_Mo_build_37 : decode prog_10_method_20_code 37 = .ok (.iload_n 1, 1) := by decide +kernel
theorem d_Mo_build_38 : decode prog_10_method_20_code 38 = .ok (.iaload, 1) := by decide +kernel
theorem d_Mo_build_39 : decode prog_10_method_20_code 39 = .ok (.ifCond .eq (40), 3) := by decide +kernel
theorem d_Mo_build_42 : decode prog_10_method_20_code 42 = .ok (.aload_n 0, 1) := by decide +kernel
theorem d_Mo_build_43 : decode prog_10_method_20_code 43 = .ok (.getfield 34, 3) := by decide +kernel
theorem d_Mo_build_46 : decode prog_10_method_20_code 46 = .ok (.iload_n 1, 1) := by decide +kernel
theorem d_Mo_build_47 : decode prog_10_method_20_code 47 = .ok (.iaload, 1) := by decide +kernel
theorem d_Mo_build_48 : decode prog_10_method_20_code 48 = .ok (.iconst 4, 1) := by decide +kernel
theorem d_Mo_build_49 : decode prog_10_method_20_code 49 = .ok (.if_icmp .eq (30), 3) := by decide +kernel
theorem d_Mo_build_52 : decode prog_10_method_20_code 52 = .ok (.aload_n 0, 1) := by decide +kernel
theorem d_Mo_build_53 : decode prog_10_method_20_code 53 = .ok (.getfield 34, 3) := by decide +kernel
theorem d_Mo_build_56 : decode prog_10_method_20_code 56 = .ok (.iload_n 1, 1) := by decide +kernel
theorem d_Mo_build_57 : decode prog_10_method_20_code 57 = .ok (.iaload, 1) := by decide +kernel
theorem d_Mo_build_58 : decode prog_10_method_20_code 58 = .ok (.bipush (7), 2) := by decide +kernel
theorem d_Mo_build_60 : decode prog_10_method_20_code 60 = .ok (.if_icmp .eq (19), 3) := by decide +kernel
theorem d_Mo_build_63 : decode prog_10_method_20_code 63 = .ok (.aload_n 0, 1) := by decide +kernel
theorem d_Mo_build_64 : decode prog_10_method_20_code 64 = .ok (.getfield 34, 3) := by decide +kernel
theorem d_Mo_build_67 : decode prog_10_method_20_code 67 = .ok (.iload_n 1, 1) := by decide +kernel
theorem d_Mo_build_68 : decode prog_10_method_20_code 68 = .ok (.iaload, 1) := by decide +kernel
theorem d_Mo_build_69 : decode prog_10_method_20_code 69 = .ok (.bipush (8), 2) := by decide +kernel
theorem d_Mo_build_71 : decode prog_10_method_20_code 71 = .ok (.if_icmp .eq (8), 3) := by decide +kernel
theorem d_Mo_build_74 : decode prog_10_method_20_code 74 = .ok (.aload_n 0, 1) := by decide +kernel
theorem d_Mo_build_75 : decode prog_10_method_20_code 75 = .ok (.iload_n 1, 1) := by decide +kernel
theorem d_Mo_build_76 : decode prog_10_method_20_code 76 = .ok (.invokevirtual 147, 3) := by decide +kernel
theorem d_Mo_build_79 : decode prog_10_method_20_code 79 = .ok (.iinc 1 (1), 3) := by decide +kernel
theorem d_Mo_build_82 : decode prog_10_method_20_code 82 = .ok (.goto (-62), 3) := by decide +kernel
theorem d_Mo_build_85 : decode prog_10_method_20_code 85 = .ok (.aload_n 0, 1) := by decide +kernel
theorem d_Mo_build_86 : decode prog_10_method_20_code 86 = .ok (.iconst 1, 1) := by decide +kernel
theorem d_Mo_build_87 : decode prog_10_method_20_code 87 = .ok (.putfield 74, 3) := by decide +kernel
theorem d_Mo_build_90 : decode prog_10_method_20_code 90 = .ok (.aload_n 0, 1) := by decide +kernel
theorem d_Mo_build_91 : decode prog_10_method_20_code 91 = .ok (.iconst 0, 1) := by decide +kernel
theorem d_Mo_build_92 : decode prog_10_method_20_code 92 = .ok (.putfield 150, 3) := by decide +kernel
theorem d_Mo_build_95 : decode prog_10_method_20_code 95 = .ok (.aload_n 0, 1) := by decide +kernel
theorem d_Mo_build_96 : decode prog_10_method_20_code 96 = .ok (.iconst 0, 1) := by decide +kernel
theorem d_Mo_build_97 : decode prog_10_method_20_code 97 = .ok (.putfield 78, 3) := by decide +kernel
theorem d_Mo_build_100 : decode prog_10_method_20_code 100 = .ok (.aload_n 0, 1) := by decide +kernel
theorem d_Mo_build_101 : decode prog_10_method_20_code 101 = .ok (.getfield 98, 3) := by decide +kernel
theorem d_Mo_build_104 : decode prog_10_method_20_code 104 = .ok (.ireturn, 1) := by decide +kernel
theorem d_Mo_isState_0 : decode prog_10_method_21_code 0 = .ok (.aload_n 0, 1) := by decide +kernel
theorem d_Mo_isState_1 : decode prog_10_method_21_code 1 = .ok (.getfield 74, 3) := by decide +kernel
theorem d_Mo_isState_4 : decode prog_10_method_21_code 4 = .ok (.ifCond .eq (19), 3) := by decide +kernel
theorem d_Mo_isState_7 : decode prog_10_method_21_code 7 = .ok (.iload_n 1, 1) := by decide +kernel
theorem d_Mo_isState_8 : decode prog_10_method_21_code 8 = .ok (.ifCond .lt (15), 3) := by decide +kernel
theorem d_Mo_isState_11 : decode prog_10_method_21_code 11 = .ok (.iload_n 1, 1) := by decide +kernel
theorem d_Mo_isState_12 : decode prog_10_method_21_code 12 = .ok (.aload_n 0, 1) := by decide +kernel
theorem d_Mo_isState_13 : decode prog_10_method_21_code 13 = .ok (.getfield 98, 3) := by decide +kernel
theorem d_Mo_isState_16 : decode prog_10_method_21_code 16 = .ok (.if_icmp .ge (7), 3) := by decide +kernel
theorem d_Mo_isState_19 : decode prog_10_method_21_code 19 = .ok (.iconst 1, 1) := by decide +kernel
theorem d_Mo_isState_20 : decode prog_10_method_21_code 20 = .ok (.goto (4), 3) := by decide +kernel
theorem d_Mo_isState_23 : decode prog_10_method_21_code 23 = .ok (.iconst 0, 1) := by decide +kernel
theorem d_Mo_isState_24 : decode prog_10_method_21_code 24 = .ok (.ireturn, 1) := by decide +kernel
theorem d_Mo_kind_0 : decode prog_10_method_22_code 0 = .ok (.aload_n 0, 1) := by decide +kernel
theorem d_Mo_kind_1 : decode prog_10_method_22_code 1 = .ok (.iload_n 1, 1) := by decide +kernel
theorem d_Mo_kind_2 : decode prog_10_method_22_code 2 = .ok (.invokevirtual 153, 3) := by decide +kernel
theorem d_Mo_kind_5 : decode prog_10_method_22_code 5 = .ok (.ifCond .eq (12), 3) := by decide +kernel
theorem d_Mo_kind_8 : decode prog_10_method_22_code 8 = .ok (.aload_n 0, 1) := by decide +kernel
theorem d_Mo_kind_9 : decode prog_10_method_22_code 9 = .ok (.getfield 34, 3) := by decide +kernel
theorem d_Mo_kind_12 : decode prog_10_method_22_code 12 = .ok (.iload_n 1, 1) := by decide +kernel
theorem d_Mo_kind_13 : decode prog_10_method_22_code 13 = .ok (.iaload, 1) := by decide +kernel
theorem d_Mo_kind_14 : decode prog_10_method_22_code 14 = .ok (.goto (5), 3) := by decide +kernel
theorem d_Mo_kind_17 : decode prog_10_method_22_code 17 = .ok (.ldc 136, 2) := by decide +kernel
theorem d_Mo_kind_19 : decode prog_10_method_22_code 19 = .ok (.ireturn, 1) := by decide +kernel
theorem d_Mo_node1_0 : decode prog_10_method_23_code 0 = .ok (.aload_n 0, 1) := by decide +kernel
theorem d_Mo_node1_1 : decode prog_10_method_23_code 1 = .ok (.iload_n 1, 1) := by decide +kernel
theorem d_Mo_node1_2 : decode prog_10_method_23_code 2 = .ok (.invokevirtual 153, 3) := by decide +kernel
theorem d_Mo_node1_5 : decode prog_10_method_23_code 5 = .ok (.ifCond .eq (12), 3) := by decide +kernel
theorem d_Mo_node1_8 : decode prog_10_method_23_code 8 = .ok (.aload_n 0, 1) := by decide +kernel
theorem d_Mo_node1_9 : decode prog_10_method_23_code 9 = .ok (.getfield 37, 3) := by decide +kernel
theorem d_Mo_node1_12 : decode prog_10_method_23_code 12 = .ok (.iload_n 1, 1) := by decide +kernel
theorem d_Mo_node1_13 : decode prog_10_method_23_code 13 = .ok (.iaload, 1) := by decide +kernel
theorem d_Mo_node1_14 : decode prog_10_method_23_code 14 = .ok (.goto (5), 3) := by decide +kernel
theorem d_Mo_node1_17 : decode prog_10_method_23_code 17 = .ok (.ldc 136, 2) := by decide +kernel
theorem d_Mo_node1_19 : decode prog_10_method_23_code 19 = .ok (.ireturn, 1) := by decide +kernel
theorem d_Mo_target_0 : decode prog_10_method_24_code 0 = .ok (.aload_n 0, 1) := by decide +kernel
theorem d_Mo_target_1 : decode prog_10_method_24_code 1 = .ok (.iload_n 1, 1) := by decide +kernel
theorem d_Mo_target_2 : decode prog_10_method_24_code 2 = .ok (.invokevirtual 153, 3) := by decide +kernel
theorem d_Mo_target_5 : decode prog_10_method_24_code 5 = .ok (.ifCond .eq (12), 3) := by decide +kernel
theorem d_Mo_target_8 : decode prog_10_method_24_code 8 = .ok (.aload_n 0, 1) := by decide +kernel
theorem d_Mo_target_9 : decode prog_10_method_24_code 9 = .ok (.iload_n 1, 1) := by decide +kernel
theorem d_Mo_target_10 : decode prog_10_method_24_code 10 = .ok (.iload_n 2, 1) := by decide +kernel
theorem d_Mo_target_11 : decode prog_10_method_24_code 11 = .ok (.invokevirtual 119, 3) := by decide +kernel
theorem d_Mo_target_14 : decode prog_10_method_24_code 14 = .ok (.goto (4), 3) := by decide +kernel
theorem d_Mo_target_17 : decode prog_10_method_24_code 17 = .ok (.iconst (-1), 1) := by decide +kernel
theorem d_Mo_target_18 : decode prog_10_method_24_code 18 = .ok (.istore_n 3, 1) := by decide +kernel
theorem d_Mo_target_19 : decode prog_10_method_24_code 19 = .ok (.iload_n 3, 1) := by decide +kernel
theorem d_Mo_target_20 : decode prog_10_method_24_code 20 = .ok (.ifCond .ge (8), 3) := by decide +kernel
theorem d_Mo_target_23 : decode prog_10_method_24_code 23 = .ok (.ldc 136, 2) := by decide +kernel
theorem d_Mo_target_25 : decode prog_10_method_24_code 25 = .ok (.goto (4), 3) := by decide +kernel
theorem d_Mo_target_28 : decode prog_10_method_24_code 28 = .ok (.iload_n 3, 1) := by decide +kernel
theorem d_Mo_target_29 : decode prog_10_method_24_code 29 = .ok (.ireturn, 1) := by decide +kernel
theorem d_Mo_step_0 : decode prog_10_method_25_code 0 = .ok (.aload_n 0, 1) := by decide +kernel
theorem d_Mo_step_1 : decode prog_10_method_25_code 1 = .ok (.iload_n 1, 1) := by decide +kernel
theorem d_Mo_step_2 : decode prog_10_method_25_code 2 = .ok (.invokevirtual 153, 3) := by decide +kernel
theorem d_Mo_step_5 : decode prog_10_method_25_code 5 = .ok (.ifCond .eq (26), 3) := by decide +kernel
theorem d_Mo_step_8 : decode prog_10_method_25_code 8 = .ok (.aload_n 0, 1) := by decide +kernel
theorem d_Mo_step_9 : decode prog_10_method_25_code 9 = .ok (.iload_n 1, 1) := by decide +kernel
theorem d_Mo_step_10 : decode prog_10_method_25_code 10 = .ok (.iload_n 2, 1) := by decide +kernel
theorem d_Mo_step_11 : decode prog_10_method_25_code 11 = .ok (.invokevirtual 119, 3) := by decide +kernel
theorem d_Mo_step_14 : decode prog_10_method_25_code 14 = .ok (.ifCond .lt (17), 3) := by decide +kernel
theorem d_Mo_step_17 : decode prog_10_method_25_code 17 = .ok (.aload_n 0, 1) := by decide +kernel
theorem d_Mo_step_18 : decode prog_10_method_25_code 18 = .ok (.getfield 40, 3) := by decide +kernel
theorem d_Mo_step_21 : decode prog_10_method_25_code 21 = .ok (.bipush (8), 2) := by decide +kernel
theorem d_Mo_step_23 : decode prog_10_method_25_code 23 = .ok (.iload_n 1, 1) := by decide +kernel
theorem d_Mo_step_24 : decode prog_10_method_25_code 24 = .ok (.imul, 1) := by decide +kernel
theorem d_Mo_step_25 : decode prog_10_method_25_code 25 = .ok (.iload_n 2, 1) := by decide +kernel
theorem d_Mo_step_26 : decode prog_10_method_25_code 26 = .ok (.iadd, 1) := by decide +kernel
theorem d_Mo_step_27 : decode prog_10_method_25_code 27 = .ok (.iaload, 1) := by decide +kernel
theorem d_Mo_step_28 : decode prog_10_method_25_code 28 = .ok (.goto (5), 3) := by decide +kernel
theorem d_Mo_step_31 : decode prog_10_method_25_code 31 = .ok (.ldc 136, 2) := by decide +kernel
theorem d_Mo_step_33 : decode prog_10_method_25_code 33 = .ok (.ireturn, 1) := by decide +kernel
theorem d_Mo_isLetter_0 : decode prog_10_method_26_code 0 = .ok (.iload_n 0, 1) := by decide +kernel
theorem d_Mo_isLetter_1 : decode prog_10_method_26_code 1 = .ok (.ifCond .lt (12), 3) := by decide +kernel
theorem d_Mo_isLetter_4 : decode prog_10_method_26_code 4 = .ok (.iload_n 0, 1) := by decide +kernel
theorem d_Mo_isLetter_5 : decode prog_10_method_26_code 5 = .ok (.iconst 4, 1) := by decide +kernel
theorem d_Mo_isLetter_6 : decode prog_10_method_26_code 6 = .ok (.if_icmp .ge (7), 3) := by decide +kernel
theorem d_Mo_isLetter_9 : decode prog_10_method_26_code 9 = .ok (.iconst 1, 1) := by decide +kernel
theorem d_Mo_isLetter_10 : decode prog_10_method_26_code 10 = .ok (.goto (4), 3) := by decide +kernel
theorem d_Mo_isLetter_13 : decode prog_10_method_26_code 13 = .ok (.iconst 0, 1) := by decide +kernel
theorem d_Mo_isLetter_14 : decode prog_10_method_26_code 14 = .ok (.ireturn, 1) := by decide +kernel
theorem d_Mo_emits_0 : decode prog_10_method_27_code 0 = .ok (.aload_n 0, 1) := by decide +kernel
theorem d_Mo_emits_1 : decode prog_10_method_27_code 1 = .ok (.iload_n 1, 1) := by decide +kernel
theorem d_Mo_emits_2 : decode prog_10_method_27_code 2 = .ok (.invokevirtual 153, 3) := by decide +kernel
theorem d_Mo_emits_5 : decode prog_10_method_27_code 5 = .ok (.ifCond .eq (10), 3) := by decide +kernel
theorem d_Mo_emits_8 : decode prog_10_method_27_code 8 = .ok (.iload_n 2, 1) := by decide +kernel
theorem d_Mo_emits_9 : decode prog_10_method_27_code 9 = .ok (.invokestatic 156, 3) := by decide +kernel
theorem d_Mo_emits_12 : decode prog_10_method_27_code 12 = .ok (.ifCond .ne (6), 3) := by decide +kernel
theorem d_Mo_emits_15 : decode prog_10_method_27_code 15 = .ok (.ldc 136, 2) := by decide +kernel
theorem d_Mo_emits_17 : decode prog_10_method_27_code 17 = .ok (.ireturn, 1) := by decide +kernel
theorem d_Mo_emits_18 : decode prog_10_method_27_code 18 = .ok (.aload_n 0, 1) := by decide +kernel
theorem d_Mo_emits_19 : decode prog_10_method_27_code 19 = .ok (.getfield 34, 3) := by decide +kernel
theorem d_Mo_emits_22 : decode prog_10_method_27_code 22 = .ok (.iload_n 1, 1) := by decide +kernel
theorem d_Mo_emits_23 : decode prog_10_method_27_code 23 = .ok (.iaload, 1) := by decide +kernel
theorem d_Mo_emits_24 : decode prog_10_method_27_code 24 = .ok (.istore 4, 2) := by decide +kernel
theorem d_Mo_emits_26 : decode prog_10_method_27_code 26 = .ok (.iload 4, 2) := by decide +kernel
theorem d_Mo_emits_28 : decode prog_10_method_27_code 28 = .ok (.ifCond .eq (36), 3) := by decide +kernel
theorem d_Mo_emits_31 : decode prog_10_method_27_code 31 = .ok (.iload 4, 2) := by decide +kernel
theorem d_Mo_emits_33 : decode prog_10_method_27_code 33 = .ok (.iconst 4, 1) := by decide +kernel
theorem d_Mo_emits_34 : decode prog_10_method_27_code 34 = .ok (.if_icmp .eq (30), 3) := by decide +kernel
theorem d_Mo_emits_37 : decode prog_10_method_27_code 37 = .ok (.iload 4, 2) := by decide +kernel
theorem d_Mo_emits_39 : decode prog_10_method_27_code 39 = .ok (.bipush (7), 2) := by decide +kernel
theorem d_Mo_emits_41 : decode prog_10_method_27_code 41 = .ok (.if_icmp .eq (23), 3) := by decide +kernel
theorem d_Mo_emits_44 : decode prog_10_method_27_code 44 = .ok (.iload 4, 2) := by decide +kernel
theorem d_Mo_emits_46 : decode prog_10_method_27_code 46 = .ok (.bipush (8), 2) := by decide +kernel
theorem d_Mo_emits_48 : decode prog_10_method_27_code 48 = .ok (.if_icmp .eq (16), 3) := by decide +kernel
theorem d_Mo_emits_51 : decode prog_10_method_27_code 51 = .ok (.iload 4, 2) := by decide +kernel
theorem d_Mo_emits_53 : decode prog_10_method_27_code 53 = .ok (.iconst 1, 1) := by decide +kernel
theorem d_Mo_emits_54 : decode prog_10_method_27_code 54 = .ok (.if_icmp .ne (13), 3) := by decide +kernel
theorem d_Mo_emits_57 : decode prog_10_method_27_code 57 = .ok (.iload_n 3, 1) := by decide +kernel
theorem d_Mo_emits_58 : decode prog_10_method_27_code 58 = .ok (.invokestatic 156, 3) := by decide +kernel
theorem d_Mo_emits_61 : decode prog_10_method_27_code 61 = .ok (.ifCond .ne (6), 3) := by decide +kernel
theorem d_Mo_emits_64 : decode prog_10_method_27_code 64 = .ok (.ldc 136, 2) := by decide +kernel
theorem d_Mo_emits_66 : decode prog_10_method_27_code 66 = .ok (.ireturn, 1) := by decide +kernel
theorem d_Mo_emits_67 : decode prog_10_method_27_code 67 = .ok (.aload_n 0, 1) := by decide +kernel
theorem d_Mo_emits_68 : decode prog_10_method_27_code 68 = .ok (.getfield 43, 3) := by decide +kernel
theorem d_Mo_emits_71 : decode prog_10_method_27_code 71 = .ok (.bipush (16), 2) := by decide +kernel
theorem d_Mo_emits_73 : decode prog_10_method_27_code 73 = .ok (.iload_n 1, 1) := by decide +kernel
