/-! decode rows (written by wip/gen) -/
theorem d_Gr_addTargets_105 : decode prog_4_method_15_code 105 = .ok (.iconst 1, 1) := by decide +kernel
theorem d_Gr_addTargets_106 : decode prog_4_method_15_code 106 = .ok (.iadd, 1) := by decide +kernel
theorem d_Gr_addTargets_107 : decode prog_4_method_15_code 107 = .ok (.iconst 0, 1) := by decide +kernel
theorem d_Gr_addTargets_108 : decode prog_4_method_15_code 108 = .ok (.invokevirtual 103, 3) := by decide +kernel
theorem d_Gr_addTargets_111 : decode prog_4_method_15_code 111 = .ok (.return_, 1) := by decide +kernel
theorem d_Ig_bitCount_0 : decode prog_11_method_49_code 0 = .ok (.iload_n 0, 1) := by decide +kernel
theorem d_Ig_bitCount_1 : decode prog_11_method_49_code 1 = .ok (.iload_n 0, 1) := by decide +kernel
theorem d_Ig_bitCount_2 : decode prog_11_method_49_code 2 = .ok (.iconst 1, 1) := by decide +kernel
theorem d_Ig_bitCount_3 : decode prog_11_method_49_code 3 = .ok (.iushr, 1) := by decide +kernel
theorem d_Ig_bitCount_4 : decode prog_11_method_49_code 4 = .ok (.ldc_w 265, 3) := by decide +kernel
theorem d_Ig_bitCount_7 : decode prog_11_method_49_code 7 = .ok (.iand, 1) := by decide +kernel
theorem d_Ig_bitCount_8 : decode prog_11_method_49_code 8 = .ok (.isub, 1) := by decide +kernel
theorem d_Ig_bitCount_9 : decode prog_11_method_49_code 9 = .ok (.istore_n 0, 1) := by decide +kernel
theorem d_Ig_bitCount_10 : decode prog_11_method_49_code 10 = .ok (.iload_n 0, 1) := by decide +kernel
theorem d_Ig_bitCount_11 : decode prog_11_method_49_code 11 = .ok (.ldc_w 266, 3) := by decide +kernel
theorem d_Ig_bitCount_14 : decode prog_11_method_49_code 14 = .ok (.iand, 1) := by decide +kernel
theorem d_Ig_bitCount_15 : decode prog_11_method_49_code 15 = .ok (.iload_n 0, 1) := by decide +kernel
theorem d_Ig_bitCount_16 : decode prog_11_method_49_code 16 = .ok (.iconst 2, 1) := by decide +kernel
theorem d_Ig_bitCount_17 : decode prog_11_method_49_code 17 = .ok (.iushr, 1) := by decide +kernel
theorem d_Ig_bitCount_18 : decode prog_11_method_49_code 18 = .ok (.ldc_w 266, 3) := by decide +kernel
theorem d_Ig_bitCount_21 : decode prog_11_method_49_code 21 = .ok (.iand, 1) := by decide +kernel
theorem d_Ig_bitCount_22 : decode prog_11_method_49_code 22 = .ok (.iadd, 1) := by decide +kernel
theorem d_Ig_bitCount_23 : decode prog_11_method_49_code 23 = .ok (.istore_n 0, 1) := by decide +kernel
theorem d_Ig_bitCount_24 : decode prog_11_method_49_code 24 = .ok (.iload_n 0, 1) := by decide +kernel
theorem d_Ig_bitCount_25 : decode prog_11_method_49_code 25 = .ok (.iload_n 0, 1) := by decide +kernel
theorem d_Ig_bitCount_26 : decode prog_11_method_49_code 26 = .ok (.iconst 4, 1) := by decide +kernel
theorem d_Ig_bitCount_27 : decode prog_11_method_49_code 27 = .ok (.iushr, 1) := by decide +kernel
theorem d_Ig_bitCount_28 : decode prog_11_method_49_code 28 = .ok (.iadd, 1) := by decide +kernel
theorem d_Ig_bitCount_29 : decode prog_11_method_49_code 29 = .ok (.ldc_w 267, 3) := by decide +kernel
theorem d_Ig_bitCount_32 : decode prog_11_method_49_code 32 = .ok (.iand, 1) := by decide +kernel
theorem d_Ig_bitCount_33 : decode prog_11_method_49_code 33 = .ok (.istore_n 0, 1) := by decide +kernel
theorem d_Ig_bitCount_34 : decode prog_11_method_49_code 34 = .ok (.iload_n 0, 1) := by decide +kernel
theorem d_Ig_bitCount_35 : decode prog_11_method_49_code 35 = .ok (.iload_n 0, 1) := by decide +kernel
theorem d_Ig_bitCount_36 : decode prog_11_method_49_code 36 = .ok (.bipush (8), 2) := by decide +kernel
theorem d_Ig_bitCount_38 : decode prog_11_method_49_code 38 = .ok (.iushr, 1) := by decide +kernel
theorem d_Ig_bitCount_39 : decode prog_11_method_49_code 39 = .ok (.iadd, 1) := by decide +kernel
theorem d_Ig_bitCount_40 : decode prog_11_method_49_code 40 = .ok (.istore_n 0, 1) := by decide +kernel
theorem d_Ig_bitCount_41 : decode prog_11_method_49_code 41 = .ok (.iload_n 0, 1) := by decide +kernel
theorem d_Ig_bitCount_42 : decode prog_11_method_49_code 42 = .ok (.iload_n 0, 1) := by decide +kernel
theorem d_Ig_bitCount_43 : decode prog_11_method_49_code 43 = .ok (.bipush (16), 2) := by decide +kernel
theorem d_Ig_bitCount_45 : decode prog_11_method_49_code 45 = .ok (.iushr, 1) := by decide +kernel
theorem d_Ig_bitCount_46 : decode prog_11_method_49_code 46 = .ok (.iadd, 1) := by decide +kernel
theorem d_Ig_bitCount_47 : decode prog_11_method_49_code 47 = .ok (.istore_n 0, 1) := by decide +kernel
theorem d_Ig_bitCount_48 : decode prog_11_method_49_code 48 = .ok (.iload_n 0, 1) := by decide +kernel
theorem d_Ig_bitCount_49 : decode prog_11_method_49_code 49 = .ok (.bipush (63), 2) := by decide +kernel
theorem d_Ig_bitCount_51 : decode prog_11_method_49_code 51 = .ok (.iand, 1) := by decide +kernel
theorem d_Ig_bitCount_52 : decode prog_11_method_49_code 52 = .ok (.ireturn, 1) := by decide +kernel
theorem d_Gr_targetOf_0 : decode prog_4_method_9_code 0 = .ok (.aload_n 0, 1) := by decide +kernel
theorem d_Gr_targetOf_1 : decode prog_4_method_9_code 1 = .ok (.getfield 27, 3) := by decide +kernel
theorem d_Gr_targetOf_4 : decode prog_4_method_9_code 4 = .ok (.iload_n 1, 1) := by decide +kernel
theorem d_Gr_targetOf_5 : decode prog_4_method_9_code 5 = .ok (.bipush (6), 2) := by decide +kernel
theorem d_Gr_targetOf_7 : decode prog_4_method_9_code 7 = .ok (.imul, 1) := by decide +kernel
theorem d_Gr_targetOf_8 : decode prog_4_method_9_code 8 = .ok (.iload_n 2, 1) := by decide +kernel
theorem d_Gr_targetOf_9 : decode prog_4_method_9_code 9 = .ok (.iadd, 1) := by decide +kernel
theorem d_Gr_targetOf_10 : decode prog_4_method_9_code 10 = .ok (.iaload, 1) := by decide +kernel
theorem d_Gr_targetOf_11 : decode prog_4_method_9_code 11 = .ok (.ireturn, 1) := by decide +kernel
theorem d_Fa_eighthPower_0 : decode prog_1_method_25_code 0 = .ok (.iload_n 0, 1) := by decide +kernel
theorem d_Fa_eighthPower_1 : decode prog_1_method_25_code 1 = .ok (.i2l, 1) := by decide +kernel
theorem d_Fa_eighthPower_2 : decode prog_1_method_25_code 2 = .ok (.iload_n 0, 1) := by decide +kernel
theorem d_Fa_eighthPower_3 : decode prog_1_method_25_code 3 = .ok (.i2l, 1) := by decide +kernel
theorem d_Fa_eighthPower_4 : decode prog_1_method_25_code 4 = .ok (.lmul, 1) := by decide +kernel
theorem d_Fa_eighthPower_5 : decode prog_1_method_25_code 5 = .ok (.lstore_n 1, 1) := by decide +kernel
theorem d_Fa_eighthPower_6 : decode prog_1_method_25_code 6 = .ok (.lload_n 1, 1) := by decide +kernel
theorem d_Fa_eighthPower_7 : decode prog_1_method_25_code 7 = .ok (.lload_n 1, 1) := by decide +kernel
theorem d_Fa_eighthPower_8 : decode prog_1_method_25_code 8 = .ok (.lmul, 1) := by decide +kernel
theorem d_Fa_eighthPower_9 : decode prog_1_method_25_code 9 = .ok (.lstore_n 3, 1) := by decide +kernel
theorem d_Fa_eighthPower_10 : decode prog_1_method_25_code 10 = .ok (.lload_n 3, 1) := by decide +kernel
theorem d_Fa_eighthPower_11 : decode prog_1_method_25_code 11 = .ok (.lload_n 3, 1) := by decide +kernel
theorem d_Fa_eighthPower_12 : decode prog_1_method_25_code 12 = .ok (.lmul, 1) := by decide +kernel
theorem d_Fa_eighthPower_13 : decode prog_1_method_25_code 13 = .ok (.lreturn, 1) := by decide +kernel
theorem d_Fa_log_0 : decode prog_1_method_24_code 0 = .ok (.iload_n 0, 1) := by decide +kernel
theorem d_Fa_log_1 : decode prog_1_method_24_code 1 = .ok (.invokestatic 225, 3) := by decide +kernel
theorem d_Fa_log_4 : decode prog_1_method_24_code 4 = .ok (.lstore_n 2, 1) := by decide +kernel
theorem d_Fa_log_5 : decode prog_1_method_24_code 5 = .ok (.iload_n 1, 1) := by decide +kernel
theorem d_Fa_log_6 : decode prog_1_method_24_code 6 = .ok (.invokestatic 225, 3) := by decide +kernel
theorem d_Fa_log_9 : decode prog_1_method_24_code 9 = .ok (.lstore 4, 2) := by decide +kernel
theorem d_Fa_log_11 : decode prog_1_method_24_code 11 = .ok (.iconst 0, 1) := by decide +kernel
theorem d_Fa_log_12 : decode prog_1_method_24_code 12 = .ok (.istore 6, 2) := by decide +kernel
theorem d_Fa_log_14 : decode prog_1_method_24_code 14 = .ok (.lload_n 2, 1) := by decide +kernel
theorem d_Fa_log_15 : decode prog_1_method_24_code 15 = .ok (.lload 4, 2) := by decide +kernel
theorem d_Fa_log_17 : decode prog_1_method_24_code 17 = .ok (.lcmp, 1) := by decide +kernel
theorem d_Fa_log_18 : decode prog_1_method_24_code 18 = .ok (.ifCond .ge (22), 3) := by decide +kernel
theorem d_Fa_log_21 : decode prog_1_method_24_code 21 = .ok (.iload 6, 2) := by decide +kernel
theorem d_Fa_log_23 : decode prog_1_method_24_code 23 = .ok (.bipush (-64), 2) := by decide +kernel
theorem d_Fa_log_25 : decode prog_1_method_24_code 25 = .ok (.if_icmp .le (15), 3) := by decide +kernel
theorem d_Fa_log_28 : decode prog_1_method_24_code 28 = .ok (.lload_n 2, 1) := by decide +kernel
theorem d_Fa_log_29 : decode prog_1_method_24_code 29 = .ok (.ldc2_w 229, 3) := by decide +kernel
theorem d_Fa_log_32 : decode prog_1_method_24_code 32 = .ok (.lmul, 1) := by decide +kernel
theorem d_Fa_log_33 : decode prog_1_method_24_code 33 = .ok (.lstore_n 2, 1) := by decide +kernel
theorem d_Fa_log_34 : decode prog_1_method_24_code 34 = .ok (.iinc 6 (-1), 3) := by decide +kernel
theorem d_Fa_log_37 : decode prog_1_method_24_code 37 = .ok (.goto (-23), 3) := by decide +kernel
theorem d_Fa_log_40 : decode prog_1_method_24_code 40 = .ok (.lload_n 2, 1) := by decide +kernel
theorem d_Fa_log_41 : decode prog_1_method_24_code 41 = .ok (.ldc2_w 229, 3) := by decide +kernel
theorem d_Fa_log_44 : decode prog_1_method_24_code 44 = .ok (.lload 4, 2) := by decide +kernel
theorem d_Fa_log_46 : decode prog_1_method_24_code 46 = .ok (.lmul, 1) := by decide +kernel
theorem d_Fa_log_47 : decode prog_1_method_24_code 47 = .ok (.lcmp, 1) := by decide +kernel
theorem d_Fa_log_48 : decode prog_1_method_24_code 48 = .ok (.ifCond .lt (24), 3) := by decide +kernel
theorem d_Fa_log_51 : decode prog_1_method_24_code 51 = .ok (.iload 6, 2) := by decide +kernel
theorem d_Fa_log_53 : decode prog_1_method_24_code 53 = .ok (.bipush (64), 2) := by decide +kernel
theorem d_Fa_log_55 : decode prog_1_method_24_code 55 = .ok (.if_icmp .ge (17), 3) := by decide +kernel
theorem d_Fa_log_58 : decode prog_1_method_24_code 58 = .ok (.lload 4, 2) := by decide +kernel
theorem d_Fa_log_60 : decode prog_1_method_24_code 60 = .ok (.ldc2_w 229, 3) := by decide +kernel
theorem d_Fa_log_63 : decode prog_1_method_24_code 63 = .ok (.lmul, 1) := by decide +kernel
theorem d_Fa_log_64 : decode prog_1_method_24_code 64 = .ok (.lstore 4, 2) := by decide +kernel
theorem d_Fa_log_66 : decode prog_1_method_24_code 66 = .ok (.iinc 6 (1), 3) := by decide +kernel
theorem d_Fa_log_69 : decode prog_1_method_24_code 69 = .ok (.goto (-29), 3) := by decide +kernel
theorem d_Fa_log_72 : decode prog_1_method_24_code 72 = .ok (.iload 6, 2) := by decide +kernel
theorem d_Fa_log_74 : decode prog_1_method_24_code 74 = .ok (.ireturn, 1) := by decide +kernel
theorem d_Gr_scoreSteps_0 : decode prog_4_method_18_code 0 = .ok (.aload_n 0, 1) := by decide +kernel
theorem d_Gr_scoreSteps_1 : decode prog_4_method_18_code 1 = .ok (.getfield 18, 3) := by decide +kernel
theorem d_Gr_scoreSteps_4 : decode prog_4_method_18_code 4 = .ok (.iload_n 1, 1) := by decide +kernel
theorem d_Gr_scoreSteps_5 : decode prog_4_method_18_code 5 = .ok (.iaload, 1) := by decide +kernel
theorem d_Gr_scoreSteps_6 : decode prog_4_method_18_code 6 = .ok (.invokestatic 110, 3) := by decide +kernel
theorem d_Gr_scoreSteps_9 : decode prog_4_method_18_code 9 = .ok (.aload_n 0, 1) := by decide +kernel
theorem d_Gr_scoreSteps_10 : decode prog_4_method_18_code 10 = .ok (.getfield 24, 3) := by decide +kernel
theorem d_Gr_scoreSteps_13 : decode prog_4_method_18_code 13 = .ok (.iload_n 1, 1) := by decide +kernel
theorem d_Gr_scoreSteps_14 : decode prog_4_method_18_code 14 = .ok (.iaload, 1) := by decide +kernel
theorem d_Gr_scoreSteps_15 : decode prog_4_method_18_code 15 = .ok (.iadd, 1) := by decide +kernel
theorem d_Gr_scoreSteps_16 : decode prog_4_method_18_code 16 = .ok (.istore_n 2, 1) := by decide +kernel
theorem d_Gr_scoreSteps_17 : decode prog_4_method_18_code 17 = .ok (.iconst 0, 1) := by decide +kernel
theorem d_Gr_scoreSteps_18 : decode prog_4_method_18_code 18 = .ok (.istore_n 3, 1) := by decide +kernel
theorem d_Gr_scoreSteps_19 : decode prog_4_method_18_code 19 = .ok (.iload_n 3, 1) := by decide +kernel
theorem d_Gr_scoreSteps_20 : decode prog_4_method_18_code 20 = .ok (.aload_n 0, 1) := by decide +kernel
theorem d_Gr_scoreSteps_21 : decode prog_4_method_18_code 21 = .ok (.getfield 24, 3) := by decide +kernel
theorem d_Gr_scoreSteps_24 : decode prog_4_method_18_code 24 = .ok (.iload_n 1, 1) := by decide +kernel
theorem d_Gr_scoreSteps_25 : decode prog_4_method_18_code 25 = .ok (.iaload, 1) := by decide +kernel
theorem d_Gr_scoreSteps_26 : decode prog_4_method_18_code 26 = .ok (.if_icmp .ge (66), 3) := by decide +kernel
theorem d_Gr_scoreSteps_29 : decode prog_4_method_18_code 29 = .ok (.aload_n 0, 1) := by decide +kernel
theorem d_Gr_scoreSteps_30 : decode prog_4_method_18_code 30 = .ok (.getfield 18, 3) := by decide +kernel
theorem d_Gr_scoreSteps_33 : decode prog_4_method_18_code 33 = .ok (.iload_n 1, 1) := by decide +kernel
theorem d_Gr_scoreSteps_34 : decode prog_4_method_18_code 34 = .ok (.iaload, 1) := by decide +kernel
theorem d_Gr_scoreSteps_35 : decode prog_4_method_18_code 35 = .ok (.aload_n 0, 1) := by decide +kernel
theorem d_Gr_scoreSteps_36 : decode prog_4_method_18_code 36 = .ok (.getfield 18, 3) := by decide +kernel
theorem d_Gr_scoreSteps_39 : decode prog_4_method_18_code 39 = .ok (.aload_n 0, 1) := by decide +kernel
theorem d_Gr_scoreSteps_40 : decode prog_4_method_18_code 40 = .ok (.iload_n 1, 1) := by decide +kernel
theorem d_Gr_scoreSteps_41 : decode prog_4_method_18_code 41 = .ok (.iload_n 3, 1) := by decide +kernel
theorem d_Gr_scoreSteps_42 : decode prog_4_method_18_code 42 = .ok (.invokevirtual 115, 3) := by decide +kernel
theorem d_Gr_scoreSteps_45 : decode prog_4_method_18_code 45 = .ok (.iaload, 1) := by decide +kernel
theorem d_Gr_scoreSteps_46 : decode prog_4_method_18_code 46 = .ok (.iand, 1) := by decide +kernel
theorem d_Gr_scoreSteps_47 : decode prog_4_method_18_code 47 = .ok (.invokestatic 110, 3) := by decide +kernel
theorem d_Gr_scoreSteps_50 : decode prog_4_method_18_code 50 = .ok (.istore 4, 2) := by decide +kernel
theorem d_Gr_scoreSteps_52 : decode prog_4_method_18_code 52 = .ok (.aload_n 0, 1) := by decide +kernel
theorem d_Gr_scoreSteps_53 : decode prog_4_method_18_code 53 = .ok (.getfield 30, 3) := by decide +kernel
theorem d_Gr_scoreSteps_56 : decode prog_4_method_18_code 56 = .ok (.iload_n 1, 1) := by decide +kernel
theorem d_Gr_scoreSteps_57 : decode prog_4_method_18_code 57 = .ok (.bipush (6), 2) := by decide +kernel
theorem d_Gr_scoreSteps_59 : decode prog_4_method_18_code 59 = .ok (.imul, 1) := by decide +kernel
theorem d_Gr_scoreSteps_60 : decode prog_4_method_18_code 60 = .ok (.iload_n 3, 1) := by decide +kernel
theorem d_Gr_scoreSteps_61 : decode prog_4_method_18_code 61 = .ok (.iadd, 1) := by decide +kernel
theorem d_Gr_scoreSteps_62 : decode prog_4_method_18_code 62 = .ok (.aload_n 0, 1) := by decide +kernel
theorem d_Gr_scoreSteps_63 : decode prog_4_method_18_code 63 = .ok (.getfield 9, 3) := by decide +kernel
theorem d_Gr_scoreSteps_66 : decode prog_4_method_18_code 66 = .ok (.iload_n 1, 1) := by decide +kernel
theorem d_Gr_scoreSteps_67 : decode prog_4_method_18_code 67 = .ok (.iaload, 1) := by decide +kernel
theorem d_Gr_scoreSteps_68 : decode prog_4_method_18_code 68 = .ok (.bipush (7), 2) := by decide +kernel
theorem d_Gr_scoreSteps_70 : decode prog_4_method_18_code 70 = .ok (.if_icmp .ne (7), 3) := by decide +kernel
theorem d_Gr_scoreSteps_73 : decode prog_4_method_18_code 73 = .ok (.iconst 0, 1) := by decide +kernel
theorem d_Gr_scoreSteps_74 : decode prog_4_method_18_code 74 = .ok (.goto (11), 3) := by decide +kernel
theorem d_Gr_scoreSteps_77 : decode prog_4_method_18_code 77 = .ok (.iload 4, 2) := by decide +kernel
theorem d_Gr_scoreSteps_79 : decode prog_4_method_18_code 79 = .ok (.iconst 1, 1) := by decide +kernel
theorem d_Gr_scoreSteps_80 : decode prog_4_method_18_code 80 = .ok (.iadd, 1) := by decide +kernel
theorem d_Gr_scoreSteps_81 : decode prog_4_method_18_code 81 = .ok (.iload_n 2, 1) := by decide +kernel
theorem d_Gr_scoreSteps_82 : decode prog_4_method_18_code 82 = .ok (.invokestatic 118, 3) := by decide +kernel
theorem d_Gr_scoreSteps_85 : decode prog_4_method_18_code 85 = .ok (.iastore, 1) := by decide +kernel
theorem d_Gr_scoreSteps_86 : decode prog_4_method_18_code 86 = .ok (.iinc 3 (1), 3) := by decide +kernel
theorem d_Gr_scoreSteps_89 : decode prog_4_method_18_code 89 = .ok (.goto (-70), 3) := by decide +kernel
theorem d_Gr_scoreSteps_92 : decode prog_4_method_18_code 92 = .ok (.return_, 1) := by decide +kernel
theorem d_Fa_lettersBefore_0 : decode prog_1_method_20_code 0 = .ok (.iload_n 0, 1) := by decide +kernel
theorem d_Fa_lettersBefore_1 : decode prog_1_method_20_code 1 = .ok (.iconst 1, 1) := by decide +kernel
theorem d_Fa_lettersBefore_2 : decode prog_1_method_20_code 2 = .ok (.if_icmp .eq (13), 3) := by decide +kernel
theorem d_Fa_lettersBefore_5 : decode prog_1_method_20_code 5 = .ok (.iload_n 0, 1) := by decide +kernel
theorem d_Fa_lettersBefore_6 : decode prog_1_method_20_code 6 = .ok (.iconst 2, 1) := by decide +kernel
theorem d_Fa_lettersBefore_7 : decode prog_1_method_20_code 7 = .ok (.if_icmp .eq (8), 3) := by decide +kernel
theorem d_Fa_lettersBefore_10 : decode prog_1_method_20_code 10 = .ok (.iload_n 0, 1) := by decide +kernel
theorem d_Fa_lettersBefore_11 : decode prog_1_method_20_code 11 = .ok (.iconst 5, 1) := by decide +kernel
theorem d_Fa_lettersBefore_12 : decode prog_1_method_20_code 12 = .ok (.if_icmp .ne (7), 3) := by decide +kernel
theorem d_Fa_lettersBefore_15 : decode prog_1_method_20_code 15 = .ok (.iconst 1, 1) := by decide +kernel
theorem d_Fa_lettersBefore_16 : decode prog_1_method_20_code 16 = .ok (.goto (4), 3) := by decide +kernel
theorem d_Fa_lettersBefore_19 : decode prog_1_method_20_code 19 = .ok (.iconst 0, 1) := by decide +kernel
theorem d_Fa_lettersBefore_20 : decode prog_1_method_20_code 20 = .ok (.ireturn, 1) := by decide +kernel
theorem d_Fa_lettersBehind_0 : decode prog_1_method_21_code 0 = .ok (.iload_n 0, 1) := by decide +kernel
theorem d_Fa_lettersBehind_1 : decode prog_1_method_21_code 1 = .ok (.iconst 1, 1) := by decide +kernel
theorem d_Fa_lettersBehind_2 : decode prog_1_method_21_code 2 = .ok (.if_icmp .eq (14), 3) := by decide +kernel
theorem d_Fa_lettersBehind_5 : decode prog_1_method_21_code 5 = .ok (.iload_n 0, 1) := by decide +kernel
theorem d_Fa_lettersBehind_6 : decode prog_1_method_21_code 6 = .ok (.iconst 3, 1) := by decide +kernel
theorem d_Fa_lettersBehind_7 : decode prog_1_method_21_code 7 = .ok (.if_icmp .eq (9), 3) := by decide +kernel
theorem d_Fa_lettersBehind_10 : decode prog_1_method_21_code 10 = .ok (.iload_n 0, 1) := by decide +kernel
theorem d_Fa_lettersBehind_11 : decode prog_1_method_21_code 11 = .ok (.bipush (6), 2) := by decide +kernel
theorem d_Fa_lettersBehind_13 : decode prog_1_method_21_code 13 = .ok (.if_icmp .ne (7), 3) := by decide +kernel
theorem d_Fa_lettersBehind_16 : decode prog_1_method_21_code 16 = .ok (.iconst 1, 1) := by decide +kernel
theorem d_Fa_lettersBehind_17 : decode prog_1_method_21_code 17 = .ok (.goto (4), 3) := by decide +kernel
theorem d_Fa_lettersBehind_20 : decode prog_1_method_21_code 20 = .ok (.iconst 0, 1) := by decide +kernel
theorem d_Fa_lettersBehind_21 : decode prog_1_method_21_code 21 = .ok (.ireturn, 1) := by decide +kernel
theorem d_Fa_lettersOf_0 : decode prog_1_method_22_code 0 = .ok (.iload_n 0, 1) := by decide +kernel
theorem d_Fa_lettersOf_1 : decode prog_1_method_22_code 1 = .ok (.invokestatic 194, 3) := by decide +kernel
theorem d_Fa_lettersOf_4 : decode prog_1_method_22_code 4 = .ok (.iload_n 0, 1) := by decide +kernel
theorem d_Fa_lettersOf_5 : decode prog_1_method_22_code 5 = .ok (.invokestatic 197, 3) := by decide +kernel
theorem d_Fa_lettersOf_8 : decode prog_1_method_22_code 8 = .ok (.iadd, 1) := by decide +kernel
theorem d_Fa_lettersOf_9 : decode prog_1_method_22_code 9 = .ok (.ireturn, 1) := by decide +kernel
theorem d_Gr_rowsWithLetters_0 : decode prog_4_method_21_code 0 = .ok (.aload_n 0, 1) := by decide +kernel
theorem d_Gr_rowsWithLetters_1 : decode prog_4_method_21_code 1 = .ok (.getfield 40, 3) := by decide +kernel
theorem d_Gr_rowsWithLetters_4 : decode prog_4_method_21_code 4 = .ok (.aload_n 0, 1) := by decide +kernel
theorem d_Gr_rowsWithLetters_5 : decode prog_4_method_21_code 5 = .ok (.getfield 15, 3) := by decide +kernel
theorem d_Gr_rowsWithLetters_8 : decode prog_4_method_21_code 8 = .ok (.iload_n 1, 1) := by decide +kernel
theorem d_Gr_rowsWithLetters_9 : decode prog_4_method_21_code 9 = .ok (.iaload, 1) := by decide +kernel
theorem d_Gr_rowsWithLetters_10 : decode prog_4_method_21_code 10 = .ok (.invokevirtual 87, 3) := by decide +kernel
theorem d_Gr_rowsWithLetters_13 : decode prog_4_method_21_code 13 = .ok (.istore 4, 2) := by decide +kernel
theorem d_Gr_rowsWithLetters_15 : decode prog_4_method_21_code 15 = .ok (.aload_n 0, 1) := by decide +kernel
theorem d_Gr_rowsWithLetters_16 : decode prog_4_method_21_code 16 = .ok (.getfield 40, 3) := by decide +kernel
theorem d_Gr_rowsWithLetters_19 : decode prog_4_method_21_code 19 = .ok (.aload_n 0, 1) := by decide +kernel
theorem d_Gr_rowsWithLetters_20 : decode prog_4_method_21_code 20 = .ok (.getfield 15, 3) := by decide +kernel
theorem d_Gr_rowsWithLetters_23 : decode prog_4_method_21_code 23 = .ok (.iload_n 1, 1) := by decide +kernel
theorem d_Gr_rowsWithLetters_24 : decode prog_4_method_21_code 24 = .ok (.iaload, 1) := by decide +kernel
theorem d_Gr_rowsWithLetters_25 : decode prog_4_method_21_code 25 = .ok (.invokevirtual 93, 3) := by decide +kernel
theorem d_Gr_rowsWithLetters_28 : decode prog_4_method_21_code 28 = .ok (.istore 5, 2) := by decide +kernel
theorem d_Gr_rowsWithLetters_30 : decode prog_4_method_21_code 30 = .ok (.aload_n 0, 1) := by decide +kernel
theorem d_Gr_rowsWithLetters_31 : decode prog_4_method_21_code 31 = .ok (.getfield 9, 3) := by decide +kernel
theorem d_Gr_rowsWithLetters_34 : decode prog_4_method_21_code 34 = .ok (.iload_n 1, 1) := by decide +kernel
theorem d_Gr_rowsWithLetters_35 : decode prog_4_method_21_code 35 = .ok (.iaload, 1) := by decide +kernel
theorem d_Gr_rowsWithLetters_36 : decode prog_4_method_21_code 36 = .ok (.lookupswitch (61) #[(1, 28), (2, 50)], 28) := by decide +kernel
theorem d_Gr_rowsWithLetters_64 : decode prog_4_method_21_code 64 = .ok (.aload_n 0, 1) := by decide +kernel
theorem d_Gr_rowsWithLetters_65 : decode prog_4_method_21_code 65 = .ok (.getfield 36, 3) := by decide +kernel
theorem d_Gr_rowsWithLetters_68 : decode prog_4_method_21_code 68 = .ok (.iload 4, 2) := by decide +kernel
theorem d_Gr_rowsWithLetters_70 : decode prog_4_method_21_code 70 = .ok (.iload_n 2, 1) := by decide +kernel
theorem d_Gr_rowsWithLetters_71 : decode prog_4_method_21_code 71 = .ok (.invokevirtual 131, 3) := by decide +kernel
theorem d_Gr_rowsWithLetters_74 : decode prog_4_method_21_code 74 = .ok (.aload_n 0, 1) := by decide +kernel
theorem d_Gr_rowsWithLetters_75 : decode prog_4_method_21_code 75 = .ok (.getfield 36, 3) := by decide +kernel
theorem d_Gr_rowsWithLetters_78 : decode prog_4_method_21_code 78 = .ok (.iload 5, 2) := by decide +kernel
theorem d_Gr_rowsWithLetters_80 : decode prog_4_method_21_code 80 = .ok (.iload_n 3, 1) := by decide +kernel
theorem d_Gr_rowsWithLetters_81 : decode prog_4_method_21_code 81 = .ok (.invokevirtual 131, 3) := by decide +kernel
theorem d_Gr_rowsWithLetters_84 : decode prog_4_method_21_code 84 = .ok (.iand, 1) := by decide +kernel
theorem d_Gr_rowsWithLetters_85 : decode prog_4_method_21_code 85 = .ok (.ireturn, 1) := by decide +kernel
theorem d_Gr_rowsWithLetters_86 : decode prog_4_method_21_code 86 = .ok (.aload_n 0, 1) := by decide +kernel
theorem d_Gr_rowsWithLetters_87 : decode prog_4_method_21_code 87 = .ok (.getfield 36, 3) := by decide +kernel
theorem d_Gr_rowsWithLetters_90 : decode prog_4_method_21_code 90 = .ok (.iload 4, 2) := by decide +kernel
theorem d_Gr_rowsWithLetters_92 : decode prog_4_method_21_code 92 = .ok (.iload_n 2, 1) := by decide +kernel
theorem d_Gr_rowsWithLetters_93 : decode prog_4_method_21_code 93 = .ok (.invokevirtual 131, 3) := by decide +kernel
theorem d_Gr_rowsWithLetters_96 : decode prog_4_method_21_code 96 = .ok (.ireturn, 1) := by decide +kernel
theorem d_Gr_rowsWithLetters_97 : decode prog_4_method_21_code 97 = .ok (.aload_n 0, 1) := by decide +kernel
theorem d_Gr_rowsWithLetters_98 : decode prog_4_method_21_code 98 = .ok (.getfield 36, 3) := by decide +kernel
theorem d_Gr_rowsWithLetters_101 : decode prog_4_method_21_code 101 = .ok (.iload 5, 2) := by decide +kernel
theorem d_Gr_rowsWithLetters_103 : decode prog_4_method_21_code 103 = .ok (.iload_n 2, 1) := by decide +kernel
theorem d_Gr_rowsWithLetters_104 : decode prog_4_method_21_code 104 = .ok (.invokevirtual 131, 3) := by decide +kernel
theorem d_Gr_rowsWithLetters_107 : decode prog_4_method_21_code 107 = .ok (.ireturn, 1) := by decide +kernel
theorem d_Gr_scoreOfLetters_0 : decode prog_4_method_20_code 0 = .ok (.aload_n 0, 1) := by decide +kernel
theorem d_Gr_scoreOfLetters_1 : decode prog_4_method_20_code 1 = .ok (.getfield 9, 3) := by decide +kernel
theorem d_Gr_scoreOfLetters_4 : decode prog_4_method_20_code 4 = .ok (.iload_n 1, 1) := by decide +kernel
theorem d_Gr_scoreOfLetters_5 : decode prog_4_method_20_code 5 = .ok (.iaload, 1) := by decide +kernel
theorem d_Gr_scoreOfLetters_6 : decode prog_4_method_20_code 6 = .ok (.invokestatic 107, 3) := by decide +kernel
theorem d_Gr_scoreOfLetters_9 : decode prog_4_method_20_code 9 = .ok (.ifCond .eq (5), 3) := by decide +kernel
theorem d_Gr_scoreOfLetters_12 : decode prog_4_method_20_code 12 = .ok (.iconst 0, 1) := by decide +kernel
theorem d_Gr_scoreOfLetters_13 : decode prog_4_method_20_code 13 = .ok (.ireturn, 1) := by decide +kernel
theorem d_Gr_scoreOfLetters_14 : decode prog_4_method_20_code 14 = .ok (.aload_n 0, 1) := by decide +kernel
theorem d_Gr_scoreOfLetters_15 : decode prog_4_method_20_code 15 = .ok (.getfield 9, 3) := by decide +kernel
theorem d_Gr_scoreOfLetters_18 : decode prog_4_method_20_code 18 = .ok (.iload_n 1, 1) := by decide +kernel
theorem d_Gr_scoreOfLetters_19 : decode prog_4_method_20_code 19 = .ok (.iaload, 1) := by decide +kernel
theorem d_Gr_scoreOfLetters_20 : decode prog_4_method_20_code 20 = .ok (.iconst 1, 1) := by decide +kernel
theorem d_Gr_scoreOfLetters_21 : decode prog_4_method_20_code 21 = .ok (.if_icmp .ne (8), 3) := by decide +kernel
theorem d_Gr_scoreOfLetters_24 : decode prog_4_method_20_code 24 = .ok (.bipush (16), 2) := by decide +kernel
theorem d_Gr_scoreOfLetters_26 : decode prog_4_method_20_code 26 = .ok (.goto (4), 3) := by decide +kernel
theorem d_Gr_scoreOfLetters_29 : decode prog_4_method_20_code 29 = .ok (.iconst 4, 1) := by decide +kernel
theorem d_Gr_scoreOfLetters_30 : decode prog_4_method_20_code 30 = .ok (.istore 4, 2) := by decide +kernel
theorem d_Gr_scoreOfLetters_32 : decode prog_4_method_20_code 32 = .ok (.aload_n 0, 1) := by decide +kernel
theorem d_Gr_scoreOfLetters_33 : decode prog_4_method_20_code 33 = .ok (.getfield 18, 3) := by decide +kernel
theorem d_Gr_scoreOfLetters_36 : decode prog_4_method_20_code 36 = .ok (.iload_n 1, 1) := by decide +kernel
theorem d_Gr_scoreOfLetters_37 : decode prog_4_method_20_code 37 = .ok (.iaload, 1) := by decide +kernel
theorem d_Gr_scoreOfLetters_38 : decode prog_4_method_20_code 38 = .ok (.aload_n 0, 1) := by decide +kernel
theorem d_Gr_scoreOfLetters_39 : decode prog_4_method_20_code 39 = .ok (.iload_n 1, 1) := by decide +kernel
theorem d_Gr_scoreOfLetters_40 : decode prog_4_method_20_code 40 = .ok (.iload_n 2, 1) := by decide +kernel
theorem d_Gr_scoreOfLetters_41 : decode prog_4_method_20_code 41 = .ok (.iload_n 3, 1) := by decide +kernel
theorem d_Gr_scoreOfLetters_42 : decode prog_4_method_20_code 42 = .ok (.invokevirtual 128, 3) := by decide +kernel
theorem d_Gr_scoreOfLetters_45 : decode prog_4_method_20_code 45 = .ok (.iand, 1) := by decide +kernel
theorem d_Gr_scoreOfLetters_46 : decode prog_4_method_20_code 46 = .ok (.invokestatic 110, 3) := by decide +kernel
theorem d_Gr_scoreOfLetters_49 : decode prog_4_method_20_code 49 = .ok (.istore 5, 2) := by decide +kernel
theorem d_Gr_scoreOfLetters_51 : decode prog_4_method_20_code 51 = .ok (.iload 4, 2) := by decide +kernel
theorem d_Gr_scoreOfLetters_53 : decode prog_4_method_20_code 53 = .ok (.iload 5, 2) := by decide +kernel
theorem d_Gr_scoreOfLetters_55 : decode prog_4_method_20_code 55 = .ok (.iconst 1, 1) := by decide +kernel
theorem d_Gr_scoreOfLetters_56 : decode prog_4_method_20_code 56 = .ok (.iadd, 1) := by decide +kernel
theorem d_Gr_scoreOfLetters_57 : decode prog_4_method_20_code 57 = .ok (.imul, 1) := by decide +kernel
theorem d_Gr_scoreOfLetters_58 : decode prog_4_method_20_code 58 = .ok (.aload_n 0, 1) := by decide +kernel
theorem d_Gr_scoreOfLetters_59 : decode prog_4_method_20_code 59 = .ok (.getfield 18, 3) := by decide +kernel
theorem d_Gr_scoreOfLetters_62 : decode prog_4_method_20_code 62 = .ok (.iload_n 1, 1) := by decide +kernel
theorem d_Gr_scoreOfLetters_63 : decode prog_4_method_20_code 63 = .ok (.iaload, 1) := by decide +kernel
theorem d_Gr_scoreOfLetters_64 : decode prog_4_method_20_code 64 = .ok (.invokestatic 110, 3) := by decide +kernel
theorem d_Gr_scoreOfLetters_67 : decode prog_4_method_20_code 67 = .ok (.iload 4, 2) := by decide +kernel
theorem d_Gr_scoreOfLetters_69 : decode prog_4_method_20_code 69 = .ok (.iadd, 1) := by decide +kernel
theorem d_Gr_scoreOfLetters_70 : decode prog_4_method_20_code 70 = .ok (.invokestatic 118, 3) := by decide +kernel
theorem d_Gr_scoreOfLetters_73 : decode prog_4_method_20_code 73 = .ok (.ireturn, 1) := by decide +kernel
theorem d_Gr_scoreLetters_0 : decode prog_4_method_19_code 0 = .ok (.aload_n 0, 1) := by decide +kernel
theorem d_Gr_scoreLetters_1 : decode prog_4_method_19_code 1 = .ok (.getfield 9, 3) := by decide +kernel
theorem d_Gr_scoreLetters_4 : decode prog_4_method_19_code 4 = .ok (.iload_n 1, 1) := by decide +kernel
theorem d_Gr_scoreLetters_5 : decode prog_4_method_19_code 5 = .ok (.iaload, 1) := by decide +kernel
theorem d_Gr_scoreLetters_6 : decode prog_4_method_19_code 6 = .ok (.invokestatic 121, 3) := by decide +kernel
theorem d_Gr_scoreLetters_9 : decode prog_4_method_19_code 9 = .ok (.ifCond .ne (4), 3) := by decide +kernel
theorem d_Gr_scoreLetters_12 : decode prog_4_method_19_code 12 = .ok (.return_, 1) := by decide +kernel
theorem d_Gr_scoreLetters_13 : decode prog_4_method_19_code 13 = .ok (.aload_n 0, 1) := by decide +kernel
theorem d_Gr_scoreLetters_14 : decode prog_4_method_19_code 14 = .ok (.getfield 9, 3) := by decide +kernel
theorem d_Gr_scoreLetters_17 : decode prog_4_method_19_code 17 = .ok (.iload_n 1, 1) := by decide +kernel
theorem d_Gr_scoreLetters_18 : decode prog_4_method_19_code 18 = .ok (.iaload, 1) := by decide +kernel
theorem d_Gr_scoreLetters_19 : decode prog_4_method_19_code 19 = .ok (.iconst 1, 1) := by decide +kernel
theorem d_Gr_scoreLetters_20 : decode prog_4_method_19_code 20 = .ok (.if_icmp .ne (7), 3) := by decide +kernel
theorem d_Gr_scoreLetters_23 : decode prog_4_method_19_code 23 = .ok (.iconst 3, 1) := by decide +kernel
theorem d_Gr_scoreLetters_24 : decode prog_4_method_19_code 24 = .ok (.goto (4), 3) := by decide +kernel
theorem d_Gr_scoreLetters_27 : decode prog_4_method_19_code 27 = .ok (.iconst 0, 1) := by decide +kernel
theorem d_Gr_scoreLetters_28 : decode prog_4_method_19_code 28 = .ok (.istore_n 2, 1) := by decide +kernel
theorem d_Gr_scoreLetters_29 : decode prog_4_method_19_code 29 = .ok (.iconst 0, 1) := by decide +kernel
theorem d_Gr_scoreLetters_30 : decode prog_4_method_19_code 30 = .ok (.istore_n 3, 1) := by decide +kernel
theorem d_Gr_scoreLetters_31 : decode prog_4_method_19_code 31 = .ok (.iload_n 3, 1) := by decide +kernel
theorem d_Gr_scoreLetters_32 : decode prog_4_method_19_code 32 = .ok (.iconst 4, 1) := by decide +kernel
theorem d_Gr_scoreLetters_33 : decode prog_4_method_19_code 33 = .ok (.if_icmp .ge (48), 3) := by decide +kernel
theorem d_Gr_scoreLetters_36 : decode prog_4_method_19_code 36 = .ok (.iconst 0, 1) := by decide +kernel
theorem d_Gr_scoreLetters_37 : decode prog_4_method_19_code 37 = .ok (.istore 4, 2) := by decide +kernel
theorem d_Gr_scoreLetters_39 : decode prog_4_method_19_code 39 = .ok (.iload 4, 2) := by decide +kernel
theorem d_Gr_scoreLetters_41 : decode prog_4_method_19_code 41 = .ok (.iload_n 2, 1) := by decide +kernel
theorem d_Gr_scoreLetters_42 : decode prog_4_method_19_code 42 = .ok (.if_icmp .gt (33), 3) := by decide +kernel
theorem d_Gr_scoreLetters_45 : decode prog_4_method_19_code 45 = .ok (.aload_n 0, 1) := by decide +kernel
theorem d_Gr_scoreLetters_46 : decode prog_4_method_19_code 46 = .ok (.getfield 33, 3) := by decide +kernel
theorem d_Gr_scoreLetters_49 : decode prog_4_method_19_code 49 = .ok (.iload_n 1, 1) := by decide +kernel
theorem d_Gr_scoreLetters_50 : decode prog_4_method_19_code 50 = .ok (.bipush (16), 2) := by decide +kernel
theorem d_Gr_scoreLetters_52 : decode prog_4_method_19_code 52 = .ok (.imul, 1) := by decide +kernel
theorem d_Gr_scoreLetters_53 : decode prog_4_method_19_code 53 = .ok (.iload_n 3, 1) := by decide +kernel
theorem d_Gr_scoreLetters_54 : decode prog_4_method_19_code 54 = .ok (.iconst 4, 1) := by decide +kernel
theorem d_Gr_scoreLetters_55 : decode prog_4_method_19_code 55 = .ok (.imul, 1) := by decide +kernel
theorem d_Gr_scoreLetters_56 : decode prog_4_method_19_code 56 = .ok (.iadd, 1) := by decide +kernel
theorem d_Gr_scoreLetters_57 : decode prog_4_method_19_code 57 = .ok (.iload 4, 2) := by decide +kernel
theorem d_Gr_scoreLetters_59 : decode prog_4_method_19_code 59 = .ok (.iadd, 1) := by decide +kernel
theorem d_Gr_scoreLetters_60 : decode prog_4_method_19_code 60 = .ok (.aload_n 0, 1) := by decide +kernel
theorem d_Gr_scoreLetters_61 : decode prog_4_method_19_code 61 = .ok (.iload_n 1, 1) := by decide +kernel
theorem d_Gr_scoreLetters_62 : decode prog_4_method_19_code 62 = .ok (.iload_n 3, 1) := by decide +kernel
theorem d_Gr_scoreLetters_63 : decode prog_4_method_19_code 63 = .ok (.iload 4, 2) := by decide +kernel
theorem d_Gr_scoreLetters_65 : decode prog_4_method_19_code 65 = .ok (.invokevirtual 124, 3) := by decide +kernel
theorem d_Gr_scoreLetters_68 : decode prog_4_method_19_code 68 = .ok (.iastore, 1) := by decide +kernel
theorem d_Gr_scoreLetters_69 : decode prog_4_method_19_code 69 = .ok (.iinc 4 (1), 3) := by decide +kernel
theorem d_Gr_scoreLetters_72 : decode prog_4_method_19_code 72 = .ok (.goto (-33), 3) := by decide +kernel
theorem d_Gr_scoreLetters_75 : decode prog_4_method_19_code 75 = .ok (.iinc 3 (1), 3) := by decide +kernel
theorem d_Gr_scoreLetters_78 : decode prog_4_method_19_code 78 = .ok (.goto (-47), 3) := by decide +kernel
theorem d_Gr_scoreLetters_81 : decode prog_4_method_19_code 81 = .ok (.return_, 1) := by decide +kernel
theorem d_Gr_make_0 : decode prog_4_method_12_code 0 = .ok (.aload_n 0, 1) := by decide +kernel
theorem d_Gr_make_1 : decode prog_4_method_12_code 1 = .ok (.invokevirtual 52, 3) := by decide +kernel
theorem d_Gr_make_4 : decode prog_4_method_12_code 4 = .ok (.iconst 0, 1) := by decide +kernel
theorem d_Gr_make_5 : decode prog_4_method_12_code 5 = .ok (.istore_n 1, 1) := by decide +kernel
theorem d_Gr_make_6 : decode prog_4_method_12_code 6 = .ok (.iload_n 1, 1) := by decide +kernel
theorem d_Gr_make_7 : decode prog_4_method_12_code 7 = .ok (.aload_n 0, 1) := by decide +kernel
theorem d_Gr_make_8 : decode prog_4_method_12_code 8 = .ok (.getfield 44, 3) := by decide +kernel
theorem d_Gr_make_11 : decode prog_4_method_12_code 11 = .ok (.if_icmp .ge (31), 3) := by decide +kernel
theorem d_Gr_make_14 : decode prog_4_method_12_code 14 = .ok (.aload_n 0, 1) := by decide +kernel
theorem d_Gr_make_15 : decode prog_4_method_12_code 15 = .ok (.getfield 24, 3) := by decide +kernel
theorem d_Gr_make_18 : decode prog_4_method_12_code 18 = .ok (.iload_n 1, 1) := by decide +kernel
theorem d_Gr_make_19 : decode prog_4_method_12_code 19 = .ok (.iconst 0, 1) := by decide +kernel
theorem d_Gr_make_20 : decode prog_4_method_12_code 20 = .ok (.iastore, 1) := by decide +kernel
theorem d_Gr_make_21 : decode prog_4_method_12_code 21 = .ok (.aload_n 0, 1) := by decide +kernel
theorem d_Gr_make_22 : decode prog_4_method_12_code 22 = .ok (.iload_n 1, 1) := by decide +kernel
theorem d_Gr_make_23 : decode prog_4_method_12_code 23 = .ok (.invokevirtual 55, 3) := by decide +kernel
theorem d_Gr_make_26 : decode prog_4_method_12_code 26 = .ok (.aload_n 0, 1) := by decide +kernel
theorem d_Gr_make_27 : decode prog_4_method_12_code 27 = .ok (.iload_n 1, 1) := by decide +kernel
theorem d_Gr_make_28 : decode prog_4_method_12_code 28 = .ok (.invokevirtual 59, 3) := by decide +kernel
theorem d_Gr_make_31 : decode prog_4_method_12_code 31 = .ok (.aload_n 0, 1) := by decide +kernel
theorem d_Gr_make_32 : decode prog_4_method_12_code 32 = .ok (.iload_n 1, 1) := by decide +kernel
theorem d_Gr_make_33 : decode prog_4_method_12_code 33 = .ok (.invokevirtual 62, 3) := by decide +kernel
theorem d_Gr_make_36 : decode prog_4_method_12_code 36 = .ok (.iinc 1 (1), 3) := by decide +kernel
theorem d_Gr_make_39 : decode prog_4_method_12_code 39 = .ok (.goto (-33), 3) := by decide +kernel
theorem d_Gr_make_42 : decode prog_4_method_12_code 42 = .ok (.return_, 1) := by decide +kernel
theorem d_Va_forget_0 : decode prog_8_method_3_code 0 = .ok (.aload_n 0, 1) := by decide +kernel
theorem d_Va_forget_1 : decode prog_8_method_3_code 1 = .ok (.iconst 0, 1) := by decide +kernel
theorem d_Va_forget_2 : decode prog_8_method_3_code 2 = .ok (.putfield 23, 3) := by decide +kernel
theorem d_Va_forget_5 : decode prog_8_method_3_code 5 = .ok (.return_, 1) := by decide +kernel
theorem d_Gr_size_0 : decode prog_4_method_2_code 0 = .ok (.aload_n 0, 1) := by decide +kernel
theorem d_Gr_size_1 : decode prog_4_method_2_code 1 = .ok (.getfield 44, 3) := by decide +kernel
theorem d_Gr_size_4 : decode prog_4_method_2_code 4 = .ok (.ireturn, 1) := by decide +kernel
theorem d_Fa_build_0 : decode prog_1_method_4_code 0 = .ok (.aload_n 0, 1) := by decide +kernel
theorem d_Fa_build_1 : decode prog_1_method_4_code 1 = .ok (.getfield 36, 3) := by decide +kernel
theorem d_Fa_build_4 : decode prog_1_method_4_code 4 = .ok (.invokevirtual 93, 3) := by decide +kernel
theorem d_Fa_build_7 : decode prog_1_method_4_code 7 = .ok (.ifCond .ne (6), 3) := by decide +kernel
theorem d_Fa_build_10 : decode prog_1_method_4_code 10 = .ok (.ldc 96, 2) := by decide +kernel
theorem d_Fa_build_12 : decode prog_1_method_4_code 12 = .ok (.ireturn, 1) := by decide +kernel
theorem d_Fa_build_13 : decode prog_1_method_4_code 13 = .ok (.aload_n 0, 1) := by decide +kernel
theorem d_Fa_build_14 : decode prog_1_method_4_code 14 = .ok (.getfield 40, 3) := by decide +kernel
theorem d_Fa_build_17 : decode prog_1_method_4_code 17 = .ok (.invokevirtual 97, 3) := by decide +kernel
theorem d_Fa_build_20 : decode prog_1_method_4_code 20 = .ok (.aload_n 0, 1) := by decide +kernel
theorem d_Fa_build_21 : decode prog_1_method_4_code 21 = .ok (.getfield 44, 3) := by decide +kernel
theorem d_Fa_build_24 : decode prog_1_method_4_code 24 = .ok (.invokevirtual 100, 3) := by decide +kernel
theorem d_Fa_build_27 : decode prog_1_method_4_code 27 = .ok (.aload_n 0, 1) := by decide +kernel
theorem d_Fa_build_28 : decode prog_1_method_4_code 28 = .ok (.getfield 57, 3) := by decide +kernel
theorem d_Fa_build_31 : decode prog_1_method_4_code 31 = .ok (.invokevirtual 103, 3) := by decide +kernel
theorem d_Fa_build_34 : decode prog_1_method_4_code 34 = .ok (.aload_n 0, 1) := by decide +kernel
theorem d_Fa_build_35 : decode prog_1_method_4_code 35 = .ok (.getfield 64, 3) := by decide +kernel
theorem d_Fa_build_38 : decode prog_1_method_4_code 38 = .ok (.invokevirtual 106, 3) := by decide +kernel
theorem d_Fa_build_41 : decode prog_1_method_4_code 41 = .ok (.aload_n 0, 1) := by decide +kernel
theorem d_Fa_build_42 : decode prog_1_method_4_code 42 = .ok (.getfield 44, 3) := by decide +kernel
theorem d_Fa_build_45 : decode prog_1_method_4_code 45 = .ok (.invokevirtual 107, 3) := by decide +kernel
theorem d_Fa_build_48 : decode prog_1_method_4_code 48 = .ok (.ireturn, 1) := by decide +kernel
theorem d_Gr_hasState_0 : decode prog_4_method_4_code 0 = .ok (.iload_n 1, 1) := by decide +kernel
theorem d_Gr_hasState_1 : decode prog_4_method_4_code 1 = .ok (.ifCond .lt (15), 3) := by decide +kernel
theorem d_Gr_hasState_4 : decode prog_4_method_4_code 4 = .ok (.iload_n 1, 1) := by decide +kernel
theorem d_Gr_hasState_5 : decode prog_4_method_4_code 5 = .ok (.aload_n 0, 1) := by decide +kernel
theorem d_Gr_hasState_6 : decode prog_4_method_4_code 6 = .ok (.getfield 44, 3) := by decide +kernel
theorem d_Gr_hasState_9 : decode prog_4_method_4_code 9 = .ok (.if_icmp .ge (7), 3) := by decide +kernel
theorem d_Gr_hasState_12 : decode prog_4_method_4_code 12 = .ok (.iconst 1, 1) := by decide +kernel
theorem d_Gr_hasState_13 : decode prog_4_method_4_code 13 = .ok (.goto (4), 3) := by decide +kernel
theorem d_Gr_hasState_16 : decode prog_4_method_4_code 16 = .ok (.iconst 0, 1) := by decide +kernel
theorem d_Gr_hasState_17 : decode prog_4_method_4_code 17 = .ok (.ireturn, 1) := by decide +kernel
theorem d_Gr_kindOf_0 : decode prog_4_method_5_code 0 = .ok (.aload_n 0, 1) := by decide +kernel
theorem d_Gr_kindOf_1 : decode prog_4_method_5_code 1 = .ok (.getfield 9, 3) := by decide +kernel
theorem d_Gr_kindOf_4 : decode prog_4_method_5_code 4 = .ok (.iload_n 1, 1) := by decide +kernel
theorem d_Gr_kindOf_5 : decode prog_4_method_5_code 5 = .ok (.iaload, 1) := by decide +kernel
theorem d_Gr_kindOf_6 : decode prog_4_method_5_code 6 = .ok (.ireturn, 1) := by decide +kernel
theorem d_Fa_kind_0 : decode prog_1_method_5_code 0 = .ok (.aload_n 0, 1) := by decide +kernel
theorem d_Fa_kind_1 : decode prog_1_method_5_code 1 = .ok (.getfield 44, 3) := by decide +kernel
theorem d_Fa_kind_4 : decode prog_1_method_5_code 4 = .ok (.iload_n 1, 1) := by decide +kernel
theorem d_Fa_kind_5 : decode prog_1_method_5_code 5 = .ok (.invokevirtual 111, 3) := by decide +kernel
theorem d_Fa_kind_8 : decode prog_1_method_5_code 8 = .ok (.ifCond .eq (14), 3) := by decide +kernel
theorem d_Fa_kind_11 : decode prog_1_method_5_code 11 = .ok (.aload_n 0, 1) := by decide +kernel
theorem d_Fa_kind_12 : decode prog_1_method_5_code 12 = .ok (.getfield 44, 3) := by decide +kernel
theorem d_Fa_kind_15 : decode prog_1_method_5_code 15 = .ok (.iload_n 1, 1) := by decide +kernel
theorem d_Fa_kind_16 : decode prog_1_method_5_code 16 = .ok (.invokevirtual 115, 3) := by decide +kernel
theorem d_Fa_kind_19 : decode prog_1_method_5_code 19 = .ok (.goto (5), 3) := by decide +kernel
theorem d_Fa_kind_22 : decode prog_1_method_5_code 22 = .ok (.ldc 96, 2) := by decide +kernel
theorem d_Fa_kind_24 : decode prog_1_method_5_code 24 = .ok (.ireturn, 1) := by decide +kernel
theorem d_Gr_nodeOf_0 : decode prog_4_method_6_code 0 = .ok (.aload_n 0, 1) := by decide +kernel
theorem d_Gr_nodeOf_1 : decode prog_4_method_6_code 1 = .ok (.getfield 15, 3) := by decide +kernel
theorem d_Gr_nodeOf_4 : decode prog_4_method_6_code 4 = .ok (.iload_n 1, 1) := by decide +kernel
theorem d_Gr_nodeOf_5 : decode prog_4_method_6_code 5 = .ok (.iaload, 1) := by decide +kernel
theorem d_Gr_nodeOf_6 : decode prog_4_method_6_code 6 = .ok (.ireturn, 1) := by decide +kernel
theorem d_Fa_node_0 : decode prog_1_method_6_code 0 = .ok (.aload_n 0, 1) := by decide +kernel
theorem d_Fa_node_1 : decode prog_1_method_6_code 1 = .ok (.getfield 44, 3) := by decide +kernel
theorem d_Fa_node_4 : decode prog_1_method_6_code 4 = .ok (.iload_n 1, 1) := by decide +kernel
theorem d_Fa_node_5 : decode prog_1_method_6_code 5 = .ok (.invokevirtual 111, 3) := by decide +kernel
theorem d_Fa_node_8 : decode prog_1_method_6_code 8 = .ok (.ifCond .eq (14), 3) := by decide +kernel
theorem d_Fa_node_11 : decode prog_1_method_6_code 11 = .ok (.aload_n 0, 1) := by decide +kernel
theorem d_Fa_node_12 : decode prog_1_method_6_code 12 = .ok (.getfield 44, 3) := by decide +kernel
theorem d_Fa_node_15 : decode prog_1_method_6_code 15 = .ok (.iload_n 1, 1) := by decide +kernel
theorem d_Fa_node_16 : decode prog_1_method_6_code 16 = .ok (.invokevirtual 119, 3) := by decide +kernel
theorem d_Fa_node_19 : decode prog_1_method_6_code 19 = .ok (.goto (5), 3) := by decide +kernel
theorem d_Fa_node_22 : decode prog_1_method_6_code 22 = .ok (.ldc 96, 2) := by decide +kernel
theorem d_Fa_node_24 : decode prog_1_method_6_code 24 = .ok (.ireturn, 1) := by decide +kernel
theorem d_Gr_hasTarget_0 : decode prog_4_method_7_code 0 = .ok (.aload_n 0, 1) := by decide +kernel
theorem d_Gr_hasTarget_1 : decode prog_4_method_7_code 1 = .ok (.iload_n 1, 1) := by decide +kernel
theorem d_Gr_hasTarget_2 : decode prog_4_method_7_code 2 = .ok (.invokevirtual 48, 3) := by decide +kernel
theorem d_Gr_hasTarget_5 : decode prog_4_method_7_code 5 = .ok (.ifCond .eq (21), 3) := by decide +kernel
theorem d_Gr_hasTarget_8 : decode prog_4_method_7_code 8 = .ok (.iload_n 2, 1) := by decide +kernel
theorem d_Gr_hasTarget_9 : decode prog_4_method_7_code 9 = .ok (.ifCond .lt (17), 3) := by decide +kernel
theorem d_Gr_hasTarget_12 : decode prog_4_method_7_code 12 = .ok (.iload_n 2, 1) := by decide +kernel
theorem d_Gr_hasTarget_13 : decode prog_4_method_7_code 13 = .ok (.aload_n 0, 1) := by decide +kernel
theorem d_Gr_hasTarget_14 : decode prog_4_method_7_code 14 = .ok (.getfield 24, 3) := by decide +kernel
theorem d_Gr_hasTarget_17 : decode prog_4_method_7_code 17 = .ok (.iload_n 1, 1) := by decide +kernel
theorem d_Gr_hasTarget_18 : decode prog_4_method_7_code 18 = .ok (.iaload, 1) := by decide +kernel
theorem d_Gr_hasTarget_19 : decode prog_4_method_7_code 19 = .ok (.if_icmp .ge (7), 3) := by decide +kernel
theorem d_Gr_hasTarget_22 : decode prog_4_method_7_code 22 = .ok (.iconst 1, 1) := by decide +kernel
theorem d_Gr_hasTarget_23 : decode prog_4_method_7_code 23 = .ok (.goto (4), 3) := by decide +kernel
theorem d_Gr_hasTarget_26 : decode prog_4_method_7_code 26 = .ok (.iconst 0, 1) := by decide +kernel
theorem d_Gr_hasTarget_27 : decode prog_4_method_7_code 27 = .ok (.ireturn, 1) := by decide +kernel
theorem d_Fa_target_0 : decode prog_1_method_7_code 0 = .ok (.aload_n 0, 1) := by decide +kernel
theorem d_Fa_target_1 : decode prog_1_method_7_code 1 = .ok (.getfield 44, 3) := by decide +kernel
theorem d_Fa_target_4 : decode prog_1_method_7_code 4 = .ok (.iload_n 1, 1) := by decide +kernel
theorem d_Fa_target_5 : decode prog_1_method_7_code 5 = .ok (.iload_n 2, 1) := by decide +kernel
theorem d_Fa_target_6 : decode prog_1_method_7_code 6 = .ok (.invokevirtual 122, 3) := by decide +kernel
theorem d_Fa_target_9 : decode prog_1_method_7_code 9 = .ok (.ifCond .eq (15), 3) := by decide +kernel
theorem d_Fa_target_12 : decode prog_1_method_7_code 12 = .ok (.aload_n 0, 1) := by decide +kernel
theorem d_Fa_target_13 : decode prog_1_method_7_code 13 = .ok (.getfield 44, 3) := by decide +kernel
theorem d_Fa_target_16 : decode prog_1_method_7_code 16 = .ok (.iload_n 1, 1) := by decide +kernel
theorem d_Fa_target_17 : decode prog_1_method_7_code 17 = .ok (.iload_n 2, 1) := by decide +kernel
theorem d_Fa_target_18 : decode prog_1_method_7_code 18 = .ok (.invokevirtual 126, 3) := by decide +kernel
theorem d_Fa_target_21 : decode prog_1_method_7_code 21 = .ok (.goto (5), 3) := by decide +kernel
theorem d_Fa_target_24 : decode prog_1_method_7_code 24 = .ok (.ldc 96, 2) := by decide +kernel
theorem d_Fa_target_26 : decode prog_1_method_7_code 26 = .ok (.ireturn, 1) := by decide +kernel
theorem d_Gr_stepScore_0 : decode prog_4_method_10_code 0 = .ok (.aload_n 0, 1) := by decide +kernel
theorem d_Gr_stepScore_1 : decode prog_4_method_10_code 1 = .ok (.getfield 30, 3) := by decide +kernel
theorem d_Gr_stepScore_4 : decode prog_4_method_10_code 4 = .ok (.iload_n 1, 1) := by decide +kernel
theorem d_Gr_stepScore_5 : decode prog_4_method_10_code 5 = .ok (.bipush (6), 2) := by decide +kernel
theorem d_Gr_stepScore_7 : decode prog_4_method_10_code 7 = .ok (.imul, 1) := by decide +kernel
theorem d_Gr_stepScore_8 : decode prog_4_method_10_code 8 = .ok (.iload_n 2, 1) := by decide +kernel
theorem d_Gr_stepScore_9 : decode prog_4_method_10_code 9 = .ok (.iadd, 1) := by decide +kernel
theorem d_Gr_stepScore_10 : decode prog_4_method_10_code 10 = .ok (.iaload, 1) := by decide +kernel
theorem d_Gr_stepScore_11 : decode prog_4_method_10_code 11 = .ok (.ireturn, 1) := by decide +kernel
theorem d_Fa_step_0 : decode prog_1_method_8_code 0 = .ok (.aload_n 0, 1) := by decide +kernel
theorem d_Fa_step_1 : decode prog_1_method_8_code 1 = .ok (.getfield 44, 3) := by decide +kernel
theorem d_Fa_step_4 : decode prog_1_method_8_code 4 = .ok (.iload_n 1, 1) := by decide +kernel
theorem d_Fa_step_5 : decode prog_1_method_8_code 5 = .ok (.iload_n 2, 1) := by decide +kernel
theorem d_Fa_step_6 : decode prog_1_method_8_code 6 = .ok (.invokevirtual 122, 3) := by decide +kernel
theorem d_Fa_step_9 : decode prog_1_method_8_code 9 = .ok (.ifCond .eq (15), 3) := by decide +kernel
theorem d_Fa_step_12 : decode prog_1_method_8_code 12 = .ok (.aload_n 0, 1) := by decide +kernel
theorem d_Fa_step_13 : decode prog_1_method_8_code 13 = .ok (.getfield 44, 3) := by decide +kernel
theorem d_Fa_step_16 : decode prog_1_method_8_code 16 = .ok (.iload_n 1, 1) := by decide +kernel
theorem d_Fa_step_17 : decode prog_1_method_8_code 17 = .ok (.iload_n 2, 1) := by decide +kernel
theorem d_Fa_step_18 : decode prog_1_method_8_code 18 = .ok (.invokevirtual 129, 3) := by decide +kernel
theorem d_Fa_step_21 : decode prog_1_method_8_code 21 = .ok (.goto (5), 3) := by decide +kernel
theorem d_Fa_step_24 : decode prog_1_method_8_code 24 = .ok (.ldc 96, 2) := by decide +kernel
theorem d_Fa_step_26 : decode prog_1_method_8_code 26 = .ok (.ireturn, 1) := by decide +kernel
theorem d_Gr_letterScore_0 : decode prog_4_method_11_code 0 = .ok (.aload_n 0, 1) := by decide +kernel
theorem d_Gr_letterScore_1 : decode prog_4_method_11_code 1 = .ok (.getfield 33, 3) := by decide +kernel
theorem d_Gr_letterScore_4 : decode prog_4_method_11_code 4 = .ok (.iload_n 1, 1) := by decide +kernel
theorem d_Gr_letterScore_5 : decode prog_4_method_11_code 5 = .ok (.bipush (16), 2) := by decide +kernel
theorem d_Gr_letterScore_7 : decode prog_4_method_11_code 7 = .ok (.imul, 1) := by decide +kernel
theorem d_Gr_letterScore_8 : decode prog_4_method_11_code 8 = .ok (.iload_n 2, 1) := by decide +kernel
theorem d_Gr_letterScore_9 : decode prog_4_method_11_code 9 = .ok (.iconst 4, 1) := by decide +kernel
theorem d_Gr_letterScore_10 : decode prog_4_method_11_code 10 = .ok (.imul, 1) := by decide +kernel
theorem d_Gr_letterScore_11 : decode prog_4_method_11_code 11 = .ok (.iadd, 1) := by decide +kernel
theorem d_Gr_letterScore_12 : decode prog_4_method_11_code 12 = .ok (.iload_n 3, 1) := by decide +kernel
theorem d_Gr_letterScore_13 : decode prog_4_method_11_code 13 = .ok (.iadd, 1) := by decide +kernel
theorem d_Gr_letterScore_14 : decode prog_4_method_11_code 14 = .ok (.iaload, 1) := by decide +kernel
theorem d_Gr_letterScore_15 : decode prog_4_method_11_code 15 = .ok (.ireturn, 1) := by decide +kernel
theorem d_Fa_emits_0 : decode prog_1_method_9_code 0 = .ok (.aload_n 0, 1) := by decide +kernel
theorem d_Fa_emits_1 : decode prog_1_method_9_code 1 = .ok (.getfield 44, 3) := by decide +kernel
theorem d_Fa_emits_4 : decode prog_1_method_9_code 4 = .ok (.iload_n 1, 1) := by decide +kernel
theorem d_Fa_emits_5 : decode prog_1_method_9_code 5 = .ok (.invokevirtual 111, 3) := by decide +kernel
theorem d_Fa_emits_8 : decode prog_1_method_9_code 8 = .ok (.ifCond .eq (10), 3) := by decide +kernel
theorem d_Fa_emits_11 : decode prog_1_method_9_code 11 = .ok (.iload_n 2, 1) := by decide +kernel
theorem d_Fa_emits_12 : decode prog_1_method_9_code 12 = .ok (.invokestatic 132, 3) := by decide +kernel
theorem d_Fa_emits_15 : decode prog_1_method_9_code 15 = .ok (.ifCond .ne (6), 3) := by decide +kernel
theorem d_Fa_emits_18 : decode prog_1_method_9_code 18 = .ok (.ldc 96, 2) := by decide +kernel
theorem d_Fa_emits_20 : decode prog_1_method_9_code 20 = .ok (.ireturn, 1) := by decide +kernel
theorem d_Fa_emits_21 : decode prog_1_method_9_code 21 = .ok (.aload_n 0, 1) := by decide +kernel
theorem d_Fa_emits_22 : decode prog_1_method_9_code 22 = .ok (.getfield 44, 3) := by decide +kernel
theorem d_Fa_emits_25 : decode prog_1_method_9_code 25 = .ok (.iload_n 1, 1) := by decide +kernel
theorem d_Fa_emits_26 : decode prog_1_method_9_code 26 = .ok (.invokevirtual 115, 3) := by decide +kernel
theorem d_Fa_emits_29 : decode prog_1_method_9_code 29 = .ok (.istore 4, 2) := by decide +kernel
theorem d_Fa_emits_31 : decode prog_1_method_9_code 31 = .ok (.iload 4, 2) := by decide +kernel
theorem d_Fa_emits_33 : decode prog_1_method_9_code 33 = .ok (.iconst 1, 1) := by decide +kernel
theorem d_Fa_emits_34 : decode prog_1_method_9_code 34 = .ok (.if_icmp .ne (26), 3) := by decide +kernel
theorem d_Fa_emits_37 : decode prog_1_method_9_code 37 = .ok (.iload_n 3, 1) := by decide +kernel
theorem d_Fa_emits_38 : decode prog_1_method_9_code 38 = .ok (.invokestatic 132, 3) := by decide +kernel
theorem d_Fa_emits_41 : decode prog_1_method_9_code 41 = .ok (.ifCond .eq (16), 3) := by decide +kernel
theorem d_Fa_emits_44 : decode prog_1_method_9_code 44 = .ok (.aload_n 0, 1) := by decide +kernel
theorem d_Fa_emits_45 : decode prog_1_method_9_code 45 = .ok (.getfield 44, 3) := by decide +kernel
theorem d_Fa_emits_48 : decode prog_1_method_9_code 48 = .ok (.iload_n 1, 1) := by decide +kernel
theorem d_Fa_emits_49 : decode prog_1_method_9_code 49 = .ok (.iload_n 2, 1) := by decide +kernel
theorem d_Fa_emits_50 : decode prog_1_method_9_code 50 = .ok (.iload_n 3, 1) := by decide +kernel
theorem d_Fa_emits_51 : decode prog_1_method_9_code 51 = .ok (.invokevirtual 135, 3) := by decide +kernel
theorem d_Fa_emits_54 : decode prog_1_method_9_code 54 = .ok (.goto (5), 3) := by decide +kernel
theorem d_Fa_emits_57 : decode prog_1_method_9_code 57 = .ok (.ldc 96, 2) := by decide +kernel
theorem d_Fa_emits_59 : decode prog_1_method_9_code 59 = .ok (.ireturn, 1) := by decide +kernel
theorem d_Fa_emits_60 : decode prog_1_method_9_code 60 = .ok (.iload 4, 2) := by decide +kernel
theorem d_Fa_emits_62 : decode prog_1_method_9_code 62 = .ok (.invokestatic 139, 3) := by decide +kernel
theorem d_Fa_emits_65 : decode prog_1_method_9_code 65 = .ok (.ifCond .le (16), 3) := by decide +kernel
theorem d_Fa_emits_68 : decode prog_1_method_9_code 68 = .ok (.aload_n 0, 1) := by decide +kernel
theorem d_Fa_emits_69 : decode prog_1_method_9_code 69 = .ok (.getfield 44, 3) := by decide +kernel
theorem d_Fa_emits_72 : decode prog_1_method_9_code 72 = .ok (.iload_n 1, 1) := by decide +kernel
theorem d_Fa_emits_73 : decode prog_1_method_9_code 73 = .ok (.iload_n 2, 1) := by decide +kernel
theorem d_Fa_emits_74 : decode prog_1_method_9_code 74 = .ok (.iconst 0, 1) := by decide +kernel
theorem d_Fa_emits_75 : decode prog_1_method_9_code 75 = .ok (.invokevirtual 135, 3) := by decide +kernel
theorem d_Fa_emits_78 : decode prog_1_method_9_code 78 = .ok (.goto (5), 3) := by decide +kernel
theorem d_Fa_emits_81 : decode prog_1_method_9_code 81 = .ok (.ldc 96, 2) := by decide +kernel
theorem d_Fa_emits_83 : decode prog_1_method_9_code 83 = .ok (.ireturn, 1) := by decide +kernel
theorem d_Tx_room_0 : decode prog_6_method_3_code 0 = .ok (.bipush (24), 2) := by decide +kernel
theorem d_Tx_room_2 : decode prog_6_method_3_code 2 = .ok (.aload_n 0, 1) := by decide +kernel
theorem d_Tx_room_3 : decode prog_6_method_3_code 3 = .ok (.getfield 15, 3) := by decide +kernel
theorem d_Tx_room_6 : decode prog_6_method_3_code 6 = .ok (.isub, 1) := by decide +kernel
theorem d_Tx_room_7 : decode prog_6_method_3_code 7 = .ok (.ireturn, 1) := by decide +kernel
theorem d_Tx_append_0 : decode prog_6_method_6_code 0 = .ok (.iconst 0, 1) := by decide +kernel
theorem d_Tx_append_1 : decode prog_6_method_6_code 1 = .ok (.istore_n 3, 1) := by decide +kernel
theorem d_Tx_append_2 : decode prog_6_method_6_code 2 = .ok (.iload_n 3, 1) := by decide +kernel
theorem d_Tx_append_3 : decode prog_6_method_6_code 3 = .ok (.iload_n 2, 1) := by decide +kernel
theorem d_Tx_append_4 : decode prog_6_method_6_code 4 = .ok (.if_icmp .ge (35), 3) := by decide +kernel
theorem d_Tx_append_7 : decode prog_6_method_6_code 7 = .ok (.aload_n 0, 1) := by decide +kernel
theorem d_Tx_append_8 : decode prog_6_method_6_code 8 = .ok (.getfield 9, 3) := by decide +kernel
theorem d_Tx_append_11 : decode prog_6_method_6_code 11 = .ok (.aload_n 0, 1) := by decide +kernel
theorem d_Tx_append_12 : decode prog_6_method_6_code 12 = .ok (.getfield 15, 3) := by decide +kernel
theorem d_Tx_append_15 : decode prog_6_method_6_code 15 = .ok (.iload_n 1, 1) := by decide +kernel
theorem d_Tx_append_16 : decode prog_6_method_6_code 16 = .ok (.iconst 2, 1) := by decide +kernel
theorem d_Tx_append_17 : decode prog_6_method_6_code 17 = .ok (.iload_n 3, 1) := by decide +kernel
theorem d_Tx_append_18 : decode prog_6_method_6_code 18 = .ok (.imul, 1) := by decide +kernel
theorem d_Tx_append_19 : decode prog_6_method_6_code 19 = .ok (.iushr, 1) := by decide +kernel
theorem d_Tx_append_20 : decode prog_6_method_6_code 20 = .ok (.iconst 3, 1) := by decide +kernel
theorem d_Tx_append_21 : decode prog_6_method_6_code 21 = .ok (.iand, 1) := by decide +kernel
theorem d_Tx_append_22 : decode prog_6_method_6_code 22 = .ok (.iastore, 1) := by decide +kernel
theorem d_Tx_append_23 : decode prog_6_method_6_code 23 = .ok (.aload_n 0, 1) := by decide +kernel
theorem d_Tx_append_24 : decode prog_6_method_6_code 24 = .ok (.dup, 1) := by decide +kernel
theorem d_Tx_append_25 : decode prog_6_method_6_code 25 = .ok (.getfield 15, 3) := by decide +kernel
theorem d_Tx_append_28 : decode prog_6_method_6_code 28 = .ok (.iconst 1, 1) := by decide +kernel
theorem d_Tx_append_29 : decode prog_6_method_6_code 29 = .ok (.iadd, 1) := by decide +kernel
theorem d_Tx_append_30 : decode prog_6_method_6_code 30 = .ok (.putfield 15, 3) := by decide +kernel
theorem d_Tx_append_33 : decode prog_6_method_6_code 33 = .ok (.iinc 3 (1), 3) := by decide +kernel
theorem d_Tx_append_36 : decode prog_6_method_6_code 36 = .ok (.goto (-34), 3) := by decide +kernel
theorem d_Tx_append_39 : decode prog_6_method_6_code 39 = .ok (.return_, 1) := by decide +kernel
theorem d_Tx_length_0 : decode prog_6_method_2_code 0 = .ok (.aload_n 0, 1) := by decide +kernel
theorem d_Tx_length_1 : decode prog_6_method_2_code 1 = .ok (.getfield 15, 3) := by decide +kernel
theorem d_Tx_length_4 : decode prog_6_method_2_code 4 = .ok (.ireturn, 1) := by decide +kernel
theorem d_Fa_feed_0 : decode prog_1_method_10_code 0 = .ok (.iload_n 2, 1) := by decide +kernel
theorem d_Fa_feed_1 : decode prog_1_method_10_code 1 = .ok (.iconst 1, 1) := by decide +kernel
theorem d_Fa_feed_2 : decode prog_1_method_10_code 2 = .ok (.if_icmp .lt (20), 3) := by decide +kernel
theorem d_Fa_feed_5 : decode prog_1_method_10_code 5 = .ok (.iload_n 2, 1) := by decide +kernel
theorem d_Fa_feed_6 : decode prog_1_method_10_code 6 = .ok (.bipush (12), 2) := by decide +kernel
theorem d_Fa_feed_8 : decode prog_1_method_10_code 8 = .ok (.if_icmp .gt (14), 3) := by decide +kernel
theorem d_Fa_feed_11 : decode prog_1_method_10_code 11 = .ok (.iload_n 2, 1) := by decide +kernel
theorem d_Fa_feed_12 : decode prog_1_method_10_code 12 = .ok (.aload_n 0, 1) := by decide +kernel
theorem d_Fa_feed_13 : decode prog_1_method_10_code 13 = .ok (.getfield 48, 3) := by decide +kernel
theorem d_Fa_feed_16 : decode prog_1_method_10_code 16 = .ok (.invokevirtual 142, 3) := by decide +kernel
theorem d_Fa_feed_19 : decode prog_1_method_10_code 19 = .ok (.if_icmp .le (6), 3) := by decide +kernel
theorem d_Fa_feed_22 : decode prog_1_method_10_code 22 = .ok (.ldc 96, 2) := by decide +kernel
theorem d_Fa_feed_24 : decode prog_1_method_10_code 24 = .ok (.ireturn, 1) := by decide +kernel
theorem d_Fa_feed_25 : decode prog_1_method_10_code 25 = .ok (.aload_n 0, 1) := by decide +kernel
theorem d_Fa_feed_26 : decode prog_1_method_10_code 26 = .ok (.getfield 48, 3) := by decide +kernel
theorem d_Fa_feed_29 : decode prog_1_method_10_code 29 = .ok (.iload_n 1, 1) := by decide +kernel
theorem d_Fa_feed_30 : decode prog_1_method_10_code 30 = .ok (.iload_n 2, 1) := by decide +kernel
theorem d_Fa_feed_31 : decode prog_1_method_10_code 31 = .ok (.invokevirtual 145, 3) := by decide +kernel
theorem d_Fa_feed_34 : decode prog_1_method_10_code 34 = .ok (.aload_n 0, 1) := by decide +kernel
theorem d_Fa_feed_35 : decode prog_1_method_10_code 35 = .ok (.getfield 64, 3) := by decide +kernel
theorem d_Fa_feed_38 : decode prog_1_method_10_code 38 = .ok (.invokevirtual 106, 3) := by decide +kernel
theorem d_Fa_feed_41 : decode prog_1_method_10_code 41 = .ok (.aload_n 0, 1) := by decide +kernel
theorem d_Fa_feed_42 : decode prog_1_method_10_code 42 = .ok (.getfield 48, 3) := by decide +kernel
theorem d_Fa_feed_45 : decode prog_1_method_10_code 45 = .ok (.invokevirtual 149, 3) := by decide +kernel
theorem d_Fa_feed_48 : decode prog_1_method_10_code 48 = .ok (.ireturn, 1) := by decide +kernel
theorem d_Tx_empty_0 : decode prog_6_method_7_code 0 = .ok (.aload_n 0, 1) := by decide +kernel
theorem d_Tx_empty_1 : decode prog_6_method_7_code 1 = .ok (.iconst 0, 1) := by decide +kernel
theorem d_Tx_empty_2 : decode prog_6_method_7_code 2 = .ok (.putfield 15, 3) := by decide +kernel
theorem d_Tx_empty_5 : decode prog_6_method_7_code 5 = .ok (.return_, 1) := by decide +kernel
theorem d_Fa_erase_0 : decode prog_1_method_11_code 0 = .ok (.aload_n 0, 1) := by decide +kernel
theorem d_Fa_erase_1 : decode prog_1_method_11_code 1 = .ok (.getfield 48, 3) := by decide +kernel
theorem d_Fa_erase_4 : decode prog_1_method_11_code 4 = .ok (.invokevirtual 152, 3) := by decide +kernel
theorem d_Fa_erase_7 : decode prog_1_method_11_code 7 = .ok (.aload_n 0, 1) := by decide +kernel
theorem d_Fa_erase_8 : decode prog_1_method_11_code 8 = .ok (.getfield 57, 3) := by decide +kernel
theorem d_Fa_erase_11 : decode prog_1_method_11_code 11 = .ok (.invokevirtual 103, 3) := by decide +kernel
theorem d_Fa_erase_14 : decode prog_1_method_11_code 14 = .ok (.aload_n 0, 1) := by decide +kernel
theorem d_Fa_erase_15 : decode prog_1_method_11_code 15 = .ok (.getfield 64, 3) := by decide +kernel
theorem d_Fa_erase_18 : decode prog_1_method_11_code 18 = .ok (.invokevirtual 106, 3) := by decide +kernel
theorem d_Fa_erase_21 : decode prog_1_method_11_code 21 = .ok (.return_, 1) := by decide +kernel
theorem d_Tx_hasPart_0 : decode prog_6_method_5_code 0 = .ok (.iload_n 1, 1) := by decide +kernel
theorem d_Tx_hasPart_1 : decode prog_6_method_5_code 1 = .ok (.ifCond .lt (29), 3) := by decide +kernel
theorem d_Tx_hasPart_4 : decode prog_6_method_5_code 4 = .ok (.iload_n 2, 1) := by decide +kernel
theorem d_Tx_hasPart_5 : decode prog_6_method_5_code 5 = .ok (.ifCond .lt (25), 3) := by decide +kernel
theorem d_Tx_hasPart_8 : decode prog_6_method_5_code 8 = .ok (.iload_n 2, 1) := by decide +kernel
theorem d_Tx_hasPart_9 : decode prog_6_method_5_code 9 = .ok (.aload_n 0, 1) := by decide +kernel
theorem d_Tx_hasPart_10 : decode prog_6_method_5_code 10 = .ok (.getfield 15, 3) := by decide +kernel
theorem d_Tx_hasPart_13 : decode prog_6_method_5_code 13 = .ok (.if_icmp .gt (17), 3) := by decide +kernel
theorem d_Tx_hasPart_16 : decode prog_6_method_5_code 16 = .ok (.iload_n 1, 1) := by decide +kernel
theorem d_Tx_hasPart_17 : decode prog_6_method_5_code 17 = .ok (.aload_n 0, 1) := by decide +kernel
theorem d_Tx_hasPart_18 : decode prog_6_method_5_code 18 = .ok (.getfield 15, 3) := by decide +kernel
theorem d_Tx_hasPart_21 : decode prog_6_method_5_code 21 = .ok (.iload_n 2, 1) := by decide +kernel
theorem d_Tx_hasPart_22 : decode prog_6_method_5_code 22 = .ok (.isub, 1) := by decide +kernel
theorem d_Tx_hasPart_23 : decode prog_6_method_5_code 23 = .ok (.if_icmp .gt (7), 3) := by decide +kernel
theorem d_Tx_hasPart_26 : decode prog_6_method_5_code 26 = .ok (.iconst 1, 1) := by decide +kernel
theorem d_Tx_hasPart_27 : decode prog_6_method_5_code 27 = .ok (.goto (4), 3) := by decide +kernel
theorem d_Tx_hasPart_30 : decode prog_6_method_5_code 30 = .ok (.iconst 0, 1) := by decide +kernel
theorem d_Tx_hasPart_31 : decode prog_6_method_5_code 31 = .ok (.ireturn, 1) := by decide +kernel
theorem d_Va_place_0 : decode prog_8_method_14_code 0 = .ok (.iload_n 0, 1) := by decide +kernel
theorem d_Va_place_1 : decode prog_8_method_14_code 1 = .ok (.sipush (247), 3) := by decide +kernel
theorem d_Va_place_4 : decode prog_8_method_14_code 4 = .ok (.imul, 1) := by decide +kernel
theorem d_Va_place_5 : decode prog_8_method_14_code 5 = .ok (.iload_n 2, 1) := by decide +kernel
theorem d_Va_place_6 : decode prog_8_method_14_code 6 = .ok (.bipush (25), 2) := by decide +kernel
theorem d_Va_place_8 : decode prog_8_method_14_code 8 = .ok (.imul, 1) := by decide +kernel
theorem d_Va_place_9 : decode prog_8_method_14_code 9 = .ok (.iadd, 1) := by decide +kernel
theorem d_Va_place_10 : decode prog_8_method_14_code 10 = .ok (.iload_n 2, 1) := by decide +kernel
theorem d_Va_place_11 : decode prog_8_method_14_code 11 = .ok (.iload_n 2, 1) := by decide +kernel
theorem d_Va_place_12 : decode prog_8_method_14_code 12 = .ok (.iconst 1, 1) := by decide +kernel
theorem d_Va_place_13 : decode prog_8_method_14_code 13 = .ok (.isub, 1) := by decide +kernel
theorem d_Va_place_14 : decode prog_8_method_14_code 14 = .ok (.imul, 1) := by decide +kernel
theorem d_Va_place_15 : decode prog_8_method_14_code 15 = .ok (.iconst 2, 1) := by decide +kernel
theorem d_Va_place_16 : decode prog_8_method_14_code 16 = .ok (.idiv, 1) := by decide +kernel
theorem d_Va_place_17 : decode prog_8_method_14_code 17 = .ok (.isub, 1) := by decide +kernel
theorem d_Va_place_18 : decode prog_8_method_14_code 18 = .ok (.iload_n 1, 1) := by decide +kernel
theorem d_Va_place_19 : decode prog_8_method_14_code 19 = .ok (.iadd, 1) := by decide +kernel
theorem d_Va_place_20 : decode prog_8_method_14_code 20 = .ok (.ireturn, 1) := by decide +kernel
theorem d_Gr_targetCount_0 : decode prog_4_method_8_code 0 = .ok (.aload_n 0, 1) := by decide +kernel
theorem d_Gr_targetCount_1 : decode prog_4_method_8_code 1 = .ok (.getfield 24, 3) := by decide +kernel
theorem d_Gr_targetCount_4 : decode prog_4_method_8_code 4 = .ok (.iload_n 1, 1) := by decide +kernel
theorem d_Gr_targetCount_5 : decode prog_4_method_8_code 5 = .ok (.iaload, 1) := by decide +kernel
theorem d_Gr_targetCount_6 : decode prog_4_method_8_code 6 = .ok (.ireturn, 1) := by decide +kernel
theorem d_Va_of_0 : decode prog_8_method_5_code 0 = .ok (.aload_n 0, 1) := by decide +kernel
theorem d_Va_of_1 : decode prog_8_method_5_code 1 = .ok (.getfield 9, 3) := by decide +kernel
theorem d_Va_of_4 : decode prog_8_method_5_code 4 = .ok (.iload_n 1, 1) := by decide +kernel
theorem d_Va_of_5 : decode prog_8_method_5_code 5 = .ok (.iload_n 2, 1) := by decide +kernel
theorem d_Va_of_6 : decode prog_8_method_5_code 6 = .ok (.iload_n 3, 1) := by decide +kernel
theorem d_Va_of_7 : decode prog_8_method_5_code 7 = .ok (.invokestatic 38, 3) := by decide +kernel
theorem d_Va_of_10 : decode prog_8_method_5_code 10 = .ok (.iaload, 1) := by decide +kernel
theorem d_Va_of_11 : decode prog_8_method_5_code 11 = .ok (.ireturn, 1) := by decide +kernel
theorem d_Va_throughTarget_0 : decode prog_8_method_12_code 0 = .ok (.aload_n 0, 1) := by decide +kernel
theorem d_Va_throughTarget_1 : decode prog_8_method_12_code 1 = .ok (.aload_n 0, 1) := by decide +kernel
theorem d_Va_throughTarget_2 : decode prog_8_method_12_code 2 = .ok (.getfield 15, 3) := by decide +kernel
theorem d_Va_throughTarget_5 : decode prog_8_method_12_code 5 = .ok (.iload_n 1, 1) := by decide +kernel
theorem d_Va_throughTarget_6 : decode prog_8_method_12_code 6 = .ok (.iload_n 2, 1) := by decide +kernel
theorem d_Va_throughTarget_7 : decode prog_8_method_12_code 7 = .ok (.invokevirtual 84, 3) := by decide +kernel
theorem d_Va_throughTarget_10 : decode prog_8_method_12_code 10 = .ok (.iload_n 3, 1) := by decide +kernel
theorem d_Va_throughTarget_11 : decode prog_8_method_12_code 11 = .ok (.iload 4, 2) := by decide +kernel
theorem d_Va_throughTarget_13 : decode prog_8_method_12_code 13 = .ok (.invokevirtual 45, 3) := by decide +kernel
theorem d_Va_throughTarget_16 : decode prog_8_method_12_code 16 = .ok (.istore 5, 2) := by decide +kernel
theorem d_Va_throughTarget_18 : decode prog_8_method_12_code 18 = .ok (.iload 5, 2) := by decide +kernel
theorem d_Va_throughTarget_20 : decode prog_8_method_12_code 20 = .ok (.ldc 48, 2) := by decide +kernel
theorem d_Va_throughTarget_22 : decode prog_8_method_12_code 22 = .ok (.if_icmp .ne (8), 3) := by decide +kernel
theorem d_Va_throughTarget_25 : decode prog_8_method_12_code 25 = .ok (.ldc 48, 2) := by decide +kernel
theorem d_Va_throughTarget_27 : decode prog_8_method_12_code 27 = .ok (.goto (15), 3) := by decide +kernel
theorem d_Va_throughTarget_30 : decode prog_8_method_12_code 30 = .ok (.iload 5, 2) := by decide +kernel
theorem d_Va_throughTarget_32 : decode prog_8_method_12_code 32 = .ok (.aload_n 0, 1) := by decide +kernel
theorem d_Va_throughTarget_33 : decode prog_8_method_12_code 33 = .ok (.getfield 15, 3) := by decide +kernel
theorem d_Va_throughTarget_36 : decode prog_8_method_12_code 36 = .ok (.iload_n 1, 1) := by decide +kernel
theorem d_Va_throughTarget_37 : decode prog_8_method_12_code 37 = .ok (.iload_n 2, 1) := by decide +kernel
theorem d_Va_throughTarget_38 : decode prog_8_method_12_code 38 = .ok (.invokevirtual 87, 3) := by decide +kernel
theorem d_Va_throughTarget_41 : decode prog_8_method_12_code 41 = .ok (.iadd, 1) := by decide +kernel
theorem d_Va_throughTarget_42 : decode prog_8_method_12_code 42 = .ok (.ireturn, 1) := by decide +kernel
theorem d_Tx_letter_0 : decode prog_6_method_4_code 0 = .ok (.aload_n 0, 1) := by decide +kernel
theorem d_Tx_letter_1 : decode prog_6_method_4_code 1 = .ok (.getfield 9, 3) := by decide +kernel
theorem d_Tx_letter_4 : decode prog_6_method_4_code 4 = .ok (.iload_n 1, 1) := by decide +kernel
theorem d_Tx_letter_5 : decode prog_6_method_4_code 5 = .ok (.iaload, 1) := by decide +kernel
theorem d_Tx_letter_6 : decode prog_6_method_4_code 6 = .ok (.ireturn, 1) := by decide +kernel
theorem d_Va_emitted_0 : decode prog_8_method_13_code 0 = .ok (.aload_n 0, 1) := by decide +kernel
theorem d_Va_emitted_1 : decode prog_8_method_13_code 1 = .ok (.getfield 15, 3) := by decide +kernel
theorem d_Va_emitted_4 : decode prog_8_method_13_code 4 = .ok (.iload_n 1, 1) := by decide +kernel
theorem d_Va_emitted_5 : decode prog_8_method_13_code 5 = .ok (.invokevirtual 49, 3) := by decide +kernel
theorem d_Va_emitted_8 : decode prog_8_method_13_code 8 = .ok (.tableswitch (109) (1) (6) #[40, 69, 87, 109, 69, 87], 40) := by decide +kernel
theorem d_Va_emitted_48 : decode prog_8_method_13_code 48 = .ok (.aload_n 0, 1) := by decide +kernel
theorem d_Va_emitted_49 : decode prog_8_method_13_code 49 = .ok (.getfield 15, 3) := by decide +kernel
theorem d_Va_emitted_52 : decode prog_8_method_13_code 52 = .ok (.iload_n 1, 1) := by decide +kernel
theorem d_Va_emitted_53 : decode prog_8_method_13_code 53 = .ok (.aload_n 0, 1) := by decide +kernel
