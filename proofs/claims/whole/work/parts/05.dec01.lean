/-! decode rows (written by wip/gen) -/
theorem d_Fa_isMark_0 : decode prog_1_method_17_code 0 = .ok (.iload_n 0, 1) := by decide +kernel
theorem d_Fa_isMark_1 : decode prog_1_method_17_code 1 = .ok (.bipush (40), 2) := by decide +kernel
theorem d_Fa_isMark_3 : decode prog_1_method_17_code 3 = .ok (.if_icmp .eq (15), 3) := by decide +kernel
theorem d_Fa_isMark_6 : decode prog_1_method_17_code 6 = .ok (.iload_n 0, 1) := by decide +kernel
theorem d_Fa_isMark_7 : decode prog_1_method_17_code 7 = .ok (.bipush (41), 2) := by decide +kernel
theorem d_Fa_isMark_9 : decode prog_1_method_17_code 9 = .ok (.if_icmp .eq (9), 3) := by decide +kernel
theorem d_Fa_isMark_12 : decode prog_1_method_17_code 12 = .ok (.iload_n 0, 1) := by decide +kernel
theorem d_Fa_isMark_13 : decode prog_1_method_17_code 13 = .ok (.bipush (46), 2) := by decide +kernel
theorem d_Fa_isMark_15 : decode prog_1_method_17_code 15 = .ok (.if_icmp .ne (7), 3) := by decide +kernel
theorem d_Fa_isMark_18 : decode prog_1_method_17_code 18 = .ok (.iconst 1, 1) := by decide +kernel
theorem d_Fa_isMark_19 : decode prog_1_method_17_code 19 = .ok (.goto (4), 3) := by decide +kernel
theorem d_Fa_isMark_22 : decode prog_1_method_17_code 22 = .ok (.iconst 0, 1) := by decide +kernel
theorem d_Fa_isMark_23 : decode prog_1_method_17_code 23 = .ok (.ireturn, 1) := by decide +kernel
theorem d_Co_isFull_0 : decode prog_2_method_3_code 0 = .ok (.aload_n 0, 1) := by decide +kernel
theorem d_Co_isFull_1 : decode prog_2_method_3_code 1 = .ok (.getfield 29, 3) := by decide +kernel
theorem d_Co_isFull_4 : decode prog_2_method_3_code 4 = .ok (.bipush (8), 2) := by decide +kernel
theorem d_Co_isFull_6 : decode prog_2_method_3_code 6 = .ok (.if_icmp .lt (7), 3) := by decide +kernel
theorem d_Co_isFull_9 : decode prog_2_method_3_code 9 = .ok (.iconst 1, 1) := by decide +kernel
theorem d_Co_isFull_10 : decode prog_2_method_3_code 10 = .ok (.goto (4), 3) := by decide +kernel
theorem d_Co_isFull_13 : decode prog_2_method_3_code 13 = .ok (.iconst 0, 1) := by decide +kernel
theorem d_Co_isFull_14 : decode prog_2_method_3_code 14 = .ok (.ireturn, 1) := by decide +kernel
theorem d_Fa_isLetter_0 : decode prog_1_method_18_code 0 = .ok (.iload_n 0, 1) := by decide +kernel
theorem d_Fa_isLetter_1 : decode prog_1_method_18_code 1 = .ok (.ifCond .lt (12), 3) := by decide +kernel
theorem d_Fa_isLetter_4 : decode prog_1_method_18_code 4 = .ok (.iload_n 0, 1) := by decide +kernel
theorem d_Fa_isLetter_5 : decode prog_1_method_18_code 5 = .ok (.iconst 4, 1) := by decide +kernel
theorem d_Fa_isLetter_6 : decode prog_1_method_18_code 6 = .ok (.if_icmp .ge (7), 3) := by decide +kernel
theorem d_Fa_isLetter_9 : decode prog_1_method_18_code 9 = .ok (.iconst 1, 1) := by decide +kernel
theorem d_Fa_isLetter_10 : decode prog_1_method_18_code 10 = .ok (.goto (4), 3) := by decide +kernel
theorem d_Fa_isLetter_13 : decode prog_1_method_18_code 13 = .ok (.iconst 0, 1) := by decide +kernel
theorem d_Fa_isLetter_14 : decode prog_1_method_18_code 14 = .ok (.ireturn, 1) := by decide +kernel
theorem d_Co_add_0 : decode prog_2_method_4_code 0 = .ok (.aload_n 0, 1) := by decide +kernel
theorem d_Co_add_1 : decode prog_2_method_4_code 1 = .ok (.getfield 9, 3) := by decide +kernel
theorem d_Co_add_4 : decode prog_2_method_4_code 4 = .ok (.aload_n 0, 1) := by decide +kernel
theorem d_Co_add_5 : decode prog_2_method_4_code 5 = .ok (.getfield 29, 3) := by decide +kernel
theorem d_Co_add_8 : decode prog_2_method_4_code 8 = .ok (.iload_n 1, 1) := by decide +kernel
theorem d_Co_add_9 : decode prog_2_method_4_code 9 = .ok (.castore, 1) := by decide +kernel
theorem d_Co_add_10 : decode prog_2_method_4_code 10 = .ok (.iconst 0, 1) := by decide +kernel
theorem d_Co_add_11 : decode prog_2_method_4_code 11 = .ok (.istore_n 3, 1) := by decide +kernel
theorem d_Co_add_12 : decode prog_2_method_4_code 12 = .ok (.iload_n 3, 1) := by decide +kernel
theorem d_Co_add_13 : decode prog_2_method_4_code 13 = .ok (.iconst 4, 1) := by decide +kernel
theorem d_Co_add_14 : decode prog_2_method_4_code 14 = .ok (.if_icmp .ge (23), 3) := by decide +kernel
theorem d_Co_add_17 : decode prog_2_method_4_code 17 = .ok (.aload_n 0, 1) := by decide +kernel
theorem d_Co_add_18 : decode prog_2_method_4_code 18 = .ok (.getfield 15, 3) := by decide +kernel
theorem d_Co_add_21 : decode prog_2_method_4_code 21 = .ok (.aload_n 0, 1) := by decide +kernel
theorem d_Co_add_22 : decode prog_2_method_4_code 22 = .ok (.getfield 29, 3) := by decide +kernel
theorem d_Co_add_25 : decode prog_2_method_4_code 25 = .ok (.iconst 4, 1) := by decide +kernel
theorem d_Co_add_26 : decode prog_2_method_4_code 26 = .ok (.imul, 1) := by decide +kernel
theorem d_Co_add_27 : decode prog_2_method_4_code 27 = .ok (.iload_n 3, 1) := by decide +kernel
theorem d_Co_add_28 : decode prog_2_method_4_code 28 = .ok (.iadd, 1) := by decide +kernel
theorem d_Co_add_29 : decode prog_2_method_4_code 29 = .ok (.iconst 0, 1) := by decide +kernel
theorem d_Co_add_30 : decode prog_2_method_4_code 30 = .ok (.iastore, 1) := by decide +kernel
theorem d_Co_add_31 : decode prog_2_method_4_code 31 = .ok (.iinc 3 (1), 3) := by decide +kernel
theorem d_Co_add_34 : decode prog_2_method_4_code 34 = .ok (.goto (-22), 3) := by decide +kernel
theorem d_Co_add_37 : decode prog_2_method_4_code 37 = .ok (.iconst 0, 1) := by decide +kernel
theorem d_Co_add_38 : decode prog_2_method_4_code 38 = .ok (.istore_n 3, 1) := by decide +kernel
theorem d_Co_add_39 : decode prog_2_method_4_code 39 = .ok (.iload_n 3, 1) := by decide +kernel
theorem d_Co_add_40 : decode prog_2_method_4_code 40 = .ok (.aload_n 0, 1) := by decide +kernel
theorem d_Co_add_41 : decode prog_2_method_4_code 41 = .ok (.getfield 25, 3) := by decide +kernel
theorem d_Co_add_44 : decode prog_2_method_4_code 44 = .ok (.if_icmp .ge (47), 3) := by decide +kernel
theorem d_Co_add_47 : decode prog_2_method_4_code 47 = .ok (.iload_n 2, 1) := by decide +kernel
theorem d_Co_add_48 : decode prog_2_method_4_code 48 = .ok (.iconst 3, 1) := by decide +kernel
theorem d_Co_add_49 : decode prog_2_method_4_code 49 = .ok (.iload_n 3, 1) := by decide +kernel
theorem d_Co_add_50 : decode prog_2_method_4_code 50 = .ok (.imul, 1) := by decide +kernel
theorem d_Co_add_51 : decode prog_2_method_4_code 51 = .ok (.iushr, 1) := by decide +kernel
theorem d_Co_add_52 : decode prog_2_method_4_code 52 = .ok (.bipush (7), 2) := by decide +kernel
theorem d_Co_add_54 : decode prog_2_method_4_code 54 = .ok (.iand, 1) := by decide +kernel
theorem d_Co_add_55 : decode prog_2_method_4_code 55 = .ok (.istore 4, 2) := by decide +kernel
theorem d_Co_add_57 : decode prog_2_method_4_code 57 = .ok (.iload 4, 2) := by decide +kernel
theorem d_Co_add_59 : decode prog_2_method_4_code 59 = .ok (.invokestatic 32, 3) := by decide +kernel
theorem d_Co_add_62 : decode prog_2_method_4_code 62 = .ok (.ifCond .eq (23), 3) := by decide +kernel
theorem d_Co_add_65 : decode prog_2_method_4_code 65 = .ok (.aload_n 0, 1) := by decide +kernel
theorem d_Co_add_66 : decode prog_2_method_4_code 66 = .ok (.getfield 15, 3) := by decide +kernel
theorem d_Co_add_69 : decode prog_2_method_4_code 69 = .ok (.aload_n 0, 1) := by decide +kernel
theorem d_Co_add_70 : decode prog_2_method_4_code 70 = .ok (.getfield 29, 3) := by decide +kernel
theorem d_Co_add_73 : decode prog_2_method_4_code 73 = .ok (.iconst 4, 1) := by decide +kernel
theorem d_Co_add_74 : decode prog_2_method_4_code 74 = .ok (.imul, 1) := by decide +kernel
theorem d_Co_add_75 : decode prog_2_method_4_code 75 = .ok (.iload 4, 2) := by decide +kernel
theorem d_Co_add_77 : decode prog_2_method_4_code 77 = .ok (.iadd, 1) := by decide +kernel
theorem d_Co_add_78 : decode prog_2_method_4_code 78 = .ok (.dup2, 1) := by decide +kernel
theorem d_Co_add_79 : decode prog_2_method_4_code 79 = .ok (.iaload, 1) := by decide +kernel
theorem d_Co_add_80 : decode prog_2_method_4_code 80 = .ok (.iconst 1, 1) := by decide +kernel
theorem d_Co_add_81 : decode prog_2_method_4_code 81 = .ok (.iload_n 3, 1) := by decide +kernel
theorem d_Co_add_82 : decode prog_2_method_4_code 82 = .ok (.ishl, 1) := by decide +kernel
theorem d_Co_add_83 : decode prog_2_method_4_code 83 = .ok (.ior, 1) := by decide +kernel
theorem d_Co_add_84 : decode prog_2_method_4_code 84 = .ok (.iastore, 1) := by decide +kernel
theorem d_Co_add_85 : decode prog_2_method_4_code 85 = .ok (.iinc 3 (1), 3) := by decide +kernel
theorem d_Co_add_88 : decode prog_2_method_4_code 88 = .ok (.goto (-49), 3) := by decide +kernel
theorem d_Co_add_91 : decode prog_2_method_4_code 91 = .ok (.aload_n 0, 1) := by decide +kernel
theorem d_Co_add_92 : decode prog_2_method_4_code 92 = .ok (.dup, 1) := by decide +kernel
theorem d_Co_add_93 : decode prog_2_method_4_code 93 = .ok (.getfield 29, 3) := by decide +kernel
theorem d_Co_add_96 : decode prog_2_method_4_code 96 = .ok (.iconst 1, 1) := by decide +kernel
theorem d_Co_add_97 : decode prog_2_method_4_code 97 = .ok (.iadd, 1) := by decide +kernel
theorem d_Co_add_98 : decode prog_2_method_4_code 98 = .ok (.putfield 29, 3) := by decide +kernel
theorem d_Co_add_101 : decode prog_2_method_4_code 101 = .ok (.return_, 1) := by decide +kernel
theorem d_Gr_forget_0 : decode prog_4_method_3_code 0 = .ok (.aload_n 0, 1) := by decide +kernel
theorem d_Gr_forget_1 : decode prog_4_method_3_code 1 = .ok (.iconst 0, 1) := by decide +kernel
theorem d_Gr_forget_2 : decode prog_4_method_3_code 2 = .ok (.putfield 44, 3) := by decide +kernel
theorem d_Gr_forget_5 : decode prog_4_method_3_code 5 = .ok (.return_, 1) := by decide +kernel
theorem d_Hi_forget_0 : decode prog_5_method_3_code 0 = .ok (.aload_n 0, 1) := by decide +kernel
theorem d_Hi_forget_1 : decode prog_5_method_3_code 1 = .ok (.iconst 0, 1) := by decide +kernel
theorem d_Hi_forget_2 : decode prog_5_method_3_code 2 = .ok (.putfield 25, 3) := by decide +kernel
theorem d_Hi_forget_5 : decode prog_5_method_3_code 5 = .ok (.return_, 1) := by decide +kernel
theorem d_Fa_dropGrammar_0 : decode prog_1_method_16_code 0 = .ok (.aload_n 0, 1) := by decide +kernel
theorem d_Fa_dropGrammar_1 : decode prog_1_method_16_code 1 = .ok (.getfield 44, 3) := by decide +kernel
theorem d_Fa_dropGrammar_4 : decode prog_1_method_16_code 4 = .ok (.invokevirtual 193, 3) := by decide +kernel
theorem d_Fa_dropGrammar_7 : decode prog_1_method_16_code 7 = .ok (.aload_n 0, 1) := by decide +kernel
theorem d_Fa_dropGrammar_8 : decode prog_1_method_16_code 8 = .ok (.getfield 64, 3) := by decide +kernel
theorem d_Fa_dropGrammar_11 : decode prog_1_method_16_code 11 = .ok (.invokevirtual 106, 3) := by decide +kernel
theorem d_Fa_dropGrammar_14 : decode prog_1_method_16_code 14 = .ok (.return_, 1) := by decide +kernel
theorem d_Fa_column_0 : decode prog_1_method_2_code 0 = .ok (.iload_n 1, 1) := by decide +kernel
theorem d_Fa_column_1 : decode prog_1_method_2_code 1 = .ok (.invokestatic 75, 3) := by decide +kernel
theorem d_Fa_column_4 : decode prog_1_method_2_code 4 = .ok (.ifCond .eq (13), 3) := by decide +kernel
theorem d_Fa_column_7 : decode prog_1_method_2_code 7 = .ok (.aload_n 0, 1) := by decide +kernel
theorem d_Fa_column_8 : decode prog_1_method_2_code 8 = .ok (.getfield 36, 3) := by decide +kernel
theorem d_Fa_column_11 : decode prog_1_method_2_code 11 = .ok (.invokevirtual 79, 3) := by decide +kernel
theorem d_Fa_column_14 : decode prog_1_method_2_code 14 = .ok (.ifCond .eq (5), 3) := by decide +kernel
theorem d_Fa_column_17 : decode prog_1_method_2_code 17 = .ok (.iconst 0, 1) := by decide +kernel
theorem d_Fa_column_18 : decode prog_1_method_2_code 18 = .ok (.ireturn, 1) := by decide +kernel
theorem d_Fa_column_19 : decode prog_1_method_2_code 19 = .ok (.aload_n 0, 1) := by decide +kernel
theorem d_Fa_column_20 : decode prog_1_method_2_code 20 = .ok (.getfield 36, 3) := by decide +kernel
theorem d_Fa_column_23 : decode prog_1_method_2_code 23 = .ok (.iload_n 1, 1) := by decide +kernel
theorem d_Fa_column_24 : decode prog_1_method_2_code 24 = .ok (.iload_n 2, 1) := by decide +kernel
theorem d_Fa_column_25 : decode prog_1_method_2_code 25 = .ok (.invokevirtual 83, 3) := by decide +kernel
theorem d_Fa_column_28 : decode prog_1_method_2_code 28 = .ok (.aload_n 0, 1) := by decide +kernel
theorem d_Fa_column_29 : decode prog_1_method_2_code 29 = .ok (.invokevirtual 87, 3) := by decide +kernel
theorem d_Fa_column_32 : decode prog_1_method_2_code 32 = .ok (.iconst 1, 1) := by decide +kernel
theorem d_Fa_column_33 : decode prog_1_method_2_code 33 = .ok (.ireturn, 1) := by decide +kernel
theorem d_Co_removeAll_0 : decode prog_2_method_5_code 0 = .ok (.aload_n 0, 1) := by decide +kernel
theorem d_Co_removeAll_1 : decode prog_2_method_5_code 1 = .ok (.iconst 0, 1) := by decide +kernel
theorem d_Co_removeAll_2 : decode prog_2_method_5_code 2 = .ok (.putfield 29, 3) := by decide +kernel
theorem d_Co_removeAll_5 : decode prog_2_method_5_code 5 = .ok (.return_, 1) := by decide +kernel
theorem d_Fa_clear_0 : decode prog_1_method_3_code 0 = .ok (.aload_n 0, 1) := by decide +kernel
theorem d_Fa_clear_1 : decode prog_1_method_3_code 1 = .ok (.getfield 36, 3) := by decide +kernel
theorem d_Fa_clear_4 : decode prog_1_method_3_code 4 = .ok (.invokevirtual 90, 3) := by decide +kernel
theorem d_Fa_clear_7 : decode prog_1_method_3_code 7 = .ok (.aload_n 0, 1) := by decide +kernel
theorem d_Fa_clear_8 : decode prog_1_method_3_code 8 = .ok (.invokevirtual 87, 3) := by decide +kernel
theorem d_Fa_clear_11 : decode prog_1_method_3_code 11 = .ok (.return_, 1) := by decide +kernel
theorem d_Co_pairUp_0 : decode prog_2_method_6_code 0 = .ok (.iconst 0, 1) := by decide +kernel
theorem d_Co_pairUp_1 : decode prog_2_method_6_code 1 = .ok (.istore_n 1, 1) := by decide +kernel
theorem d_Co_pairUp_2 : decode prog_2_method_6_code 2 = .ok (.iconst 0, 1) := by decide +kernel
theorem d_Co_pairUp_3 : decode prog_2_method_6_code 3 = .ok (.istore_n 2, 1) := by decide +kernel
theorem d_Co_pairUp_4 : decode prog_2_method_6_code 4 = .ok (.iload_n 2, 1) := by decide +kernel
theorem d_Co_pairUp_5 : decode prog_2_method_6_code 5 = .ok (.aload_n 0, 1) := by decide +kernel
theorem d_Co_pairUp_6 : decode prog_2_method_6_code 6 = .ok (.getfield 29, 3) := by decide +kernel
theorem d_Co_pairUp_9 : decode prog_2_method_6_code 9 = .ok (.if_icmp .ge (84), 3) := by decide +kernel
theorem d_Co_pairUp_12 : decode prog_2_method_6_code 12 = .ok (.aload_n 0, 1) := by decide +kernel
theorem d_Co_pairUp_13 : decode prog_2_method_6_code 13 = .ok (.getfield 19, 3) := by decide +kernel
theorem d_Co_pairUp_16 : decode prog_2_method_6_code 16 = .ok (.iload_n 2, 1) := by decide +kernel
theorem d_Co_pairUp_17 : decode prog_2_method_6_code 17 = .ok (.iconst (-1), 1) := by decide +kernel
theorem d_Co_pairUp_18 : decode prog_2_method_6_code 18 = .ok (.iastore, 1) := by decide +kernel
theorem d_Co_pairUp_19 : decode prog_2_method_6_code 19 = .ok (.aload_n 0, 1) := by decide +kernel
theorem d_Co_pairUp_20 : decode prog_2_method_6_code 20 = .ok (.getfield 9, 3) := by decide +kernel
theorem d_Co_pairUp_23 : decode prog_2_method_6_code 23 = .ok (.iload_n 2, 1) := by decide +kernel
theorem d_Co_pairUp_24 : decode prog_2_method_6_code 24 = .ok (.caload, 1) := by decide +kernel
theorem d_Co_pairUp_25 : decode prog_2_method_6_code 25 = .ok (.bipush (40), 2) := by decide +kernel
theorem d_Co_pairUp_27 : decode prog_2_method_6_code 27 = .ok (.if_icmp .ne (16), 3) := by decide +kernel
theorem d_Co_pairUp_30 : decode prog_2_method_6_code 30 = .ok (.aload_n 0, 1) := by decide +kernel
theorem d_Co_pairUp_31 : decode prog_2_method_6_code 31 = .ok (.getfield 22, 3) := by decide +kernel
theorem d_Co_pairUp_34 : decode prog_2_method_6_code 34 = .ok (.iload_n 1, 1) := by decide +kernel
theorem d_Co_pairUp_35 : decode prog_2_method_6_code 35 = .ok (.iload_n 2, 1) := by decide +kernel
theorem d_Co_pairUp_36 : decode prog_2_method_6_code 36 = .ok (.iastore, 1) := by decide +kernel
theorem d_Co_pairUp_37 : decode prog_2_method_6_code 37 = .ok (.iinc 1 (1), 3) := by decide +kernel
theorem d_Co_pairUp_40 : decode prog_2_method_6_code 40 = .ok (.goto (47), 3) := by decide +kernel
theorem d_Co_pairUp_43 : decode prog_2_method_6_code 43 = .ok (.aload_n 0, 1) := by decide +kernel
theorem d_Co_pairUp_44 : decode prog_2_method_6_code 44 = .ok (.getfield 9, 3) := by decide +kernel
theorem d_Co_pairUp_47 : decode prog_2_method_6_code 47 = .ok (.iload_n 2, 1) := by decide +kernel
theorem d_Co_pairUp_48 : decode prog_2_method_6_code 48 = .ok (.caload, 1) := by decide +kernel
theorem d_Co_pairUp_49 : decode prog_2_method_6_code 49 = .ok (.bipush (41), 2) := by decide +kernel
theorem d_Co_pairUp_51 : decode prog_2_method_6_code 51 = .ok (.if_icmp .ne (36), 3) := by decide +kernel
theorem d_Co_pairUp_54 : decode prog_2_method_6_code 54 = .ok (.iload_n 1, 1) := by decide +kernel
theorem d_Co_pairUp_55 : decode prog_2_method_6_code 55 = .ok (.ifCond .ne (5), 3) := by decide +kernel
theorem d_Co_pairUp_58 : decode prog_2_method_6_code 58 = .ok (.iconst 0, 1) := by decide +kernel
theorem d_Co_pairUp_59 : decode prog_2_method_6_code 59 = .ok (.ireturn, 1) := by decide +kernel
theorem d_Co_pairUp_60 : decode prog_2_method_6_code 60 = .ok (.iinc 1 (-1), 3) := by decide +kernel
theorem d_Co_pairUp_63 : decode prog_2_method_6_code 63 = .ok (.aload_n 0, 1) := by decide +kernel
theorem d_Co_pairUp_64 : decode prog_2_method_6_code 64 = .ok (.getfield 19, 3) := by decide +kernel
theorem d_Co_pairUp_67 : decode prog_2_method_6_code 67 = .ok (.iload_n 2, 1) := by decide +kernel
theorem d_Co_pairUp_68 : decode prog_2_method_6_code 68 = .ok (.aload_n 0, 1) := by decide +kernel
theorem d_Co_pairUp_69 : decode prog_2_method_6_code 69 = .ok (.getfield 22, 3) := by decide +kernel
theorem d_Co_pairUp_72 : decode prog_2_method_6_code 72 = .ok (.iload_n 1, 1) := by decide +kernel
theorem d_Co_pairUp_73 : decode prog_2_method_6_code 73 = .ok (.iaload, 1) := by decide +kernel
theorem d_Co_pairUp_74 : decode prog_2_method_6_code 74 = .ok (.iastore, 1) := by decide +kernel
theorem d_Co_pairUp_75 : decode prog_2_method_6_code 75 = .ok (.aload_n 0, 1) := by decide +kernel
theorem d_Co_pairUp_76 : decode prog_2_method_6_code 76 = .ok (.getfield 19, 3) := by decide +kernel
theorem d_Co_pairUp_79 : decode prog_2_method_6_code 79 = .ok (.aload_n 0, 1) := by decide +kernel
theorem d_Co_pairUp_80 : decode prog_2_method_6_code 80 = .ok (.getfield 22, 3) := by decide +kernel
theorem d_Co_pairUp_83 : decode prog_2_method_6_code 83 = .ok (.iload_n 1, 1) := by decide +kernel
theorem d_Co_pairUp_84 : decode prog_2_method_6_code 84 = .ok (.iaload, 1) := by decide +kernel
theorem d_Co_pairUp_85 : decode prog_2_method_6_code 85 = .ok (.iload_n 2, 1) := by decide +kernel
theorem d_Co_pairUp_86 : decode prog_2_method_6_code 86 = .ok (.iastore, 1) := by decide +kernel
theorem d_Co_pairUp_87 : decode prog_2_method_6_code 87 = .ok (.iinc 2 (1), 3) := by decide +kernel
theorem d_Co_pairUp_90 : decode prog_2_method_6_code 90 = .ok (.goto (-86), 3) := by decide +kernel
theorem d_Co_pairUp_93 : decode prog_2_method_6_code 93 = .ok (.iload_n 1, 1) := by decide +kernel
theorem d_Co_pairUp_94 : decode prog_2_method_6_code 94 = .ok (.ifCond .ne (7), 3) := by decide +kernel
theorem d_Co_pairUp_97 : decode prog_2_method_6_code 97 = .ok (.iconst 1, 1) := by decide +kernel
theorem d_Co_pairUp_98 : decode prog_2_method_6_code 98 = .ok (.goto (4), 3) := by decide +kernel
theorem d_Co_pairUp_101 : decode prog_2_method_6_code 101 = .ok (.iconst 0, 1) := by decide +kernel
theorem d_Co_pairUp_102 : decode prog_2_method_6_code 102 = .ok (.ireturn, 1) := by decide +kernel
theorem d_Tr_add_0 : decode prog_7_method_10_code 0 = .ok (.aload_n 0, 1) := by decide +kernel
theorem d_Tr_add_1 : decode prog_7_method_10_code 1 = .ok (.getfield 9, 3) := by decide +kernel
theorem d_Tr_add_4 : decode prog_7_method_10_code 4 = .ok (.aload_n 0, 1) := by decide +kernel
theorem d_Tr_add_5 : decode prog_7_method_10_code 5 = .ok (.getfield 28, 3) := by decide +kernel
theorem d_Tr_add_8 : decode prog_7_method_10_code 8 = .ok (.iload_n 1, 1) := by decide +kernel
theorem d_Tr_add_9 : decode prog_7_method_10_code 9 = .ok (.iastore, 1) := by decide +kernel
theorem d_Tr_add_10 : decode prog_7_method_10_code 10 = .ok (.aload_n 0, 1) := by decide +kernel
theorem d_Tr_add_11 : decode prog_7_method_10_code 11 = .ok (.getfield 15, 3) := by decide +kernel
theorem d_Tr_add_14 : decode prog_7_method_10_code 14 = .ok (.aload_n 0, 1) := by decide +kernel
theorem d_Tr_add_15 : decode prog_7_method_10_code 15 = .ok (.getfield 28, 3) := by decide +kernel
theorem d_Tr_add_18 : decode prog_7_method_10_code 18 = .ok (.iload_n 2, 1) := by decide +kernel
theorem d_Tr_add_19 : decode prog_7_method_10_code 19 = .ok (.iastore, 1) := by decide +kernel
theorem d_Tr_add_20 : decode prog_7_method_10_code 20 = .ok (.aload_n 0, 1) := by decide +kernel
theorem d_Tr_add_21 : decode prog_7_method_10_code 21 = .ok (.getfield 18, 3) := by decide +kernel
theorem d_Tr_add_24 : decode prog_7_method_10_code 24 = .ok (.aload_n 0, 1) := by decide +kernel
theorem d_Tr_add_25 : decode prog_7_method_10_code 25 = .ok (.getfield 28, 3) := by decide +kernel
theorem d_Tr_add_28 : decode prog_7_method_10_code 28 = .ok (.iload_n 3, 1) := by decide +kernel
theorem d_Tr_add_29 : decode prog_7_method_10_code 29 = .ok (.iastore, 1) := by decide +kernel
theorem d_Tr_add_30 : decode prog_7_method_10_code 30 = .ok (.aload_n 0, 1) := by decide +kernel
theorem d_Tr_add_31 : decode prog_7_method_10_code 31 = .ok (.dup, 1) := by decide +kernel
theorem d_Tr_add_32 : decode prog_7_method_10_code 32 = .ok (.getfield 28, 3) := by decide +kernel
theorem d_Tr_add_35 : decode prog_7_method_10_code 35 = .ok (.iconst 1, 1) := by decide +kernel
theorem d_Tr_add_36 : decode prog_7_method_10_code 36 = .ok (.iadd, 1) := by decide +kernel
theorem d_Tr_add_37 : decode prog_7_method_10_code 37 = .ok (.putfield 28, 3) := by decide +kernel
theorem d_Tr_add_40 : decode prog_7_method_10_code 40 = .ok (.return_, 1) := by decide +kernel
theorem d_Co_count_0 : decode prog_2_method_2_code 0 = .ok (.aload_n 0, 1) := by decide +kernel
theorem d_Co_count_1 : decode prog_2_method_2_code 1 = .ok (.getfield 29, 3) := by decide +kernel
theorem d_Co_count_4 : decode prog_2_method_2_code 4 = .ok (.ireturn, 1) := by decide +kernel
theorem d_Co_partner_0 : decode prog_2_method_8_code 0 = .ok (.aload_n 0, 1) := by decide +kernel
theorem d_Co_partner_1 : decode prog_2_method_8_code 1 = .ok (.getfield 19, 3) := by decide +kernel
theorem d_Co_partner_4 : decode prog_2_method_8_code 4 = .ok (.iload_n 1, 1) := by decide +kernel
theorem d_Co_partner_5 : decode prog_2_method_8_code 5 = .ok (.iaload, 1) := by decide +kernel
theorem d_Co_partner_6 : decode prog_2_method_8_code 6 = .ok (.ireturn, 1) := by decide +kernel
theorem d_Co_isPaired_0 : decode prog_2_method_7_code 0 = .ok (.aload_n 0, 1) := by decide +kernel
theorem d_Co_isPaired_1 : decode prog_2_method_7_code 1 = .ok (.getfield 19, 3) := by decide +kernel
theorem d_Co_isPaired_4 : decode prog_2_method_7_code 4 = .ok (.iload_n 1, 1) := by decide +kernel
theorem d_Co_isPaired_5 : decode prog_2_method_7_code 5 = .ok (.iaload, 1) := by decide +kernel
theorem d_Co_isPaired_6 : decode prog_2_method_7_code 6 = .ok (.iconst (-1), 1) := by decide +kernel
theorem d_Co_isPaired_7 : decode prog_2_method_7_code 7 = .ok (.if_icmp .eq (7), 3) := by decide +kernel
theorem d_Co_isPaired_10 : decode prog_2_method_7_code 10 = .ok (.iconst 1, 1) := by decide +kernel
theorem d_Co_isPaired_11 : decode prog_2_method_7_code 11 = .ok (.goto (4), 3) := by decide +kernel
theorem d_Co_isPaired_14 : decode prog_2_method_7_code 14 = .ok (.iconst 0, 1) := by decide +kernel
theorem d_Co_isPaired_15 : decode prog_2_method_7_code 15 = .ok (.ireturn, 1) := by decide +kernel
theorem d_Tr_growPart_0 : decode prog_7_method_8_code 0 = .ok (.iload_n 3, 1) := by decide +kernel
theorem d_Tr_growPart_1 : decode prog_7_method_8_code 1 = .ok (.bipush (8), 2) := by decide +kernel
theorem d_Tr_growPart_3 : decode prog_7_method_8_code 3 = .ok (.if_icmp .le (4), 3) := by decide +kernel
theorem d_Tr_growPart_6 : decode prog_7_method_8_code 6 = .ok (.return_, 1) := by decide +kernel
theorem d_Tr_growPart_7 : decode prog_7_method_8_code 7 = .ok (.iload_n 1, 1) := by decide +kernel
theorem d_Tr_growPart_8 : decode prog_7_method_8_code 8 = .ok (.iload_n 2, 1) := by decide +kernel
theorem d_Tr_growPart_9 : decode prog_7_method_8_code 9 = .ok (.if_icmp .le (14), 3) := by decide +kernel
theorem d_Tr_growPart_12 : decode prog_7_method_8_code 12 = .ok (.aload_n 0, 1) := by decide +kernel
theorem d_Tr_growPart_13 : decode prog_7_method_8_code 13 = .ok (.bipush (7), 2) := by decide +kernel
theorem d_Tr_growPart_15 : decode prog_7_method_8_code 15 = .ok (.iconst (-1), 1) := by decide +kernel
theorem d_Tr_growPart_16 : decode prog_7_method_8_code 16 = .ok (.iconst (-1), 1) := by decide +kernel
theorem d_Tr_growPart_17 : decode prog_7_method_8_code 17 = .ok (.invokevirtual 32, 3) := by decide +kernel
theorem d_Tr_growPart_20 : decode prog_7_method_8_code 20 = .ok (.goto (109), 3) := by decide +kernel
theorem d_Tr_growPart_23 : decode prog_7_method_8_code 23 = .ok (.aload_n 0, 1) := by decide +kernel
theorem d_Tr_growPart_24 : decode prog_7_method_8_code 24 = .ok (.getfield 24, 3) := by decide +kernel
theorem d_Tr_growPart_27 : decode prog_7_method_8_code 27 = .ok (.iload_n 1, 1) := by decide +kernel
theorem d_Tr_growPart_28 : decode prog_7_method_8_code 28 = .ok (.invokevirtual 45, 3) := by decide +kernel
theorem d_Tr_growPart_31 : decode prog_7_method_8_code 31 = .ok (.ifCond .ne (24), 3) := by decide +kernel
theorem d_Tr_growPart_34 : decode prog_7_method_8_code 34 = .ok (.aload_n 0, 1) := by decide +kernel
theorem d_Tr_growPart_35 : decode prog_7_method_8_code 35 = .ok (.iconst 1, 1) := by decide +kernel
theorem d_Tr_growPart_36 : decode prog_7_method_8_code 36 = .ok (.iload_n 1, 1) := by decide +kernel
theorem d_Tr_growPart_37 : decode prog_7_method_8_code 37 = .ok (.iconst (-1), 1) := by decide +kernel
theorem d_Tr_growPart_38 : decode prog_7_method_8_code 38 = .ok (.invokevirtual 32, 3) := by decide +kernel
theorem d_Tr_growPart_41 : decode prog_7_method_8_code 41 = .ok (.aload_n 0, 1) := by decide +kernel
theorem d_Tr_growPart_42 : decode prog_7_method_8_code 42 = .ok (.iload_n 1, 1) := by decide +kernel
theorem d_Tr_growPart_43 : decode prog_7_method_8_code 43 = .ok (.iconst 1, 1) := by decide +kernel
theorem d_Tr_growPart_44 : decode prog_7_method_8_code 44 = .ok (.iadd, 1) := by decide +kernel
theorem d_Tr_growPart_45 : decode prog_7_method_8_code 45 = .ok (.iload_n 2, 1) := by decide +kernel
theorem d_Tr_growPart_46 : decode prog_7_method_8_code 46 = .ok (.iload_n 3, 1) := by decide +kernel
theorem d_Tr_growPart_47 : decode prog_7_method_8_code 47 = .ok (.iconst 1, 1) := by decide +kernel
theorem d_Tr_growPart_48 : decode prog_7_method_8_code 48 = .ok (.iadd, 1) := by decide +kernel
theorem d_Tr_growPart_49 : decode prog_7_method_8_code 49 = .ok (.invokevirtual 42, 3) := by decide +kernel
theorem d_Tr_growPart_52 : decode prog_7_method_8_code 52 = .ok (.goto (77), 3) := by decide +kernel
theorem d_Tr_growPart_55 : decode prog_7_method_8_code 55 = .ok (.aload_n 0, 1) := by decide +kernel
theorem d_Tr_growPart_56 : decode prog_7_method_8_code 56 = .ok (.getfield 24, 3) := by decide +kernel
theorem d_Tr_growPart_59 : decode prog_7_method_8_code 59 = .ok (.iload_n 2, 1) := by decide +kernel
theorem d_Tr_growPart_60 : decode prog_7_method_8_code 60 = .ok (.invokevirtual 45, 3) := by decide +kernel
theorem d_Tr_growPart_63 : decode prog_7_method_8_code 63 = .ok (.ifCond .ne (24), 3) := by decide +kernel
theorem d_Tr_growPart_66 : decode prog_7_method_8_code 66 = .ok (.aload_n 0, 1) := by decide +kernel
theorem d_Tr_growPart_67 : decode prog_7_method_8_code 67 = .ok (.iconst 2, 1) := by decide +kernel
theorem d_Tr_growPart_68 : decode prog_7_method_8_code 68 = .ok (.iconst (-1), 1) := by decide +kernel
theorem d_Tr_growPart_69 : decode prog_7_method_8_code 69 = .ok (.iload_n 2, 1) := by decide +kernel
theorem d_Tr_growPart_70 : decode prog_7_method_8_code 70 = .ok (.invokevirtual 32, 3) := by decide +kernel
theorem d_Tr_growPart_73 : decode prog_7_method_8_code 73 = .ok (.aload_n 0, 1) := by decide +kernel
theorem d_Tr_growPart_74 : decode prog_7_method_8_code 74 = .ok (.iload_n 1, 1) := by decide +kernel
theorem d_Tr_growPart_75 : decode prog_7_method_8_code 75 = .ok (.iload_n 2, 1) := by decide +kernel
theorem d_Tr_growPart_76 : decode prog_7_method_8_code 76 = .ok (.iconst 1, 1) := by decide +kernel
theorem d_Tr_growPart_77 : decode prog_7_method_8_code 77 = .ok (.isub, 1) := by decide +kernel
theorem d_Tr_growPart_78 : decode prog_7_method_8_code 78 = .ok (.iload_n 3, 1) := by decide +kernel
theorem d_Tr_growPart_79 : decode prog_7_method_8_code 79 = .ok (.iconst 1, 1) := by decide +kernel
theorem d_Tr_growPart_80 : decode prog_7_method_8_code 80 = .ok (.iadd, 1) := by decide +kernel
theorem d_Tr_growPart_81 : decode prog_7_method_8_code 81 = .ok (.invokevirtual 42, 3) := by decide +kernel
theorem d_Tr_growPart_84 : decode prog_7_method_8_code 84 = .ok (.goto (45), 3) := by decide +kernel
theorem d_Tr_growPart_87 : decode prog_7_method_8_code 87 = .ok (.aload_n 0, 1) := by decide +kernel
theorem d_Tr_growPart_88 : decode prog_7_method_8_code 88 = .ok (.getfield 24, 3) := by decide +kernel
theorem d_Tr_growPart_91 : decode prog_7_method_8_code 91 = .ok (.iload_n 1, 1) := by decide +kernel
theorem d_Tr_growPart_92 : decode prog_7_method_8_code 92 = .ok (.invokevirtual 49, 3) := by decide +kernel
theorem d_Tr_growPart_95 : decode prog_7_method_8_code 95 = .ok (.iload_n 2, 1) := by decide +kernel
theorem d_Tr_growPart_96 : decode prog_7_method_8_code 96 = .ok (.if_icmp .ne (26), 3) := by decide +kernel
theorem d_Tr_growPart_99 : decode prog_7_method_8_code 99 = .ok (.aload_n 0, 1) := by decide +kernel
theorem d_Tr_growPart_100 : decode prog_7_method_8_code 100 = .ok (.iconst 3, 1) := by decide +kernel
theorem d_Tr_growPart_101 : decode prog_7_method_8_code 101 = .ok (.iload_n 1, 1) := by decide +kernel
theorem d_Tr_growPart_102 : decode prog_7_method_8_code 102 = .ok (.iload_n 2, 1) := by decide +kernel
theorem d_Tr_growPart_103 : decode prog_7_method_8_code 103 = .ok (.invokevirtual 32, 3) := by decide +kernel
theorem d_Tr_growPart_106 : decode prog_7_method_8_code 106 = .ok (.aload_n 0, 1) := by decide +kernel
theorem d_Tr_growPart_107 : decode prog_7_method_8_code 107 = .ok (.iload_n 1, 1) := by decide +kernel
theorem d_Tr_growPart_108 : decode prog_7_method_8_code 108 = .ok (.iconst 1, 1) := by decide +kernel
theorem d_Tr_growPart_109 : decode prog_7_method_8_code 109 = .ok (.iadd, 1) := by decide +kernel
theorem d_Tr_growPart_110 : decode prog_7_method_8_code 110 = .ok (.iload_n 2, 1) := by decide +kernel
theorem d_Tr_growPart_111 : decode prog_7_method_8_code 111 = .ok (.iconst 1, 1) := by decide +kernel
theorem d_Tr_growPart_112 : decode prog_7_method_8_code 112 = .ok (.isub, 1) := by decide +kernel
theorem d_Tr_growPart_113 : decode prog_7_method_8_code 113 = .ok (.iload_n 3, 1) := by decide +kernel
theorem d_Tr_growPart_114 : decode prog_7_method_8_code 114 = .ok (.iconst 1, 1) := by decide +kernel
theorem d_Tr_growPart_115 : decode prog_7_method_8_code 115 = .ok (.iadd, 1) := by decide +kernel
theorem d_Tr_growPart_116 : decode prog_7_method_8_code 116 = .ok (.invokevirtual 42, 3) := by decide +kernel
theorem d_Tr_growPart_119 : decode prog_7_method_8_code 119 = .ok (.goto (10), 3) := by decide +kernel
theorem d_Tr_growPart_122 : decode prog_7_method_8_code 122 = .ok (.aload_n 0, 1) := by decide +kernel
theorem d_Tr_growPart_123 : decode prog_7_method_8_code 123 = .ok (.iload_n 1, 1) := by decide +kernel
theorem d_Tr_growPart_124 : decode prog_7_method_8_code 124 = .ok (.iload_n 2, 1) := by decide +kernel
theorem d_Tr_growPart_125 : decode prog_7_method_8_code 125 = .ok (.iload_n 3, 1) := by decide +kernel
theorem d_Tr_growPart_126 : decode prog_7_method_8_code 126 = .ok (.invokevirtual 53, 3) := by decide +kernel
theorem d_Tr_growPart_129 : decode prog_7_method_8_code 129 = .ok (.return_, 1) := by decide +kernel
theorem d_Tr_growFork_0 : decode prog_7_method_9_code 0 = .ok (.aload_n 0, 1) := by decide +kernel
theorem d_Tr_growFork_1 : decode prog_7_method_9_code 1 = .ok (.getfield 24, 3) := by decide +kernel
theorem d_Tr_growFork_4 : decode prog_7_method_9_code 4 = .ok (.iload_n 1, 1) := by decide +kernel
theorem d_Tr_growFork_5 : decode prog_7_method_9_code 5 = .ok (.invokevirtual 49, 3) := by decide +kernel
theorem d_Tr_growFork_8 : decode prog_7_method_9_code 8 = .ok (.istore 4, 2) := by decide +kernel
theorem d_Tr_growFork_10 : decode prog_7_method_9_code 10 = .ok (.aload_n 0, 1) := by decide +kernel
theorem d_Tr_growFork_11 : decode prog_7_method_9_code 11 = .ok (.getfield 28, 3) := by decide +kernel
theorem d_Tr_growFork_14 : decode prog_7_method_9_code 14 = .ok (.istore 5, 2) := by decide +kernel
theorem d_Tr_growFork_16 : decode prog_7_method_9_code 16 = .ok (.aload_n 0, 1) := by decide +kernel
theorem d_Tr_growFork_17 : decode prog_7_method_9_code 17 = .ok (.iconst 4, 1) := by decide +kernel
theorem d_Tr_growFork_18 : decode prog_7_method_9_code 18 = .ok (.iconst (-1), 1) := by decide +kernel
theorem d_Tr_growFork_19 : decode prog_7_method_9_code 19 = .ok (.iconst (-1), 1) := by decide +kernel
theorem d_Tr_growFork_20 : decode prog_7_method_9_code 20 = .ok (.invokevirtual 32, 3) := by decide +kernel
theorem d_Tr_growFork_23 : decode prog_7_method_9_code 23 = .ok (.aload_n 0, 1) := by decide +kernel
theorem d_Tr_growFork_24 : decode prog_7_method_9_code 24 = .ok (.iconst 5, 1) := by decide +kernel
theorem d_Tr_growFork_25 : decode prog_7_method_9_code 25 = .ok (.iconst (-1), 1) := by decide +kernel
theorem d_Tr_growFork_26 : decode prog_7_method_9_code 26 = .ok (.iconst (-1), 1) := by decide +kernel
theorem d_Tr_growFork_27 : decode prog_7_method_9_code 27 = .ok (.invokevirtual 32, 3) := by decide +kernel
theorem d_Tr_growFork_30 : decode prog_7_method_9_code 30 = .ok (.aload_n 0, 1) := by decide +kernel
theorem d_Tr_growFork_31 : decode prog_7_method_9_code 31 = .ok (.iload_n 1, 1) := by decide +kernel
theorem d_Tr_growFork_32 : decode prog_7_method_9_code 32 = .ok (.iload 4, 2) := by decide +kernel
theorem d_Tr_growFork_34 : decode prog_7_method_9_code 34 = .ok (.iload_n 3, 1) := by decide +kernel
theorem d_Tr_growFork_35 : decode prog_7_method_9_code 35 = .ok (.iconst 1, 1) := by decide +kernel
theorem d_Tr_growFork_36 : decode prog_7_method_9_code 36 = .ok (.iadd, 1) := by decide +kernel
theorem d_Tr_growFork_37 : decode prog_7_method_9_code 37 = .ok (.invokevirtual 42, 3) := by decide +kernel
theorem d_Tr_growFork_40 : decode prog_7_method_9_code 40 = .ok (.aload_n 0, 1) := by decide +kernel
theorem d_Tr_growFork_41 : decode prog_7_method_9_code 41 = .ok (.getfield 21, 3) := by decide +kernel
theorem d_Tr_growFork_44 : decode prog_7_method_9_code 44 = .ok (.iload 5, 2) := by decide +kernel
theorem d_Tr_growFork_46 : decode prog_7_method_9_code 46 = .ok (.aload_n 0, 1) := by decide +kernel
theorem d_Tr_growFork_47 : decode prog_7_method_9_code 47 = .ok (.getfield 28, 3) := by decide +kernel
theorem d_Tr_growFork_50 : decode prog_7_method_9_code 50 = .ok (.iastore, 1) := by decide +kernel
theorem d_Tr_growFork_51 : decode prog_7_method_9_code 51 = .ok (.aload_n 0, 1) := by decide +kernel
theorem d_Tr_growFork_52 : decode prog_7_method_9_code 52 = .ok (.bipush (6), 2) := by decide +kernel
theorem d_Tr_growFork_54 : decode prog_7_method_9_code 54 = .ok (.iconst (-1), 1) := by decide +kernel
theorem d_Tr_growFork_55 : decode prog_7_method_9_code 55 = .ok (.iconst (-1), 1) := by decide +kernel
theorem d_Tr_growFork_56 : decode prog_7_method_9_code 56 = .ok (.invokevirtual 32, 3) := by decide +kernel
theorem d_Tr_growFork_59 : decode prog_7_method_9_code 59 = .ok (.aload_n 0, 1) := by decide +kernel
theorem d_Tr_growFork_60 : decode prog_7_method_9_code 60 = .ok (.iload 4, 2) := by decide +kernel
theorem d_Tr_growFork_62 : decode prog_7_method_9_code 62 = .ok (.iconst 1, 1) := by decide +kernel
theorem d_Tr_growFork_63 : decode prog_7_method_9_code 63 = .ok (.iadd, 1) := by decide +kernel
theorem d_Tr_growFork_64 : decode prog_7_method_9_code 64 = .ok (.iload_n 2, 1) := by decide +kernel
theorem d_Tr_growFork_65 : decode prog_7_method_9_code 65 = .ok (.iload_n 3, 1) := by decide +kernel
theorem d_Tr_growFork_66 : decode prog_7_method_9_code 66 = .ok (.iconst 1, 1) := by decide +kernel
theorem d_Tr_growFork_67 : decode prog_7_method_9_code 67 = .ok (.iadd, 1) := by decide +kernel
theorem d_Tr_growFork_68 : decode prog_7_method_9_code 68 = .ok (.invokevirtual 42, 3) := by decide +kernel
theorem d_Tr_growFork_71 : decode prog_7_method_9_code 71 = .ok (.return_, 1) := by decide +kernel
theorem d_Tr_grow_0 : decode prog_7_method_7_code 0 = .ok (.aload_n 0, 1) := by decide +kernel
theorem d_Tr_grow_1 : decode prog_7_method_7_code 1 = .ok (.iconst 0, 1) := by decide +kernel
theorem d_Tr_grow_2 : decode prog_7_method_7_code 2 = .ok (.putfield 28, 3) := by decide +kernel
theorem d_Tr_grow_5 : decode prog_7_method_7_code 5 = .ok (.aload_n 0, 1) := by decide +kernel
theorem d_Tr_grow_6 : decode prog_7_method_7_code 6 = .ok (.iconst 0, 1) := by decide +kernel
theorem d_Tr_grow_7 : decode prog_7_method_7_code 7 = .ok (.iconst (-1), 1) := by decide +kernel
theorem d_Tr_grow_8 : decode prog_7_method_7_code 8 = .ok (.iconst (-1), 1) := by decide +kernel
theorem d_Tr_grow_9 : decode prog_7_method_7_code 9 = .ok (.invokevirtual 32, 3) := by decide +kernel
theorem d_Tr_grow_12 : decode prog_7_method_7_code 12 = .ok (.aload_n 0, 1) := by decide +kernel
theorem d_Tr_grow_13 : decode prog_7_method_7_code 13 = .ok (.iconst 0, 1) := by decide +kernel
theorem d_Tr_grow_14 : decode prog_7_method_7_code 14 = .ok (.aload_n 0, 1) := by decide +kernel
theorem d_Tr_grow_15 : decode prog_7_method_7_code 15 = .ok (.getfield 24, 3) := by decide +kernel
theorem d_Tr_grow_18 : decode prog_7_method_7_code 18 = .ok (.invokevirtual 36, 3) := by decide +kernel
theorem d_Tr_grow_21 : decode prog_7_method_7_code 21 = .ok (.iconst 1, 1) := by decide +kernel
theorem d_Tr_grow_22 : decode prog_7_method_7_code 22 = .ok (.isub, 1) := by decide +kernel
theorem d_Tr_grow_23 : decode prog_7_method_7_code 23 = .ok (.iconst 0, 1) := by decide +kernel
theorem d_Tr_grow_24 : decode prog_7_method_7_code 24 = .ok (.invokevirtual 42, 3) := by decide +kernel
theorem d_Tr_grow_27 : decode prog_7_method_7_code 27 = .ok (.return_, 1) := by decide +kernel
theorem d_Tr_size_0 : decode prog_7_method_2_code 0 = .ok (.aload_n 0, 1) := by decide +kernel
theorem d_Tr_size_1 : decode prog_7_method_2_code 1 = .ok (.getfield 28, 3) := by decide +kernel
theorem d_Tr_size_4 : decode prog_7_method_2_code 4 = .ok (.ireturn, 1) := by decide +kernel
theorem d_Tr_kindOf_0 : decode prog_7_method_3_code 0 = .ok (.aload_n 0, 1) := by decide +kernel
theorem d_Tr_kindOf_1 : decode prog_7_method_3_code 1 = .ok (.getfield 9, 3) := by decide +kernel
theorem d_Tr_kindOf_4 : decode prog_7_method_3_code 4 = .ok (.iload_n 1, 1) := by decide +kernel
theorem d_Tr_kindOf_5 : decode prog_7_method_3_code 5 = .ok (.iaload, 1) := by decide +kernel
theorem d_Tr_kindOf_6 : decode prog_7_method_3_code 6 = .ok (.ireturn, 1) := by decide +kernel
theorem d_Fa_statesOf_0 : decode prog_1_method_23_code 0 = .ok (.iload_n 0, 1) := by decide +kernel
theorem d_Fa_statesOf_1 : decode prog_1_method_23_code 1 = .ok (.tableswitch (71) (0) (6) #[43, 47, 51, 55, 59, 63, 67], 43) := by decide +kernel
theorem d_Fa_statesOf_44 : decode prog_1_method_23_code 44 = .ok (.getstatic 200, 3) := by decide +kernel
theorem d_Fa_statesOf_47 : decode prog_1_method_23_code 47 = .ok (.areturn, 1) := by decide +kernel
theorem d_Fa_statesOf_48 : decode prog_1_method_23_code 48 = .ok (.getstatic 204, 3) := by decide +kernel
theorem d_Fa_statesOf_51 : decode prog_1_method_23_code 51 = .ok (.areturn, 1) := by decide +kernel
theorem d_Fa_statesOf_52 : decode prog_1_method_23_code 52 = .ok (.getstatic 207, 3) := by decide +kernel
theorem d_Fa_statesOf_55 : decode prog_1_method_23_code 55 = .ok (.areturn, 1) := by decide +kernel
theorem d_Fa_statesOf_56 : decode prog_1_method_23_code 56 = .ok (.getstatic 210, 3) := by decide +kernel
theorem d_Fa_statesOf_59 : decode prog_1_method_23_code 59 = .ok (.areturn, 1) := by decide +kernel
theorem d_Fa_statesOf_60 : decode prog_1_method_23_code 60 = .ok (.getstatic 213, 3) := by decide +kernel
theorem d_Fa_statesOf_63 : decode prog_1_method_23_code 63 = .ok (.areturn, 1) := by decide +kernel
theorem d_Fa_statesOf_64 : decode prog_1_method_23_code 64 = .ok (.getstatic 216, 3) := by decide +kernel
theorem d_Fa_statesOf_67 : decode prog_1_method_23_code 67 = .ok (.areturn, 1) := by decide +kernel
theorem d_Fa_statesOf_68 : decode prog_1_method_23_code 68 = .ok (.getstatic 219, 3) := by decide +kernel
theorem d_Fa_statesOf_71 : decode prog_1_method_23_code 71 = .ok (.areturn, 1) := by decide +kernel
theorem d_Fa_statesOf_72 : decode prog_1_method_23_code 72 = .ok (.getstatic 222, 3) := by decide +kernel
theorem d_Fa_statesOf_75 : decode prog_1_method_23_code 75 = .ok (.areturn, 1) := by decide +kernel
theorem d_Co_allRows_0 : decode prog_2_method_9_code 0 = .ok (.iconst 1, 1) := by decide +kernel
theorem d_Co_allRows_1 : decode prog_2_method_9_code 1 = .ok (.aload_n 0, 1) := by decide +kernel
theorem d_Co_allRows_2 : decode prog_2_method_9_code 2 = .ok (.getfield 25, 3) := by decide +kernel
theorem d_Co_allRows_5 : decode prog_2_method_9_code 5 = .ok (.ishl, 1) := by decide +kernel
theorem d_Co_allRows_6 : decode prog_2_method_9_code 6 = .ok (.iconst 1, 1) := by decide +kernel
theorem d_Co_allRows_7 : decode prog_2_method_9_code 7 = .ok (.isub, 1) := by decide +kernel
theorem d_Co_allRows_8 : decode prog_2_method_9_code 8 = .ok (.ireturn, 1) := by decide +kernel
theorem d_Tr_left_0 : decode prog_7_method_4_code 0 = .ok (.aload_n 0, 1) := by decide +kernel
theorem d_Tr_left_1 : decode prog_7_method_4_code 1 = .ok (.getfield 15, 3) := by decide +kernel
theorem d_Tr_left_4 : decode prog_7_method_4_code 4 = .ok (.iload_n 1, 1) := by decide +kernel
theorem d_Tr_left_5 : decode prog_7_method_4_code 5 = .ok (.iaload, 1) := by decide +kernel
theorem d_Tr_left_6 : decode prog_7_method_4_code 6 = .ok (.ireturn, 1) := by decide +kernel
theorem d_Co_rowsWith_0 : decode prog_2_method_10_code 0 = .ok (.iload_n 1, 1) := by decide +kernel
theorem d_Co_rowsWith_1 : decode prog_2_method_10_code 1 = .ok (.iconst (-1), 1) := by decide +kernel
theorem d_Co_rowsWith_2 : decode prog_2_method_10_code 2 = .ok (.if_icmp .ne (7), 3) := by decide +kernel
theorem d_Co_rowsWith_5 : decode prog_2_method_10_code 5 = .ok (.iconst 0, 1) := by decide +kernel
theorem d_Co_rowsWith_6 : decode prog_2_method_10_code 6 = .ok (.goto (13), 3) := by decide +kernel
theorem d_Co_rowsWith_9 : decode prog_2_method_10_code 9 = .ok (.aload_n 0, 1) := by decide +kernel
theorem d_Co_rowsWith_10 : decode prog_2_method_10_code 10 = .ok (.getfield 15, 3) := by decide +kernel
theorem d_Co_rowsWith_13 : decode prog_2_method_10_code 13 = .ok (.iload_n 1, 1) := by decide +kernel
theorem d_Co_rowsWith_14 : decode prog_2_method_10_code 14 = .ok (.iconst 4, 1) := by decide +kernel
theorem d_Co_rowsWith_15 : decode prog_2_method_10_code 15 = .ok (.imul, 1) := by decide +kernel
theorem d_Co_rowsWith_16 : decode prog_2_method_10_code 16 = .ok (.iload_n 2, 1) := by decide +kernel
theorem d_Co_rowsWith_17 : decode prog_2_method_10_code 17 = .ok (.iadd, 1) := by decide +kernel
theorem d_Co_rowsWith_18 : decode prog_2_method_10_code 18 = .ok (.iaload, 1) := by decide +kernel
theorem d_Co_rowsWith_19 : decode prog_2_method_10_code 19 = .ok (.ireturn, 1) := by decide +kernel
theorem d_Co_rowsWithAny_0 : decode prog_2_method_11_code 0 = .ok (.iconst 0, 1) := by decide +kernel
theorem d_Co_rowsWithAny_1 : decode prog_2_method_11_code 1 = .ok (.istore_n 2, 1) := by decide +kernel
theorem d_Co_rowsWithAny_2 : decode prog_2_method_11_code 2 = .ok (.iconst 0, 1) := by decide +kernel
theorem d_Co_rowsWithAny_3 : decode prog_2_method_11_code 3 = .ok (.istore_n 3, 1) := by decide +kernel
theorem d_Co_rowsWithAny_4 : decode prog_2_method_11_code 4 = .ok (.iload_n 3, 1) := by decide +kernel
theorem d_Co_rowsWithAny_5 : decode prog_2_method_11_code 5 = .ok (.iconst 4, 1) := by decide +kernel
theorem d_Co_rowsWithAny_6 : decode prog_2_method_11_code 6 = .ok (.if_icmp .ge (18), 3) := by decide +kernel
theorem d_Co_rowsWithAny_9 : decode prog_2_method_11_code 9 = .ok (.iload_n 2, 1) := by decide +kernel
theorem d_Co_rowsWithAny_10 : decode prog_2_method_11_code 10 = .ok (.aload_n 0, 1) := by decide +kernel
theorem d_Co_rowsWithAny_11 : decode prog_2_method_11_code 11 = .ok (.iload_n 1, 1) := by decide +kernel
theorem d_Co_rowsWithAny_12 : decode prog_2_method_11_code 12 = .ok (.iload_n 3, 1) := by decide +kernel
theorem d_Co_rowsWithAny_13 : decode prog_2_method_11_code 13 = .ok (.invokevirtual 36, 3) := by decide +kernel
theorem d_Co_rowsWithAny_16 : decode prog_2_method_11_code 16 = .ok (.ior, 1) := by decide +kernel
theorem d_Co_rowsWithAny_17 : decode prog_2_method_11_code 17 = .ok (.istore_n 2, 1) := by decide +kernel
theorem d_Co_rowsWithAny_18 : decode prog_2_method_11_code 18 = .ok (.iinc 3 (1), 3) := by decide +kernel
theorem d_Co_rowsWithAny_21 : decode prog_2_method_11_code 21 = .ok (.goto (-17), 3) := by decide +kernel
theorem d_Co_rowsWithAny_24 : decode prog_2_method_11_code 24 = .ok (.iload_n 2, 1) := by decide +kernel
theorem d_Co_rowsWithAny_25 : decode prog_2_method_11_code 25 = .ok (.ireturn, 1) := by decide +kernel
theorem d_Tr_right_0 : decode prog_7_method_5_code 0 = .ok (.aload_n 0, 1) := by decide +kernel
theorem d_Tr_right_1 : decode prog_7_method_5_code 1 = .ok (.getfield 18, 3) := by decide +kernel
theorem d_Tr_right_4 : decode prog_7_method_5_code 4 = .ok (.iload_n 1, 1) := by decide +kernel
theorem d_Tr_right_5 : decode prog_7_method_5_code 5 = .ok (.iaload, 1) := by decide +kernel
theorem d_Tr_right_6 : decode prog_7_method_5_code 6 = .ok (.ireturn, 1) := by decide +kernel
theorem d_Gr_rowsIn_0 : decode prog_4_method_14_code 0 = .ok (.aload_n 0, 1) := by decide +kernel
theorem d_Gr_rowsIn_1 : decode prog_4_method_14_code 1 = .ok (.getfield 36, 3) := by decide +kernel
theorem d_Gr_rowsIn_4 : decode prog_4_method_14_code 4 = .ok (.invokevirtual 82, 3) := by decide +kernel
theorem d_Gr_rowsIn_7 : decode prog_4_method_14_code 7 = .ok (.istore_n 3, 1) := by decide +kernel
theorem d_Gr_rowsIn_8 : decode prog_4_method_14_code 8 = .ok (.aload_n 0, 1) := by decide +kernel
theorem d_Gr_rowsIn_9 : decode prog_4_method_14_code 9 = .ok (.getfield 36, 3) := by decide +kernel
theorem d_Gr_rowsIn_12 : decode prog_4_method_14_code 12 = .ok (.aload_n 0, 1) := by decide +kernel
theorem d_Gr_rowsIn_13 : decode prog_4_method_14_code 13 = .ok (.getfield 40, 3) := by decide +kernel
theorem d_Gr_rowsIn_16 : decode prog_4_method_14_code 16 = .ok (.iload_n 2, 1) := by decide +kernel
theorem d_Gr_rowsIn_17 : decode prog_4_method_14_code 17 = .ok (.invokevirtual 87, 3) := by decide +kernel
theorem d_Gr_rowsIn_20 : decode prog_4_method_14_code 20 = .ok (.invokevirtual 90, 3) := by decide +kernel
theorem d_Gr_rowsIn_23 : decode prog_4_method_14_code 23 = .ok (.istore 4, 2) := by decide +kernel
theorem d_Gr_rowsIn_25 : decode prog_4_method_14_code 25 = .ok (.aload_n 0, 1) := by decide +kernel
theorem d_Gr_rowsIn_26 : decode prog_4_method_14_code 26 = .ok (.getfield 36, 3) := by decide +kernel
theorem d_Gr_rowsIn_29 : decode prog_4_method_14_code 29 = .ok (.aload_n 0, 1) := by decide +kernel
theorem d_Gr_rowsIn_30 : decode prog_4_method_14_code 30 = .ok (.getfield 40, 3) := by decide +kernel
theorem d_Gr_rowsIn_33 : decode prog_4_method_14_code 33 = .ok (.iload_n 2, 1) := by decide +kernel
theorem d_Gr_rowsIn_34 : decode prog_4_method_14_code 34 = .ok (.invokevirtual 93, 3) := by decide +kernel
theorem d_Gr_rowsIn_37 : decode prog_4_method_14_code 37 = .ok (.invokevirtual 90, 3) := by decide +kernel
theorem d_Gr_rowsIn_40 : decode prog_4_method_14_code 40 = .ok (.istore 5, 2) := by decide +kernel
theorem d_Gr_rowsIn_42 : decode prog_4_method_14_code 42 = .ok (.iload_n 1, 1) := by decide +kernel
theorem d_Gr_rowsIn_43 : decode prog_4_method_14_code 43 = .ok (.tableswitch (73) (1) (6) #[37, 43, 51, 59, 71, 71], 37) := by decide +kernel
theorem d_Gr_rowsIn_80 : decode prog_4_method_14_code 80 = .ok (.iload 4, 2) := by decide +kernel
theorem d_Gr_rowsIn_82 : decode prog_4_method_14_code 82 = .ok (.iload 5, 2) := by decide +kernel
theorem d_Gr_rowsIn_84 : decode prog_4_method_14_code 84 = .ok (.iand, 1) := by decide +kernel
theorem d_Gr_rowsIn_85 : decode prog_4_method_14_code 85 = .ok (.ireturn, 1) := by decide +kernel
theorem d_Gr_rowsIn_86 : decode prog_4_method_14_code 86 = .ok (.iload 4, 2) := by decide +kernel
theorem d_Gr_rowsIn_88 : decode prog_4_method_14_code 88 = .ok (.iload 5, 2) := by decide +kernel
theorem d_Gr_rowsIn_90 : decode prog_4_method_14_code 90 = .ok (.iconst (-1), 1) := by decide +kernel
theorem d_Gr_rowsIn_91 : decode prog_4_method_14_code 91 = .ok (.ixor, 1) := by decide +kernel
theorem d_Gr_rowsIn_92 : decode prog_4_method_14_code 92 = .ok (.iand, 1) := by decide +kernel
theorem d_Gr_rowsIn_93 : decode prog_4_method_14_code 93 = .ok (.ireturn, 1) := by decide +kernel
theorem d_Gr_rowsIn_94 : decode prog_4_method_14_code 94 = .ok (.iload 5, 2) := by decide +kernel
theorem d_Gr_rowsIn_96 : decode prog_4_method_14_code 96 = .ok (.iload 4, 2) := by decide +kernel
theorem d_Gr_rowsIn_98 : decode prog_4_method_14_code 98 = .ok (.iconst (-1), 1) := by decide +kernel
theorem d_Gr_rowsIn_99 : decode prog_4_method_14_code 99 = .ok (.ixor, 1) := by decide +kernel
theorem d_Gr_rowsIn_100 : decode prog_4_method_14_code 100 = .ok (.iand, 1) := by decide +kernel
theorem d_Gr_rowsIn_101 : decode prog_4_method_14_code 101 = .ok (.ireturn, 1) := by decide +kernel
theorem d_Gr_rowsIn_102 : decode prog_4_method_14_code 102 = .ok (.iload_n 3, 1) := by decide +kernel
theorem d_Gr_rowsIn_103 : decode prog_4_method_14_code 103 = .ok (.iload 4, 2) := by decide +kernel
theorem d_Gr_rowsIn_105 : decode prog_4_method_14_code 105 = .ok (.iconst (-1), 1) := by decide +kernel
theorem d_Gr_rowsIn_106 : decode prog_4_method_14_code 106 = .ok (.ixor, 1) := by decide +kernel
theorem d_Gr_rowsIn_107 : decode prog_4_method_14_code 107 = .ok (.iand, 1) := by decide +kernel
theorem d_Gr_rowsIn_108 : decode prog_4_method_14_code 108 = .ok (.iload 5, 2) := by decide +kernel
theorem d_Gr_rowsIn_110 : decode prog_4_method_14_code 110 = .ok (.iconst (-1), 1) := by decide +kernel
theorem d_Gr_rowsIn_111 : decode prog_4_method_14_code 111 = .ok (.ixor, 1) := by decide +kernel
theorem d_Gr_rowsIn_112 : decode prog_4_method_14_code 112 = .ok (.iand, 1) := by decide +kernel
theorem d_Gr_rowsIn_113 : decode prog_4_method_14_code 113 = .ok (.ireturn, 1) := by decide +kernel
theorem d_Gr_rowsIn_114 : decode prog_4_method_14_code 114 = .ok (.iconst 0, 1) := by decide +kernel
theorem d_Gr_rowsIn_115 : decode prog_4_method_14_code 115 = .ok (.ireturn, 1) := by decide +kernel
theorem d_Gr_rowsIn_116 : decode prog_4_method_14_code 116 = .ok (.iload_n 3, 1) := by decide +kernel
theorem d_Gr_rowsIn_117 : decode prog_4_method_14_code 117 = .ok (.ireturn, 1) := by decide +kernel
theorem d_Gr_layStates_0 : decode prog_4_method_13_code 0 = .ok (.aload_n 0, 1) := by decide +kernel
theorem d_Gr_layStates_1 : decode prog_4_method_13_code 1 = .ok (.iconst 0, 1) := by decide +kernel
theorem d_Gr_layStates_2 : decode prog_4_method_13_code 2 = .ok (.putfield 44, 3) := by decide +kernel
theorem d_Gr_layStates_5 : decode prog_4_method_13_code 5 = .ok (.iconst 0, 1) := by decide +kernel
theorem d_Gr_layStates_6 : decode prog_4_method_13_code 6 = .ok (.istore_n 1, 1) := by decide +kernel
theorem d_Gr_layStates_7 : decode prog_4_method_13_code 7 = .ok (.iload_n 1, 1) := by decide +kernel
theorem d_Gr_layStates_8 : decode prog_4_method_13_code 8 = .ok (.aload_n 0, 1) := by decide +kernel
theorem d_Gr_layStates_9 : decode prog_4_method_13_code 9 = .ok (.getfield 40, 3) := by decide +kernel
theorem d_Gr_layStates_12 : decode prog_4_method_13_code 12 = .ok (.invokevirtual 65, 3) := by decide +kernel
theorem d_Gr_layStates_15 : decode prog_4_method_13_code 15 = .ok (.if_icmp .ge (94), 3) := by decide +kernel
theorem d_Gr_layStates_18 : decode prog_4_method_13_code 18 = .ok (.aload_n 0, 1) := by decide +kernel
theorem d_Gr_layStates_19 : decode prog_4_method_13_code 19 = .ok (.getfield 21, 3) := by decide +kernel
theorem d_Gr_layStates_22 : decode prog_4_method_13_code 22 = .ok (.iload_n 1, 1) := by decide +kernel
theorem d_Gr_layStates_23 : decode prog_4_method_13_code 23 = .ok (.aload_n 0, 1) := by decide +kernel
theorem d_Gr_layStates_24 : decode prog_4_method_13_code 24 = .ok (.getfield 44, 3) := by decide +kernel
theorem d_Gr_layStates_27 : decode prog_4_method_13_code 27 = .ok (.iastore, 1) := by decide +kernel
theorem d_Gr_layStates_28 : decode prog_4_method_13_code 28 = .ok (.aload_n 0, 1) := by decide +kernel
theorem d_Gr_layStates_29 : decode prog_4_method_13_code 29 = .ok (.getfield 40, 3) := by decide +kernel
theorem d_Gr_layStates_32 : decode prog_4_method_13_code 32 = .ok (.iload_n 1, 1) := by decide +kernel
theorem d_Gr_layStates_33 : decode prog_4_method_13_code 33 = .ok (.invokevirtual 70, 3) := by decide +kernel
theorem d_Gr_layStates_36 : decode prog_4_method_13_code 36 = .ok (.invokestatic 74, 3) := by decide +kernel
theorem d_Gr_layStates_39 : decode prog_4_method_13_code 39 = .ok (.astore_n 2, 1) := by decide +kernel
theorem d_Gr_layStates_40 : decode prog_4_method_13_code 40 = .ok (.iconst 0, 1) := by decide +kernel
theorem d_Gr_layStates_41 : decode prog_4_method_13_code 41 = .ok (.istore_n 3, 1) := by decide +kernel
theorem d_Gr_layStates_42 : decode prog_4_method_13_code 42 = .ok (.iload_n 3, 1) := by decide +kernel
theorem d_Gr_layStates_43 : decode prog_4_method_13_code 43 = .ok (.aload_n 2, 1) := by decide +kernel
theorem d_Gr_layStates_44 : decode prog_4_method_13_code 44 = .ok (.arraylength, 1) := by decide +kernel
theorem d_Gr_layStates_45 : decode prog_4_method_13_code 45 = .ok (.if_icmp .ge (58), 3) := by decide +kernel
theorem d_Gr_layStates_48 : decode prog_4_method_13_code 48 = .ok (.aload_n 0, 1) := by decide +kernel
theorem d_Gr_layStates_49 : decode prog_4_method_13_code 49 = .ok (.getfield 9, 3) := by decide +kernel
theorem d_Gr_layStates_52 : decode prog_4_method_13_code 52 = .ok (.aload_n 0, 1) := by decide +kernel
theorem d_Gr_layStates_53 : decode prog_4_method_13_code 53 = .ok (.getfield 44, 3) := by decide +kernel
theorem d_Gr_layStates_56 : decode prog_4_method_13_code 56 = .ok (.aload_n 2, 1) := by decide +kernel
theorem d_Gr_layStates_57 : decode prog_4_method_13_code 57 = .ok (.iload_n 3, 1) := by decide +kernel
theorem d_Gr_layStates_58 : decode prog_4_method_13_code 58 = .ok (.iaload, 1) := by decide +kernel
theorem d_Gr_layStates_59 : decode prog_4_method_13_code 59 = .ok (.iastore, 1) := by decide +kernel
theorem d_Gr_layStates_60 : decode prog_4_method_13_code 60 = .ok (.aload_n 0, 1) := by decide +kernel
theorem d_Gr_layStates_61 : decode prog_4_method_13_code 61 = .ok (.getfield 15, 3) := by decide +kernel
theorem d_Gr_layStates_64 : decode prog_4_method_13_code 64 = .ok (.aload_n 0, 1) := by decide +kernel
theorem d_Gr_layStates_65 : decode prog_4_method_13_code 65 = .ok (.getfield 44, 3) := by decide +kernel
theorem d_Gr_layStates_68 : decode prog_4_method_13_code 68 = .ok (.iload_n 1, 1) := by decide +kernel
theorem d_Gr_layStates_69 : decode prog_4_method_13_code 69 = .ok (.iastore, 1) := by decide +kernel
theorem d_Gr_layStates_70 : decode prog_4_method_13_code 70 = .ok (.aload_n 0, 1) := by decide +kernel
theorem d_Gr_layStates_71 : decode prog_4_method_13_code 71 = .ok (.getfield 18, 3) := by decide +kernel
theorem d_Gr_layStates_74 : decode prog_4_method_13_code 74 = .ok (.aload_n 0, 1) := by decide +kernel
theorem d_Gr_layStates_75 : decode prog_4_method_13_code 75 = .ok (.getfield 44, 3) := by decide +kernel
theorem d_Gr_layStates_78 : decode prog_4_method_13_code 78 = .ok (.aload_n 0, 1) := by decide +kernel
theorem d_Gr_layStates_79 : decode prog_4_method_13_code 79 = .ok (.aload_n 2, 1) := by decide +kernel
theorem d_Gr_layStates_80 : decode prog_4_method_13_code 80 = .ok (.iload_n 3, 1) := by decide +kernel
theorem d_Gr_layStates_81 : decode prog_4_method_13_code 81 = .ok (.iaload, 1) := by decide +kernel
theorem d_Gr_layStates_82 : decode prog_4_method_13_code 82 = .ok (.iload_n 1, 1) := by decide +kernel
theorem d_Gr_layStates_83 : decode prog_4_method_13_code 83 = .ok (.invokevirtual 78, 3) := by decide +kernel
theorem d_Gr_layStates_86 : decode prog_4_method_13_code 86 = .ok (.iastore, 1) := by decide +kernel
theorem d_Gr_layStates_87 : decode prog_4_method_13_code 87 = .ok (.aload_n 0, 1) := by decide +kernel
theorem d_Gr_layStates_88 : decode prog_4_method_13_code 88 = .ok (.dup, 1) := by decide +kernel
theorem d_Gr_layStates_89 : decode prog_4_method_13_code 89 = .ok (.getfield 44, 3) := by decide +kernel
theorem d_Gr_layStates_92 : decode prog_4_method_13_code 92 = .ok (.iconst 1, 1) := by decide +kernel
theorem d_Gr_layStates_93 : decode prog_4_method_13_code 93 = .ok (.iadd, 1) := by decide +kernel
theorem d_Gr_layStates_94 : decode prog_4_method_13_code 94 = .ok (.putfield 44, 3) := by decide +kernel
theorem d_Gr_layStates_97 : decode prog_4_method_13_code 97 = .ok (.iinc 3 (1), 3) := by decide +kernel
theorem d_Gr_layStates_100 : decode prog_4_method_13_code 100 = .ok (.goto (-58), 3) := by decide +kernel
theorem d_Gr_layStates_103 : decode prog_4_method_13_code 103 = .ok (.iinc 1 (1), 3) := by decide +kernel
theorem d_Gr_layStates_106 : decode prog_4_method_13_code 106 = .ok (.goto (-99), 3) := by decide +kernel
theorem d_Gr_layStates_109 : decode prog_4_method_13_code 109 = .ok (.aload_n 0, 1) := by decide +kernel
theorem d_Gr_layStates_110 : decode prog_4_method_13_code 110 = .ok (.getfield 21, 3) := by decide +kernel
theorem d_Gr_layStates_113 : decode prog_4_method_13_code 113 = .ok (.aload_n 0, 1) := by decide +kernel
theorem d_Gr_layStates_114 : decode prog_4_method_13_code 114 = .ok (.getfield 40, 3) := by decide +kernel
theorem d_Gr_layStates_117 : decode prog_4_method_13_code 117 = .ok (.invokevirtual 65, 3) := by decide +kernel
theorem d_Gr_layStates_120 : decode prog_4_method_13_code 120 = .ok (.aload_n 0, 1) := by decide +kernel
theorem d_Gr_layStates_121 : decode prog_4_method_13_code 121 = .ok (.getfield 44, 3) := by decide +kernel
theorem d_Gr_layStates_124 : decode prog_4_method_13_code 124 = .ok (.iastore, 1) := by decide +kernel
theorem d_Gr_layStates_125 : decode prog_4_method_13_code 125 = .ok (.return_, 1) := by decide +kernel
theorem d_Fa_isInsert_0 : decode prog_1_method_19_code 0 = .ok (.iload_n 0, 1) := by decide +kernel
theorem d_Fa_isInsert_1 : decode prog_1_method_19_code 1 = .ok (.iconst 5, 1) := by decide +kernel
theorem d_Fa_isInsert_2 : decode prog_1_method_19_code 2 = .ok (.if_icmp .eq (9), 3) := by decide +kernel
theorem d_Fa_isInsert_5 : decode prog_1_method_19_code 5 = .ok (.iload_n 0, 1) := by decide +kernel
theorem d_Fa_isInsert_6 : decode prog_1_method_19_code 6 = .ok (.bipush (6), 2) := by decide +kernel
theorem d_Fa_isInsert_8 : decode prog_1_method_19_code 8 = .ok (.if_icmp .ne (7), 3) := by decide +kernel
theorem d_Fa_isInsert_11 : decode prog_1_method_19_code 11 = .ok (.iconst 1, 1) := by decide +kernel
theorem d_Fa_isInsert_12 : decode prog_1_method_19_code 12 = .ok (.goto (4), 3) := by decide +kernel
theorem d_Fa_isInsert_15 : decode prog_1_method_19_code 15 = .ok (.iconst 0, 1) := by decide +kernel
theorem d_Fa_isInsert_16 : decode prog_1_method_19_code 16 = .ok (.ireturn, 1) := by decide +kernel
theorem d_Gr_addTarget_0 : decode prog_4_method_17_code 0 = .ok (.aload_n 0, 1) := by decide +kernel
theorem d_Gr_addTarget_1 : decode prog_4_method_17_code 1 = .ok (.getfield 27, 3) := by decide +kernel
theorem d_Gr_addTarget_4 : decode prog_4_method_17_code 4 = .ok (.iload_n 1, 1) := by decide +kernel
theorem d_Gr_addTarget_5 : decode prog_4_method_17_code 5 = .ok (.bipush (6), 2) := by decide +kernel
theorem d_Gr_addTarget_7 : decode prog_4_method_17_code 7 = .ok (.imul, 1) := by decide +kernel
theorem d_Gr_addTarget_8 : decode prog_4_method_17_code 8 = .ok (.aload_n 0, 1) := by decide +kernel
theorem d_Gr_addTarget_9 : decode prog_4_method_17_code 9 = .ok (.getfield 24, 3) := by decide +kernel
theorem d_Gr_addTarget_12 : decode prog_4_method_17_code 12 = .ok (.iload_n 1, 1) := by decide +kernel
theorem d_Gr_addTarget_13 : decode prog_4_method_17_code 13 = .ok (.iaload, 1) := by decide +kernel
theorem d_Gr_addTarget_14 : decode prog_4_method_17_code 14 = .ok (.iadd, 1) := by decide +kernel
theorem d_Gr_addTarget_15 : decode prog_4_method_17_code 15 = .ok (.iload_n 2, 1) := by decide +kernel
theorem d_Gr_addTarget_16 : decode prog_4_method_17_code 16 = .ok (.iastore, 1) := by decide +kernel
theorem d_Gr_addTarget_17 : decode prog_4_method_17_code 17 = .ok (.aload_n 0, 1) := by decide +kernel
theorem d_Gr_addTarget_18 : decode prog_4_method_17_code 18 = .ok (.getfield 24, 3) := by decide +kernel
theorem d_Gr_addTarget_21 : decode prog_4_method_17_code 21 = .ok (.iload_n 1, 1) := by decide +kernel
theorem d_Gr_addTarget_22 : decode prog_4_method_17_code 22 = .ok (.dup2, 1) := by decide +kernel
theorem d_Gr_addTarget_23 : decode prog_4_method_17_code 23 = .ok (.iaload, 1) := by decide +kernel
theorem d_Gr_addTarget_24 : decode prog_4_method_17_code 24 = .ok (.iconst 1, 1) := by decide +kernel
theorem d_Gr_addTarget_25 : decode prog_4_method_17_code 25 = .ok (.iadd, 1) := by decide +kernel
theorem d_Gr_addTarget_26 : decode prog_4_method_17_code 26 = .ok (.iastore, 1) := by decide +kernel
theorem d_Gr_addTarget_27 : decode prog_4_method_17_code 27 = .ok (.return_, 1) := by decide +kernel
theorem d_Gr_addStates_0 : decode prog_4_method_16_code 0 = .ok (.aload_n 0, 1) := by decide +kernel
theorem d_Gr_addStates_1 : decode prog_4_method_16_code 1 = .ok (.getfield 21, 3) := by decide +kernel
theorem d_Gr_addStates_4 : decode prog_4_method_16_code 4 = .ok (.iload_n 2, 1) := by decide +kernel
theorem d_Gr_addStates_5 : decode prog_4_method_16_code 5 = .ok (.iaload, 1) := by decide +kernel
theorem d_Gr_addStates_6 : decode prog_4_method_16_code 6 = .ok (.istore 4, 2) := by decide +kernel
theorem d_Gr_addStates_8 : decode prog_4_method_16_code 8 = .ok (.iload 4, 2) := by decide +kernel
theorem d_Gr_addStates_10 : decode prog_4_method_16_code 10 = .ok (.aload_n 0, 1) := by decide +kernel
theorem d_Gr_addStates_11 : decode prog_4_method_16_code 11 = .ok (.getfield 21, 3) := by decide +kernel
theorem d_Gr_addStates_14 : decode prog_4_method_16_code 14 = .ok (.iload_n 2, 1) := by decide +kernel
theorem d_Gr_addStates_15 : decode prog_4_method_16_code 15 = .ok (.iconst 1, 1) := by decide +kernel
theorem d_Gr_addStates_16 : decode prog_4_method_16_code 16 = .ok (.iadd, 1) := by decide +kernel
theorem d_Gr_addStates_17 : decode prog_4_method_16_code 17 = .ok (.iaload, 1) := by decide +kernel
theorem d_Gr_addStates_18 : decode prog_4_method_16_code 18 = .ok (.if_icmp .ge (30), 3) := by decide +kernel
theorem d_Gr_addStates_21 : decode prog_4_method_16_code 21 = .ok (.aload_n 0, 1) := by decide +kernel
theorem d_Gr_addStates_22 : decode prog_4_method_16_code 22 = .ok (.getfield 9, 3) := by decide +kernel
theorem d_Gr_addStates_25 : decode prog_4_method_16_code 25 = .ok (.iload 4, 2) := by decide +kernel
theorem d_Gr_addStates_27 : decode prog_4_method_16_code 27 = .ok (.iaload, 1) := by decide +kernel
theorem d_Gr_addStates_28 : decode prog_4_method_16_code 28 = .ok (.invokestatic 107, 3) := by decide +kernel
theorem d_Gr_addStates_31 : decode prog_4_method_16_code 31 = .ok (.iload_n 3, 1) := by decide +kernel
theorem d_Gr_addStates_32 : decode prog_4_method_16_code 32 = .ok (.if_icmp .ne (10), 3) := by decide +kernel
theorem d_Gr_addStates_35 : decode prog_4_method_16_code 35 = .ok (.aload_n 0, 1) := by decide +kernel
theorem d_Gr_addStates_36 : decode prog_4_method_16_code 36 = .ok (.iload_n 1, 1) := by decide +kernel
theorem d_Gr_addStates_37 : decode prog_4_method_16_code 37 = .ok (.iload 4, 2) := by decide +kernel
theorem d_Gr_addStates_39 : decode prog_4_method_16_code 39 = .ok (.invokevirtual 96, 3) := by decide +kernel
theorem d_Gr_addStates_42 : decode prog_4_method_16_code 42 = .ok (.iinc 4 (1), 3) := by decide +kernel
theorem d_Gr_addStates_45 : decode prog_4_method_16_code 45 = .ok (.goto (-37), 3) := by decide +kernel
theorem d_Gr_addStates_48 : decode prog_4_method_16_code 48 = .ok (.return_, 1) := by decide +kernel
theorem d_Tr_second_0 : decode prog_7_method_6_code 0 = .ok (.aload_n 0, 1) := by decide +kernel
theorem d_Tr_second_1 : decode prog_7_method_6_code 1 = .ok (.getfield 21, 3) := by decide +kernel
theorem d_Tr_second_4 : decode prog_7_method_6_code 4 = .ok (.iload_n 1, 1) := by decide +kernel
theorem d_Tr_second_5 : decode prog_7_method_6_code 5 = .ok (.iaload, 1) := by decide +kernel
theorem d_Tr_second_6 : decode prog_7_method_6_code 6 = .ok (.ireturn, 1) := by decide +kernel
theorem d_Gr_addTargets_0 : decode prog_4_method_15_code 0 = .ok (.aload_n 0, 1) := by decide +kernel
theorem d_Gr_addTargets_1 : decode prog_4_method_15_code 1 = .ok (.getfield 15, 3) := by decide +kernel
theorem d_Gr_addTargets_4 : decode prog_4_method_15_code 4 = .ok (.iload_n 1, 1) := by decide +kernel
theorem d_Gr_addTargets_5 : decode prog_4_method_15_code 5 = .ok (.iaload, 1) := by decide +kernel
theorem d_Gr_addTargets_6 : decode prog_4_method_15_code 6 = .ok (.istore_n 2, 1) := by decide +kernel
theorem d_Gr_addTargets_7 : decode prog_4_method_15_code 7 = .ok (.aload_n 0, 1) := by decide +kernel
theorem d_Gr_addTargets_8 : decode prog_4_method_15_code 8 = .ok (.getfield 9, 3) := by decide +kernel
theorem d_Gr_addTargets_11 : decode prog_4_method_15_code 11 = .ok (.iload_n 1, 1) := by decide +kernel
theorem d_Gr_addTargets_12 : decode prog_4_method_15_code 12 = .ok (.iaload, 1) := by decide +kernel
theorem d_Gr_addTargets_13 : decode prog_4_method_15_code 13 = .ok (.tableswitch (82) (6) (8) #[64, 30, 27], 27) := by decide +kernel
theorem d_Gr_addTargets_40 : decode prog_4_method_15_code 40 = .ok (.goto (71), 3) := by decide +kernel
theorem d_Gr_addTargets_43 : decode prog_4_method_15_code 43 = .ok (.aload_n 0, 1) := by decide +kernel
theorem d_Gr_addTargets_44 : decode prog_4_method_15_code 44 = .ok (.iload_n 1, 1) := by decide +kernel
theorem d_Gr_addTargets_45 : decode prog_4_method_15_code 45 = .ok (.aload_n 0, 1) := by decide +kernel
theorem d_Gr_addTargets_46 : decode prog_4_method_15_code 46 = .ok (.getfield 21, 3) := by decide +kernel
theorem d_Gr_addTargets_49 : decode prog_4_method_15_code 49 = .ok (.iload_n 2, 1) := by decide +kernel
theorem d_Gr_addTargets_50 : decode prog_4_method_15_code 50 = .ok (.iconst 1, 1) := by decide +kernel
theorem d_Gr_addTargets_51 : decode prog_4_method_15_code 51 = .ok (.iadd, 1) := by decide +kernel
theorem d_Gr_addTargets_52 : decode prog_4_method_15_code 52 = .ok (.iaload, 1) := by decide +kernel
theorem d_Gr_addTargets_53 : decode prog_4_method_15_code 53 = .ok (.invokevirtual 96, 3) := by decide +kernel
theorem d_Gr_addTargets_56 : decode prog_4_method_15_code 56 = .ok (.aload_n 0, 1) := by decide +kernel
theorem d_Gr_addTargets_57 : decode prog_4_method_15_code 57 = .ok (.iload_n 1, 1) := by decide +kernel
theorem d_Gr_addTargets_58 : decode prog_4_method_15_code 58 = .ok (.aload_n 0, 1) := by decide +kernel
theorem d_Gr_addTargets_59 : decode prog_4_method_15_code 59 = .ok (.getfield 21, 3) := by decide +kernel
theorem d_Gr_addTargets_62 : decode prog_4_method_15_code 62 = .ok (.aload_n 0, 1) := by decide +kernel
theorem d_Gr_addTargets_63 : decode prog_4_method_15_code 63 = .ok (.getfield 40, 3) := by decide +kernel
theorem d_Gr_addTargets_66 : decode prog_4_method_15_code 66 = .ok (.iload_n 2, 1) := by decide +kernel
theorem d_Gr_addTargets_67 : decode prog_4_method_15_code 67 = .ok (.invokevirtual 100, 3) := by decide +kernel
theorem d_Gr_addTargets_70 : decode prog_4_method_15_code 70 = .ok (.iaload, 1) := by decide +kernel
theorem d_Gr_addTargets_71 : decode prog_4_method_15_code 71 = .ok (.invokevirtual 96, 3) := by decide +kernel
theorem d_Gr_addTargets_74 : decode prog_4_method_15_code 74 = .ok (.goto (37), 3) := by decide +kernel
theorem d_Gr_addTargets_77 : decode prog_4_method_15_code 77 = .ok (.aload_n 0, 1) := by decide +kernel
theorem d_Gr_addTargets_78 : decode prog_4_method_15_code 78 = .ok (.iload_n 1, 1) := by decide +kernel
theorem d_Gr_addTargets_79 : decode prog_4_method_15_code 79 = .ok (.iload_n 1, 1) := by decide +kernel
theorem d_Gr_addTargets_80 : decode prog_4_method_15_code 80 = .ok (.invokevirtual 96, 3) := by decide +kernel
theorem d_Gr_addTargets_83 : decode prog_4_method_15_code 83 = .ok (.aload_n 0, 1) := by decide +kernel
theorem d_Gr_addTargets_84 : decode prog_4_method_15_code 84 = .ok (.iload_n 1, 1) := by decide +kernel
theorem d_Gr_addTargets_85 : decode prog_4_method_15_code 85 = .ok (.iload_n 2, 1) := by decide +kernel
theorem d_Gr_addTargets_86 : decode prog_4_method_15_code 86 = .ok (.iconst 1, 1) := by decide +kernel
theorem d_Gr_addTargets_87 : decode prog_4_method_15_code 87 = .ok (.iadd, 1) := by decide +kernel
theorem d_Gr_addTargets_88 : decode prog_4_method_15_code 88 = .ok (.iconst 0, 1) := by decide +kernel
theorem d_Gr_addTargets_89 : decode prog_4_method_15_code 89 = .ok (.invokevirtual 103, 3) := by decide +kernel
theorem d_Gr_addTargets_92 : decode prog_4_method_15_code 92 = .ok (.goto (19), 3) := by decide +kernel
theorem d_Gr_addTargets_95 : decode prog_4_method_15_code 95 = .ok (.aload_n 0, 1) := by decide +kernel
theorem d_Gr_addTargets_96 : decode prog_4_method_15_code 96 = .ok (.iload_n 1, 1) := by decide +kernel
theorem d_Gr_addTargets_97 : decode prog_4_method_15_code 97 = .ok (.iload_n 2, 1) := by decide +kernel
theorem d_Gr_addTargets_98 : decode prog_4_method_15_code 98 = .ok (.iconst 1, 1) := by decide +kernel
theorem d_Gr_addTargets_99 : decode prog_4_method_15_code 99 = .ok (.invokevirtual 103, 3) := by decide +kernel
theorem d_Gr_addTargets_102 : decode prog_4_method_15_code 102 = .ok (.aload_n 0, 1) := by decide +kernel
theorem d_Gr_addTargets_103 : decode prog_4_method_15_code 103 = .ok (.iload_n 1, 1) := by decide +kernel
theorem d_Gr_addTargets_104 : decode prog_4_method_15_code 104 = .ok (.iload_n 2, 1) := by decide +kernel
