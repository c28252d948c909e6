/-! decode rows (written by wip/gen) -/
theorem d_Fa_isMark_0 : decode prog_1_method_17_code 0 = .ok (.iload_n 0, 1) := by decide +kernel
theorem d_Fa_isMark_1 : decode prog_1_method_17_code 1 = .ok (.bipush (40), 2) := by decide +kernel
theorem d_Fa_isMark_3 : decode prog_1_method_17_code 3 = .ok (.if_icmp .eq (15), 3) := by decide +kernel
theorem d_Fa_isMark_6 : decode prog_1_method_17_code 6 = .ok (.iload_n 0, 1) := by decide +kernel
theorem d_Fa_isMark_7 : decode prog_1_method_17_code 7 = .ok (.bipush (41), 2) := by decide +kernel
theorem d_Fa_isMark_9 : decode prog_1_method_17_code 9 = .ok (.if_icmp .eq (9), 3) := by decide +kernel
theorem d_Fa_isMark_12 : decode prog_1_method_17_code 12 = .ok (.iload_n 0, 1) := by decide +kernel
theorem d_Fa_isMark_13 : decode prog_1_method_17_code 13 = .ok (.bipush (46), 2) := by decide +kernel
theorem d_Fa_isMark_15 : decode prog_1_method_17_code 15 = .ok (.if_icmp .ne (7), 3) := by decide +kernel
theorem d_Fa_isMark_18 : decode prog_1_method_17_code 18 = .ok (.iconst 1, 1) := by decide +kernel
theorem d_Fa_isMark_19 : decode prog_1_method_17_code 19 = .ok (.goto (4), 3) := by decide +kernel
theorem d_Fa_isMark_22 : decode prog_1_method_17_code 22 = .ok (.iconst 0, 1) := by decide +kernel
theorem d_Fa_isMark_23 : decode prog_1_method_17_code 23 = .ok (.ireturn, 1) := by decide +kernel
theorem d_Co_isFull_0 : decode prog_2_method_3_code 0 = .ok (.aload_n 0, 1) := by decide +kernel
theorem d_Co_isFull_1 : decode prog_2_method_3_code 1 = .ok (.getfield 29, 3) := by decide +kernel
theorem d_Co_isFull_4 : decode prog_2_method_3_code 4 = .ok (.bipush (8), 2) := by decide +kernel
theorem d_Co_isFull_6 : decode prog_2_method_3_code 6 = .ok (.if_icmp .lt (7), 3) := by decide +kernel
theorem d_Co_isFull_9 : decode prog_2_method_3_code 9 = .ok (.iconst 1, 1) := by decide +kernel
theorem d_Co_isFull_10 : decode prog_2_method_3_code 10 = .ok (.goto (4), 3) := by decide +kernel
theorem d_Co_isFull_13 : decode prog_2_method_3_code 13 = .ok (.iconst 0, 1) := by decide +kernel
theorem d_Co_isFull_14 : decode prog_2_method_3_code 14 = .ok (.ireturn, 1) := by decide +kernel
theorem d_Fa_isLetter_0 : decode prog_1_method_18_code 0 = .ok (.iload_n 0, 1) := by decide +kernel
theorem d_Fa_isLetter_1 : decode prog_1_method_18_code 1 = .ok (.ifCond .lt (12), 3) := by decide +kernel
theorem d_Fa_isLetter_4 : decode prog_1_method_18_code 4 = .ok (.iload_n 0, 1) := by decide +kernel
theorem d_Fa_isLetter_5 : decode prog_1_method_18_code 5 = .ok (.iconst 4, 1) := by decide +kernel
theorem d_Fa_isLetter_6 : decode prog_1_method_18_code 6 = .ok (.if_icmp .ge (7), 3) := by decide +kernel
theorem d_Fa_isLetter_9 : decode prog_1_method_18_code 9 = .ok (.iconst 1, 1) := by decide +kernel
theorem d_Fa_isLetter_10 : decode prog_1_method_18_code 10 = .ok (.goto (4), 3) := by decide +kernel
theorem d_Fa_isLetter_13 : decode prog_1_method_18_code 13 = .ok (.iconst 0, 1) := by decide +kernel
theorem d_Fa_isLetter_14 : decode prog_1_method_18_code 14 = .ok (.ireturn, 1) := by decide +kernel
theorem d_Co_add_0 : decode prog_2_method_4_code 0 = .ok (.aload_n 0, 1) := by decide +kernel
theorem d_Co_add_1 : decode prog_2_method_4_code 1 = .ok (.getfield 9, 3) := by decide +kernel
theorem d_Co_add_4 : decode prog_2_method_4_code 4 = .ok (.aload_n 0, 1) := by decide +kernel
theorem d_Co_add_5 : decode prog_2_method_4_code 5 = .ok (.getfield 29, 3) := by decide +kernel
theorem d_Co_add_8 : decode prog_2_method_4_code 8 = .ok (.iload_n 1, 1) := by decide +kernel
theorem d_Co_add_9 : decode prog_2_method_4_code 9 = .ok (.castore, 1) := by decide +kernel
theorem d_Co_add_10 : decode prog_2_method_4_code 10 = .ok (.iconst 0, 1) := by decide +kernel
theorem d_Co_add_11 : decode prog_2_method_4_code 11 = .ok (.istore_n 3, 1) := by decide +kernel
theorem d_Co_add_12 : decode prog_2_method_4_code 12 = .ok (.iload_n 3, 1) := by decide +kernel
theorem d_Co_add_13 : decode prog_2_method_4_code 13 = .ok (.iconst 4, 1) := by decide +kernel
theorem d_Co_add_14 : decode prog_2_method_4_code 14 = .ok (.if_icmp .ge (23), 3) := by decide +kernel
theorem d_Co_add_17 : decode prog_2_method_4_code 17 = .ok (.aload_n 0, 1) := by decide +kernel
theorem d_Co_add_18 : decode prog_2_method_4_code 18 = .ok (.getfield 15, 3) := by decide +kernel
theorem d_Co_add_21 : decode prog_2_method_4_code 21 = .ok (.aload_n 0, 1) := by decide +kernel
theorem d_Co_add_22 : decode prog_2_method_4_code 22 = .ok (.getfield 29, 3) := by decide +kernel
theorem d_Co_add_25 : decode prog_2_method_4_code 25 = .ok (.iconst 4, 1) := by decide +kernel
theorem d_Co_add_26 : decode prog_2_method_4_code 26 = .ok (.imul, 1) := by decide +kernel
theorem d_Co_add_27 : decode prog_2_method_4_code 27 = .ok (.iload_n 3, 1) := by decide +kernel
theorem d_Co_add_28 : decode prog_2_method_4_code 28 = .ok (.iadd, 1) := by decide +kernel
theorem d_Co_add_29 : decode prog_2_method_4_code 29 = .ok (.iconst 0, 1) := by decide +kernel
theorem d_Co_add_30 : decode prog_2_method_4_code 30 = .ok (.iastore, 1) := by decide +kernel
theorem d_Co_add_31 : decode prog_2_method_4_code 31 = .ok (.iinc 3 (1), 3) := by decide +kernel
theorem d_Co_add_34 : decode prog_2_method_4_code 34 = .ok (.goto (-22), 3) := by decide +kernel
theorem d_Co_add_37 : decode prog_2_method_4_code 37 = .ok (.iconst 0, 1) := by decide +kernel
theorem d_Co_add_38 : decode prog_2_method_4_code 38 = .ok (.istore_n 3, 1) := by decide +kernel
theorem d_Co_add_39 : decode prog_2_method_4_code 39 = .ok (.iload_n 3, 1) := by decide +kernel
theorem d_Co_add_40 : decode prog_2_method_4_code 40 = .ok (.aload_n 0, 1) := by decide +kernel
theorem d_Co_add_41 : decode prog_2_method_4_code 41 = .ok (.getfield 25, 3) := by decide +kernel
theorem d_Co_add_44 : decode prog_2_method_4_code 44 = .ok (.if_icmp .ge (47), 3) := by decide +kernel
theorem d_Co_add_47 : decode prog_2_method_4_code 47 = .ok (.iload_n 2, 1) := by decide +kernel
theorem d_Co_add_48 : decode prog_2_method_4_code 48 = .ok (.iconst 3, 1) := by decide +kernel
theorem d_Co_add_49 : decode prog_2_method_4_code 49 = .ok (.iload_n 3, 1) := by decide +kernel
theorem d_Co_add_50 : decode prog_2_method_4_code 50 = .ok (.imul, 1) := by decide +kernel
theorem d_Co_add_51 : decode prog_2_method_4_code 51 = .ok (.iushr, 1) := by decide +kernel
theorem d_Co_add_52 : decode prog_2_method_4_code 52 = .ok (.bipush (7), 2) := by decide +kernel
theorem d_Co_add_54 : decode prog_2_method_4_code 54 = .ok (.iand, 1) := by decide +kernel
theorem d_Co_add_55 : decode prog_2_method_4_code 55 = .ok (.istore 4, 2) := by decide +kernel
theorem d_Co_add_57 : decode prog_2_method_4_code 57 = .ok (.iload 4, 2) := by decide +kernel
theorem d_Co_add_59 : decode prog_2_method_4_code 59 = .ok (.invokestatic 32, 3) := by decide +kernel
theorem d_Co_add_62 : decode prog_2_method_4_code 62 = .ok (.ifCond .eq (23), 3) := by decide +kernel
theorem d_Co_add_65 : decode prog_2_method_4_code 65 = .ok (.aload_n 0, 1) := by decide +kernel
theorem d_Co_add_66 : decode prog_2_method_4_code 66 = .ok (.getfield 15, 3) := by decide +kernel
theorem d_Co_add_69 : decode prog_2_method_4_code 69 = .ok (.aload_n 0, 1) := by decide +kernel
theorem d_Co_add_70 : decode prog_2_method_4_code 70 = .ok (.getfield 29, 3) := by decide +kernel
theorem d_Co_add_73 : decode prog_2_method_4_code 73 = .ok (.iconst 4, 1) := by decide +kernel
theorem d_Co_add_74 : decode prog_2_method_4_code 74 = .ok (.imul, 1) := by decide +kernel
theorem d_Co_add_75 : decode prog_2_method_4_code 75 = .ok (.iload 4, 2) := by decide +kernel
theorem d_Co_add_77 : decode prog_2_method_4_code 77 = .ok (.iadd, 1) := by decide +kernel
theorem d_Co_add_78 : decode prog_2_method_4_code 78 = .ok (.dup2, 1) := by decide +kernel
theorem d_Co_add_79 : decode prog_2_method_4_code 79 = .ok (.iaload, 1) := by decide +kernel
theorem d_Co_add_80 : decode prog_2_method_4_code 80 = .ok (.iconst 1, 1) := by decide +kernel
theorem d_Co_add_81 : decode prog_2_method_4_code 81 = .ok (.iload_n 3, 1) := by decide +kernel
theorem d_Co_add_82 : decode prog_2_method_4_code 82 = .ok (.ishl, 1) := by decide +kernel
theorem d_Co_add_83 : decode prog_2_method_4_code 83 = .ok (.ior, 1) := by decide +kernel
theorem d_Co_add_84 : decode prog_2_method_4_code 84 = .ok (.iastore, 1) := by decide +kernel
theorem d_Co_add_85 : decode prog_2_method_4_code 85 = .ok (.iinc 3 (1), 3) := by decide +kernel
theorem d_Co_add_88 : decode prog_2_method_4_code 88 = .ok (.goto (-49), 3) := by decide +kernel
theorem d_Co_add_91 : decode prog_2_method_4_code 91 = .ok (.aload_n 0, 1) := by decide +kernel
theorem d_Co_add_92 : decode prog_2_method_4_code 92 = .ok (.dup, 1) := by decide +kernel
theorem d_Co_add_93 : decode prog_2_method_4_code 93 = .ok (.getfield 29, 3) := by decide +kernel
theorem d_Co_add_96 : decode prog_2_method_4_code 96 = .ok (.iconst 1, 1) := by decide +kernel
theorem d_Co_add_97 : decode prog_2_method_4_code 97 = .ok (.iadd, 1) := by decide +kernel
theorem d_Co_add_98 : decode prog_2_method_4_code 98 = .ok (.putfield 29, 3) := by decide +kernel
theorem d_Co_add_101 : decode prog_2_method_4_code 101 = .ok (.return_, 1) := by decide +kernel
theorem d_Gr_forget_0 : decode prog_4_method_3_code 0 = .ok (.aload_n 0, 1) := by decide +kernel
theorem d_Gr_forget_1 : decode prog_4_method_3_code 1 = .ok (.iconst 0, 1) := by decide +kernel
theorem d_Gr_forget_2 : decode prog_4_method_3_code 2 = .ok (.putfield 44, 3) := by decide +kernel
theorem d_Gr_forget_5 : decode prog_4_method_3_code 5 = .ok (.return_, 1) := by decide +kernel
theorem d_Hi_forget_0 : decode prog_5_method_3_code 0 = .ok (.aload_n 0, 1) := by decide +kernel
theorem d_Hi_forget_1 : decode prog_5_method_3_code 1 = .ok (.iconst 0, 1) := by decide +kernel
theorem d_Hi_forget_2 : decode prog_5_method_3_code 2 = .ok (.putfield 25, 3) := by decide +kernel
theorem d_Hi_forget_5 : decode prog_5_method_3_code 5 = .ok (.return_, 1) := by decide +kernel
theorem d_Fa_dropGrammar_0 : decode prog_1_method_16_code 0 = .ok (.aload_n 0, 1) := by decide +kernel
theorem d_Fa_dropGrammar_1 : decode prog_1_method_16_code 1 = .ok (.getfield 44, 3) := by decide +kernel
theorem d_Fa_dropGrammar_4 : decode prog_1_method_16_code 4 = .ok (.invokevirtual 193, 3) := by decide +kernel
theorem d_Fa_dropGrammar_7 : decode prog_1_method_16_code 7 = .ok (.aload_n 0, 1) := by decide +kernel
theorem d_Fa_dropGrammar_8 : decode prog_1_method_16_code 8 = .ok (.getfield 64, 3) := by decide +kernel
theorem d_Fa_dropGrammar_11 : decode prog_1_method_16_code 11 = .ok (.invokevirtual 106, 3) := by decide +kernel
theorem d_Fa_dropGrammar_14 : decode prog_1_method_16_code 14 = .ok (.return_, 1) := by decide +kernel
theorem d_Fa_column_0 : decode prog_1_method_2_code 0 = .ok (.iload_n 1, 1) := by decide +kernel
theorem d_Fa_column_1 : decode prog_1_method_2_code 1 = .ok (.invokestatic 75, 3) := by decide +kernel
theorem d_Fa_column_4 : decode prog_1_method_2_code 4 = .ok (.ifCond .eq (13), 3) := by decide +kernel
theorem d_Fa_column_7 : decode prog_1_method_2_code 7 = .ok (.aload_n 0, 1) := by decide +kernel
theorem d_Fa_column_8 : decode prog_1_method_2_code 8 = .ok (.getfield 36, 3) := by decide +kernel
theorem d_Fa_column_11 : decode prog_1_method_2_code 11 = .ok (.invokevirtual 79, 3) := by decide +kernel
theorem d_Fa_column_14 : decode prog_1_method_2_code 14 = .ok (.ifCond .eq (5), 3) := by decide +kernel
theorem d_Fa_column_17 : decode prog_1_method_2_code 17 = .ok (.iconst 0, 1) := by decide +kernel
theorem d_Fa_column_18 : decode prog_1_method_2_code 18 = .ok (.ireturn, 1) := by decide +kernel
theorem d_Fa_column_19 : decode prog_1_method_2_code 19 = .ok (.aload_n 0, 1) := by decide +kernel
theorem d_Fa_column_20 : decode prog_1_method_2_code 20 = .ok (.getfield 36, 3) := by decide +kernel
theorem d_Fa_column_23 : decode prog_1_method_2_code 23 = .ok (.iload_n 1, 1) := by decide +kernel
theorem d_Fa_column_24 : decode prog_1_method_2_code 24 = .ok (.iload_n 2, 1) := by decide +kernel
theorem d_Fa_column_25 : decode prog_1_method_2_code 25 = .ok (.invokevirtual 83, 3) := by decide +kernel
theorem d_Fa_column_28 : decode prog_1_method_2_code 28 = .ok (.aload_n 0, 1) := by decide +kernel
theorem d_Fa_column_29 : decode prog_1_method_2_code 29 = .ok (.invokevirtual 87, 3) := by decide +kernel
theorem d_Fa_column_32 : decode prog_1_method_2_code 32 = .ok (.iconst 1, 1) := by decide +kernel
theorem d_Fa_column_33 : decode prog_1_method_2_code 33 = .ok (.ireturn, 1) := by decide +kernel
theorem d_Co_pairUp_0 : decode prog_2_method_6_code 0 = .ok (.iconst 0, 1) := by decide +kernel
theorem d_Co_pairUp_1 : decode prog_2_method_6_code 1 = .ok (.istore_n 1, 1) := by decide +kernel
theorem d_Co_pairUp_2 : decode prog_2_method_6_code 2 = .ok (.iconst 0, 1) := by decide +kernel
theorem d_Co_pairUp_3 : decode prog_2_method_6_code 3 = .ok (.istore_n 2, 1) := by decide +kernel
theorem d_Co_pairUp_4 : decode prog_2_method_6_code 4 = .ok (.iload_n 2, 1) := by decide +kernel
theorem d_Co_pairUp_5 : decode prog_2_method_6_code 5 = .ok (.aload_n 0, 1) := by decide +kernel
theorem d_Co_pairUp_6 : decode prog_2_method_6_code 6 = .ok (.getfield 29, 3) := by decide +kernel
theorem d_Co_pairUp_9 : decode prog_2_method_6_code 9 = .ok (.if_icmp .ge (84), 3) := by decide +kernel
theorem d_Co_pairUp_12 : decode prog_2_method_6_code 12 = .ok (.aload_n 0, 1) := by decide +kernel
theorem d_Co_pairUp_13 : decode prog_2_method_6_code 13 = .ok (.getfield 19, 3) := by decide +kernel
theorem d_Co_pairUp_16 : decode prog_2_method_6_code 16 = .ok (.iload_n 2, 1) := by decide +kernel
theorem d_Co_pairUp_17 : decode prog_2_method_6_code 17 = .ok (.iconst (-1), 1) := by decide +kernel
theorem d_Co_pairUp_18 : decode prog_2_method_6_code 18 = .ok (.iastore, 1) := by decide +kernel
theorem d_Co_pairUp_19 : decode prog_2_method_6_code 19 = .ok (.aload_n 0, 1) := by decide +kernel
theorem d_Co_pairUp_20 : decode prog_2_method_6_code 20 = .ok (.getfield 9, 3) := by decide +kernel
theorem d_Co_pairUp_23 : decode prog_2_method_6_code 23 = .ok (.iload_n 2, 1) := by decide +kernel
theorem d_Co_pairUp_24 : decode prog_2_method_6_code 24 = .ok (.caload, 1) := by decide +kernel
theorem d_Co_pairUp_25 : decode prog_2_method_6_code 25 = .ok (.bipush (40), 2) := by decide +kernel
theorem d_Co_pairUp_27 : decode prog_2_method_6_code 27 = .ok (.if_icmp .ne (16), 3) := by decide +kernel
theorem d_Co_pairUp_30 : decode prog_2_method_6_code 30 = .ok (.aload_n 0, 1) := by decide +kernel
theorem d_Co_pairUp_31 : decode prog_2_method_6_code 31 = .ok (.getfield 22, 3) := by decide +kernel
theorem d_Co_pairUp_34 : decode prog_2_method_6_code 34 = .ok (.iload_n 1, 1) := by decide +kernel
theorem d_Co_pairUp_35 : decode prog_2_method_6_code 35 = .ok (.iload_n 2, 1) := by decide +kernel
theorem d_Co_pairUp_36 : decode prog_2_method_6_code 36 = .ok (.iastore, 1) := by decide +kernel
theorem d_Co_pairUp_37 : decode prog_2_method_6_code 37 = .ok (.iinc 1 (1), 3) := by decide +kernel
theorem d_Co_pairUp_40 : decode prog_2_method_6_code 40 = .ok (.goto (47), 3) := by decide +kernel
theorem d_Co_pairUp_43 : decode prog_2_method_6_code 43 = .ok (.aload_n 0, 1) := by decide +kernel
theorem d_Co_pairUp_44 : decode prog_2_method_6_code 44 = .ok (.getfield 9, 3) := by decide +kernel
theorem d_Co_pairUp_47 : decode prog_2_method_6_code 47 = .ok (.iload_n 2, 1) := by decide +kernel
theorem d_Co_pairUp_48 : decode prog_2_method_6_code 48 = .ok (.caload, 1) := by decide +kernel
theorem d_Co_pairUp_49 : decode prog_2_method_6_code 49 = .ok (.bipush (41), 2) := by decide +kernel
theorem d_Co_pairUp_51 : decode prog_2_method_6_code 51 = .ok (.if_icmp .ne (36), 3) := by decide +kernel
theorem d_Co_pairUp_54 : decode prog_2_method_6_code 54 = .ok (.iload_n 1, 1) := by decide +kernel
theorem d_Co_pairUp_55 : decode prog_2_method_6_code 55 = .ok (.ifCond .ne (5), 3) := by decide +kernel
theorem d_Co_pairUp_58 : decode prog_2_method_6_code 58 = .ok (.iconst 0, 1) := by decide +kernel
theorem d_Co_pairUp_59 : decode prog_2_method_6_code 59 = .ok (.ireturn, 1) := by decide +kernel
theorem d_Co_pairUp_60 : decode prog_2_method_6_code 60 = .ok (.iinc 1 (-1), 3) := by decide +kernel
theorem d_Co_pairUp_63 : decode prog_2_method_6_code 63 = .ok (.aload_n 0, 1) := by decide +kernel
theorem d_Co_pairUp_64 : decode prog_2_method_6_code 64 = .ok (.getfield 19, 3) := by decide +kernel
theorem d_Co_pairUp_67 : decode prog_2_method_6_code 67 = .ok (.iload_n 2, 1) := by decide +kernel
theorem d_Co_pairUp_68 : decode prog_2_method_6_code 68 = .ok (.aload_n 0, 1) := by decide +kernel
theorem d_Co_pairUp_69 : decode prog_2_method_6_code 69 = .ok (.getfield 22, 3) := by decide +kernel
theorem d_Co_pairUp_72 : decode prog_2_method_6_code 72 = .ok (.iload_n 1, 1) := by decide +kernel
theorem d_Co_pairUp_73 : decode prog_2_method_6_code 73 = .ok (.iaload, 1) := by decide +kernel
theorem d_Co_pairUp_74 : decode prog_2_method_6_code 74 = .ok (.iastore, 1) := by decide +kernel
theorem d_Co_pairUp_75 : decode prog_2_method_6_code 75 = .ok (.aload_n 0, 1) := by decide +kernel
theorem d_Co_pairUp_76 : decode prog_2_method_6_code 76 = .ok (.getfield 19, 3) := by decide +kernel
theorem d_Co_pairUp_79 : decode prog_2_method_6_code 79 = .ok (.aload_n 0, 1) := by decide +kernel
theorem d_Co_pairUp_80 : decode prog_2_method_6_code 80 = .ok (.getfield 22, 3) := by decide +kernel
theorem d_Co_pairUp_83 : decode prog_2_method_6_code 83 = .ok (.iload_n 1, 1) := by decide +kernel
theorem d_Co_pairUp_84 : decode prog_2_method_6_code 84 = .ok (.iaload, 1) := by decide +kernel
theorem d_Co_pairUp_85 : decode prog_2_method_6_code 85 = .ok (.iload_n 2, 1) := by decide +kernel
theorem d_Co_pairUp_86 : decode prog_2_method_6_code 86 = .ok (.iastore, 1) := by decide +kernel
theorem d_Co_pairUp_87 : decode prog_2_method_6_code 87 = .ok (.iinc 2 (1), 3) := by decide +kernel
theorem d_Co_pairUp_90 : decode prog_2_method_6_code 90 = .ok (.goto (-86), 3) := by decide +kernel
theorem d_Co_pairUp_93 : decode prog_2_method_6_code 93 = .ok (.iload_n 1, 1) := by decide +kernel
theorem d_Co_pairUp_94 : decode prog_2_method_6_code 94 = .ok (.ifCond .ne (7), 3) := by decide +kernel
theorem d_Co_pairUp_97 : decode prog_2_method_6_code 97 = .ok (.iconst 1, 1) := by decide +kernel
theorem d_Co_pairUp_98 : decode prog_2_method_6_code 98 = .ok (.goto (4), 3) := by decide +kernel
theorem d_Co_pairUp_101 : decode prog_2_method_6_code 101 = .ok (.iconst 0, 1) := by decide +kernel
theorem d_Co_pairUp_102 : decode prog_2_method_6_code 102 = .ok (.ireturn, 1) := by decide +kernel
