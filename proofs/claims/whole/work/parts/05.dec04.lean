/-! decode rows (written by wip/gen) -/
theorem d_Fa_hit_45 : decode prog_1_method_14_code 45 = .ok (.getfield 64, 3) := by decide +kernel
theorem d_Fa_hit_48 : decode prog_1_method_14_code 48 = .ok (.iload_n 1, 1) := by decide +kernel
theorem d_Fa_hit_49 : decode prog_1_method_14_code 49 = .ok (.invokevirtual 174, 3) := by decide +kernel
theorem d_Fa_hit_52 : decode prog_1_method_14_code 52 = .ok (.ireturn, 1) := by decide +kernel
theorem d_Fa_hit_53 : decode prog_1_method_14_code 53 = .ok (.aload_n 0, 1) := by decide +kernel
theorem d_Fa_hit_54 : decode prog_1_method_14_code 54 = .ok (.getfield 64, 3) := by decide +kernel
theorem d_Fa_hit_57 : decode prog_1_method_14_code 57 = .ok (.iload_n 1, 1) := by decide +kernel
theorem d_Fa_hit_58 : decode prog_1_method_14_code 58 = .ok (.invokevirtual 177, 3) := by decide +kernel
theorem d_Fa_hit_61 : decode prog_1_method_14_code 61 = .ok (.ireturn, 1) := by decide +kernel
theorem d_Fa_hit_62 : decode prog_1_method_14_code 62 = .ok (.aload_n 0, 1) := by decide +kernel
theorem d_Fa_hit_63 : decode prog_1_method_14_code 63 = .ok (.getfield 64, 3) := by decide +kernel
theorem d_Fa_hit_66 : decode prog_1_method_14_code 66 = .ok (.iload_n 1, 1) := by decide +kernel
theorem d_Fa_hit_67 : decode prog_1_method_14_code 67 = .ok (.invokevirtual 180, 3) := by decide +kernel
theorem d_Fa_hit_70 : decode prog_1_method_14_code 70 = .ok (.ireturn, 1) := by decide +kernel
theorem d_Fa_hit_71 : decode prog_1_method_14_code 71 = .ok (.aload_n 0, 1) := by decide +kernel
theorem d_Fa_hit_72 : decode prog_1_method_14_code 72 = .ok (.getfield 71, 3) := by decide +kernel
theorem d_Fa_hit_75 : decode prog_1_method_14_code 75 = .ok (.aload_n 0, 1) := by decide +kernel
theorem d_Fa_hit_76 : decode prog_1_method_14_code 76 = .ok (.getfield 57, 3) := by decide +kernel
theorem d_Fa_hit_79 : decode prog_1_method_14_code 79 = .ok (.aload_n 0, 1) := by decide +kernel
theorem d_Fa_hit_80 : decode prog_1_method_14_code 80 = .ok (.getfield 64, 3) := by decide +kernel
theorem d_Fa_hit_83 : decode prog_1_method_14_code 83 = .ok (.iload_n 1, 1) := by decide +kernel
theorem d_Fa_hit_84 : decode prog_1_method_14_code 84 = .ok (.invokevirtual 174, 3) := by decide +kernel
theorem d_Fa_hit_87 : decode prog_1_method_14_code 87 = .ok (.aload_n 0, 1) := by decide +kernel
theorem d_Fa_hit_88 : decode prog_1_method_14_code 88 = .ok (.getfield 64, 3) := by decide +kernel
theorem d_Fa_hit_91 : decode prog_1_method_14_code 91 = .ok (.iload_n 1, 1) := by decide +kernel
theorem d_Fa_hit_92 : decode prog_1_method_14_code 92 = .ok (.invokevirtual 177, 3) := by decide +kernel
theorem d_Fa_hit_95 : decode prog_1_method_14_code 95 = .ok (.invokevirtual 183, 3) := by decide +kernel
theorem d_Fa_hit_98 : decode prog_1_method_14_code 98 = .ok (.aload_n 0, 1) := by decide +kernel
theorem d_Fa_hit_99 : decode prog_1_method_14_code 99 = .ok (.getfield 71, 3) := by decide +kernel
theorem d_Fa_hit_102 : decode prog_1_method_14_code 102 = .ok (.invokevirtual 187, 3) := by decide +kernel
theorem d_Fa_hit_105 : decode prog_1_method_14_code 105 = .ok (.ireturn, 1) := by decide +kernel
theorem d_Fa_hit_106 : decode prog_1_method_14_code 106 = .ok (.ldc 96, 2) := by decide +kernel
theorem d_Fa_hit_108 : decode prog_1_method_14_code 108 = .ok (.ireturn, 1) := by decide +kernel
theorem d_De_state_0 : decode prog_3_method_3_code 0 = .ok (.aload_n 0, 1) := by decide +kernel
theorem d_De_state_1 : decode prog_3_method_3_code 1 = .ok (.getfield 9, 3) := by decide +kernel
theorem d_De_state_4 : decode prog_3_method_3_code 4 = .ok (.iload_n 1, 1) := by decide +kernel
theorem d_De_state_5 : decode prog_3_method_3_code 5 = .ok (.iaload, 1) := by decide +kernel
theorem d_De_state_6 : decode prog_3_method_3_code 6 = .ok (.ireturn, 1) := by decide +kernel
theorem d_De_letters_0 : decode prog_3_method_5_code 0 = .ok (.aload_n 0, 1) := by decide +kernel
theorem d_De_letters_1 : decode prog_3_method_5_code 1 = .ok (.getfield 18, 3) := by decide +kernel
theorem d_De_letters_4 : decode prog_3_method_5_code 4 = .ok (.iload_n 1, 1) := by decide +kernel
theorem d_De_letters_5 : decode prog_3_method_5_code 5 = .ok (.iaload, 1) := by decide +kernel
theorem d_De_letters_6 : decode prog_3_method_5_code 6 = .ok (.ireturn, 1) := by decide +kernel
theorem d_De_begin_0 : decode prog_3_method_4_code 0 = .ok (.aload_n 0, 1) := by decide +kernel
theorem d_De_begin_1 : decode prog_3_method_4_code 1 = .ok (.getfield 15, 3) := by decide +kernel
theorem d_De_begin_4 : decode prog_3_method_4_code 4 = .ok (.iload_n 1, 1) := by decide +kernel
theorem d_De_begin_5 : decode prog_3_method_4_code 5 = .ok (.iaload, 1) := by decide +kernel
theorem d_De_begin_6 : decode prog_3_method_4_code 6 = .ok (.ireturn, 1) := by decide +kernel
theorem d_Fa_derived_0 : decode prog_1_method_15_code 0 = .ok (.aload_n 0, 1) := by decide +kernel
theorem d_Fa_derived_1 : decode prog_1_method_15_code 1 = .ok (.getfield 64, 3) := by decide +kernel
theorem d_Fa_derived_4 : decode prog_1_method_15_code 4 = .ok (.iload_n 1, 1) := by decide +kernel
theorem d_Fa_derived_5 : decode prog_1_method_15_code 5 = .ok (.invokevirtual 171, 3) := by decide +kernel
theorem d_Fa_derived_8 : decode prog_1_method_15_code 8 = .ok (.ifCond .ne (6), 3) := by decide +kernel
theorem d_Fa_derived_11 : decode prog_1_method_15_code 11 = .ok (.ldc 96, 2) := by decide +kernel
theorem d_Fa_derived_13 : decode prog_1_method_15_code 13 = .ok (.ireturn, 1) := by decide +kernel
theorem d_Fa_derived_14 : decode prog_1_method_15_code 14 = .ok (.aload_n 0, 1) := by decide +kernel
theorem d_Fa_derived_15 : decode prog_1_method_15_code 15 = .ok (.getfield 71, 3) := by decide +kernel
theorem d_Fa_derived_18 : decode prog_1_method_15_code 18 = .ok (.aload_n 0, 1) := by decide +kernel
theorem d_Fa_derived_19 : decode prog_1_method_15_code 19 = .ok (.getfield 57, 3) := by decide +kernel
theorem d_Fa_derived_22 : decode prog_1_method_15_code 22 = .ok (.aload_n 0, 1) := by decide +kernel
theorem d_Fa_derived_23 : decode prog_1_method_15_code 23 = .ok (.getfield 64, 3) := by decide +kernel
theorem d_Fa_derived_26 : decode prog_1_method_15_code 26 = .ok (.iload_n 1, 1) := by decide +kernel
theorem d_Fa_derived_27 : decode prog_1_method_15_code 27 = .ok (.invokevirtual 174, 3) := by decide +kernel
theorem d_Fa_derived_30 : decode prog_1_method_15_code 30 = .ok (.aload_n 0, 1) := by decide +kernel
theorem d_Fa_derived_31 : decode prog_1_method_15_code 31 = .ok (.getfield 64, 3) := by decide +kernel
theorem d_Fa_derived_34 : decode prog_1_method_15_code 34 = .ok (.iload_n 1, 1) := by decide +kernel
theorem d_Fa_derived_35 : decode prog_1_method_15_code 35 = .ok (.invokevirtual 177, 3) := by decide +kernel
theorem d_Fa_derived_38 : decode prog_1_method_15_code 38 = .ok (.invokevirtual 183, 3) := by decide +kernel
theorem d_Fa_derived_41 : decode prog_1_method_15_code 41 = .ok (.iload_n 2, 1) := by decide +kernel
theorem d_Fa_derived_42 : decode prog_1_method_15_code 42 = .ok (.ifCond .lt (14), 3) := by decide +kernel
theorem d_Fa_derived_45 : decode prog_1_method_15_code 45 = .ok (.iload_n 2, 1) := by decide +kernel
theorem d_Fa_derived_46 : decode prog_1_method_15_code 46 = .ok (.aload_n 0, 1) := by decide +kernel
theorem d_Fa_derived_47 : decode prog_1_method_15_code 47 = .ok (.getfield 71, 3) := by decide +kernel
theorem d_Fa_derived_50 : decode prog_1_method_15_code 50 = .ok (.invokevirtual 187, 3) := by decide +kernel
theorem d_Fa_derived_53 : decode prog_1_method_15_code 53 = .ok (.if_icmp .lt (6), 3) := by decide +kernel
theorem d_Fa_derived_56 : decode prog_1_method_15_code 56 = .ok (.ldc 96, 2) := by decide +kernel
theorem d_Fa_derived_58 : decode prog_1_method_15_code 58 = .ok (.ireturn, 1) := by decide +kernel
theorem d_Fa_derived_59 : decode prog_1_method_15_code 59 = .ok (.iload_n 3, 1) := by decide +kernel
theorem d_Fa_derived_60 : decode prog_1_method_15_code 60 = .ok (.tableswitch (55) (0) (2) #[28, 37, 46], 28) := by decide +kernel
theorem d_Fa_derived_88 : decode prog_1_method_15_code 88 = .ok (.aload_n 0, 1) := by decide +kernel
theorem d_Fa_derived_89 : decode prog_1_method_15_code 89 = .ok (.getfield 71, 3) := by decide +kernel
theorem d_Fa_derived_92 : decode prog_1_method_15_code 92 = .ok (.iload_n 2, 1) := by decide +kernel
theorem d_Fa_derived_93 : decode prog_1_method_15_code 93 = .ok (.invokevirtual 188, 3) := by decide +kernel
theorem d_Fa_derived_96 : decode prog_1_method_15_code 96 = .ok (.ireturn, 1) := by decide +kernel
theorem d_Fa_derived_97 : decode prog_1_method_15_code 97 = .ok (.aload_n 0, 1) := by decide +kernel
theorem d_Fa_derived_98 : decode prog_1_method_15_code 98 = .ok (.getfield 71, 3) := by decide +kernel
theorem d_Fa_derived_101 : decode prog_1_method_15_code 101 = .ok (.iload_n 2, 1) := by decide +kernel
theorem d_Fa_derived_102 : decode prog_1_method_15_code 102 = .ok (.invokevirtual 191, 3) := by decide +kernel
theorem d_Fa_derived_105 : decode prog_1_method_15_code 105 = .ok (.ireturn, 1) := by decide +kernel
theorem d_Fa_derived_106 : decode prog_1_method_15_code 106 = .ok (.aload_n 0, 1) := by decide +kernel
theorem d_Fa_derived_107 : decode prog_1_method_15_code 107 = .ok (.getfield 71, 3) := by decide +kernel
theorem d_Fa_derived_110 : decode prog_1_method_15_code 110 = .ok (.iload_n 2, 1) := by decide +kernel
theorem d_Fa_derived_111 : decode prog_1_method_15_code 111 = .ok (.invokevirtual 192, 3) := by decide +kernel
theorem d_Fa_derived_114 : decode prog_1_method_15_code 114 = .ok (.ireturn, 1) := by decide +kernel
theorem d_Fa_derived_115 : decode prog_1_method_15_code 115 = .ok (.ldc 96, 2) := by decide +kernel
theorem d_Fa_derived_117 : decode prog_1_method_15_code 117 = .ok (.ireturn, 1) := by decide +kernel
theorem d_Mo_changed_0 : decode prog_10_method_2_code 0 = .ok (.aload_n 0, 1) := by decide +kernel
theorem d_Mo_changed_1 : decode prog_10_method_2_code 1 = .ok (.iconst 0, 1) := by decide +kernel
theorem d_Mo_changed_2 : decode prog_10_method_2_code 2 = .ok (.putfield 74, 3) := by decide +kernel
theorem d_Mo_changed_5 : decode prog_10_method_2_code 5 = .ok (.aload_n 0, 1) := by decide +kernel
theorem d_Mo_changed_6 : decode prog_10_method_2_code 6 = .ok (.iconst 0, 1) := by decide +kernel
theorem d_Mo_changed_7 : decode prog_10_method_2_code 7 = .ok (.putfield 78, 3) := by decide +kernel
theorem d_Mo_changed_10 : decode prog_10_method_2_code 10 = .ok (.return_, 1) := by decide +kernel
theorem d_Mo_column_0 : decode prog_10_method_3_code 0 = .ok (.iload_n 1, 1) := by decide +kernel
theorem d_Mo_column_1 : decode prog_10_method_3_code 1 = .ok (.bipush (40), 2) := by decide +kernel
theorem d_Mo_column_3 : decode prog_10_method_3_code 3 = .ok (.if_icmp .eq (15), 3) := by decide +kernel
theorem d_Mo_column_6 : decode prog_10_method_3_code 6 = .ok (.iload_n 1, 1) := by decide +kernel
theorem d_Mo_column_7 : decode prog_10_method_3_code 7 = .ok (.bipush (41), 2) := by decide +kernel
theorem d_Mo_column_9 : decode prog_10_method_3_code 9 = .ok (.if_icmp .eq (9), 3) := by decide +kernel
theorem d_Mo_column_12 : decode prog_10_method_3_code 12 = .ok (.iload_n 1, 1) := by decide +kernel
theorem d_Mo_column_13 : decode prog_10_method_3_code 13 = .ok (.bipush (46), 2) := by decide +kernel
theorem d_Mo_column_15 : decode prog_10_method_3_code 15 = .ok (.if_icmp .ne (12), 3) := by decide +kernel
theorem d_Mo_column_18 : decode prog_10_method_3_code 18 = .ok (.aload_n 0, 1) := by decide +kernel
theorem d_Mo_column_19 : decode prog_10_method_3_code 19 = .ok (.getfield 81, 3) := by decide +kernel
theorem d_Mo_column_22 : decode prog_10_method_3_code 22 = .ok (.bipush (8), 2) := by decide +kernel
theorem d_Mo_column_24 : decode prog_10_method_3_code 24 = .ok (.if_icmp .lt (5), 3) := by decide +kernel
theorem d_Mo_column_27 : decode prog_10_method_3_code 27 = .ok (.iconst 0, 1) := by decide +kernel
theorem d_Mo_column_28 : decode prog_10_method_3_code 28 = .ok (.ireturn, 1) := by decide +kernel
theorem d_Mo_column_29 : decode prog_10_method_3_code 29 = .ok (.aload_n 0, 1) := by decide +kernel
theorem d_Mo_column_30 : decode prog_10_method_3_code 30 = .ok (.getfield 7, 3) := by decide +kernel
theorem d_Mo_column_33 : decode prog_10_method_3_code 33 = .ok (.aload_n 0, 1) := by decide +kernel
theorem d_Mo_column_34 : decode prog_10_method_3_code 34 = .ok (.getfield 81, 3) := by decide +kernel
theorem d_Mo_column_37 : decode prog_10_method_3_code 37 = .ok (.iload_n 1, 1) := by decide +kernel
theorem d_Mo_column_38 : decode prog_10_method_3_code 38 = .ok (.iastore, 1) := by decide +kernel
theorem d_Mo_column_39 : decode prog_10_method_3_code 39 = .ok (.iconst 0, 1) := by decide +kernel
theorem d_Mo_column_40 : decode prog_10_method_3_code 40 = .ok (.istore_n 3, 1) := by decide +kernel
theorem d_Mo_column_41 : decode prog_10_method_3_code 41 = .ok (.iload_n 3, 1) := by decide +kernel
theorem d_Mo_column_42 : decode prog_10_method_3_code 42 = .ok (.iconst 4, 1) := by decide +kernel
theorem d_Mo_column_43 : decode prog_10_method_3_code 43 = .ok (.if_icmp .ge (45), 3) := by decide +kernel
theorem d_Mo_column_46 : decode prog_10_method_3_code 46 = .ok (.iload_n 2, 1) := by decide +kernel
theorem d_Mo_column_47 : decode prog_10_method_3_code 47 = .ok (.iconst 3, 1) := by decide +kernel
theorem d_Mo_column_48 : decode prog_10_method_3_code 48 = .ok (.iload_n 3, 1) := by decide +kernel
theorem d_Mo_column_49 : decode prog_10_method_3_code 49 = .ok (.imul, 1) := by decide +kernel
theorem d_Mo_column_50 : decode prog_10_method_3_code 50 = .ok (.ishr, 1) := by decide +kernel
theorem d_Mo_column_51 : decode prog_10_method_3_code 51 = .ok (.bipush (7), 2) := by decide +kernel
theorem d_Mo_column_53 : decode prog_10_method_3_code 53 = .ok (.iand, 1) := by decide +kernel
theorem d_Mo_column_54 : decode prog_10_method_3_code 54 = .ok (.istore 4, 2) := by decide +kernel
theorem d_Mo_column_56 : decode prog_10_method_3_code 56 = .ok (.aload_n 0, 1) := by decide +kernel
theorem d_Mo_column_57 : decode prog_10_method_3_code 57 = .ok (.getfield 13, 3) := by decide +kernel
theorem d_Mo_column_60 : decode prog_10_method_3_code 60 = .ok (.bipush (8), 2) := by decide +kernel
theorem d_Mo_column_62 : decode prog_10_method_3_code 62 = .ok (.iload_n 3, 1) := by decide +kernel
theorem d_Mo_column_63 : decode prog_10_method_3_code 63 = .ok (.imul, 1) := by decide +kernel
theorem d_Mo_column_64 : decode prog_10_method_3_code 64 = .ok (.aload_n 0, 1) := by decide +kernel
theorem d_Mo_column_65 : decode prog_10_method_3_code 65 = .ok (.getfield 81, 3) := by decide +kernel
theorem d_Mo_column_68 : decode prog_10_method_3_code 68 = .ok (.iadd, 1) := by decide +kernel
theorem d_Mo_column_69 : decode prog_10_method_3_code 69 = .ok (.iload 4, 2) := by decide +kernel
theorem d_Mo_column_71 : decode prog_10_method_3_code 71 = .ok (.iconst 3, 1) := by decide +kernel
theorem d_Mo_column_72 : decode prog_10_method_3_code 72 = .ok (.if_icmp .le (7), 3) := by decide +kernel
theorem d_Mo_column_75 : decode prog_10_method_3_code 75 = .ok (.iconst 4, 1) := by decide +kernel
theorem d_Mo_column_76 : decode prog_10_method_3_code 76 = .ok (.goto (5), 3) := by decide +kernel
theorem d_Mo_column_79 : decode prog_10_method_3_code 79 = .ok (.iload 4, 2) := by decide +kernel
theorem d_Mo_column_81 : decode prog_10_method_3_code 81 = .ok (.iastore, 1) := by decide +kernel
theorem d_Mo_column_82 : decode prog_10_method_3_code 82 = .ok (.iinc 3 (1), 3) := by decide +kernel
theorem d_Mo_column_85 : decode prog_10_method_3_code 85 = .ok (.goto (-44), 3) := by decide +kernel
theorem d_Mo_column_88 : decode prog_10_method_3_code 88 = .ok (.aload_n 0, 1) := by decide +kernel
theorem d_Mo_column_89 : decode prog_10_method_3_code 89 = .ok (.aload_n 0, 1) := by decide +kernel
theorem d_Mo_column_90 : decode prog_10_method_3_code 90 = .ok (.getfield 81, 3) := by decide +kernel
theorem d_Mo_column_93 : decode prog_10_method_3_code 93 = .ok (.iconst 1, 1) := by decide +kernel
theorem d_Mo_column_94 : decode prog_10_method_3_code 94 = .ok (.iadd, 1) := by decide +kernel
theorem d_Mo_column_95 : decode prog_10_method_3_code 95 = .ok (.putfield 81, 3) := by decide +kernel
theorem d_Mo_column_98 : decode prog_10_method_3_code 98 = .ok (.aload_n 0, 1) := by decide +kernel
theorem d_Mo_column_99 : decode prog_10_method_3_code 99 = .ok (.invokevirtual 84, 3) := by decide +kernel
theorem d_Mo_column_102 : decode prog_10_method_3_code 102 = .ok (.iconst 1, 1) := by decide +kernel
theorem d_Mo_column_103 : decode prog_10_method_3_code 103 = .ok (.ireturn, 1) := by decide +kernel
theorem d_Mo_clear_0 : decode prog_10_method_4_code 0 = .ok (.aload_n 0, 1) := by decide +kernel
theorem d_Mo_clear_1 : decode prog_10_method_4_code 1 = .ok (.iconst 0, 1) := by decide +kernel
theorem d_Mo_clear_2 : decode prog_10_method_4_code 2 = .ok (.putfield 81, 3) := by decide +kernel
theorem d_Mo_clear_5 : decode prog_10_method_4_code 5 = .ok (.aload_n 0, 1) := by decide +kernel
theorem d_Mo_clear_6 : decode prog_10_method_4_code 6 = .ok (.invokevirtual 84, 3) := by decide +kernel
theorem d_Mo_clear_9 : decode prog_10_method_4_code 9 = .ok (.return_, 1) := by decide +kernel
theorem d_Mo_pair_0 : decode prog_10_method_5_code 0 = .ok (.iconst 0, 1) := by decide +kernel
theorem d_Mo_pair_1 : decode prog_10_method_5_code 1 = .ok (.istore_n 1, 1) := by decide +kernel
theorem d_Mo_pair_2 : decode prog_10_method_5_code 2 = .ok (.iconst 1, 1) := by decide +kernel
theorem d_Mo_pair_3 : decode prog_10_method_5_code 3 = .ok (.istore_n 2, 1) := by decide +kernel
theorem d_Mo_pair_4 : decode prog_10_method_5_code 4 = .ok (.iconst 0, 1) := by decide +kernel
theorem d_Mo_pair_5 : decode prog_10_method_5_code 5 = .ok (.istore_n 3, 1) := by decide +kernel
theorem d_Mo_pair_6 : decode prog_10_method_5_code 6 = .ok (.iload_n 3, 1) := by decide +kernel
theorem d_Mo_pair_7 : decode prog_10_method_5_code 7 = .ok (.aload_n 0, 1) := by decide +kernel
theorem d_Mo_pair_8 : decode prog_10_method_5_code 8 = .ok (.getfield 81, 3) := by decide +kernel
theorem d_Mo_pair_11 : decode prog_10_method_5_code 11 = .ok (.if_icmp .ge (63), 3) := by decide +kernel
theorem d_Mo_pair_14 : decode prog_10_method_5_code 14 = .ok (.aload_n 0, 1) := by decide +kernel
theorem d_Mo_pair_15 : decode prog_10_method_5_code 15 = .ok (.getfield 16, 3) := by decide +kernel
theorem d_Mo_pair_18 : decode prog_10_method_5_code 18 = .ok (.iload_n 3, 1) := by decide +kernel
theorem d_Mo_pair_19 : decode prog_10_method_5_code 19 = .ok (.iconst (-1), 1) := by decide +kernel
theorem d_Mo_pair_20 : decode prog_10_method_5_code 20 = .ok (.iastore, 1) := by decide +kernel
theorem d_Mo_pair_21 : decode prog_10_method_5_code 21 = .ok (.aload_n 0, 1) := by decide +kernel
theorem d_Mo_pair_22 : decode prog_10_method_5_code 22 = .ok (.getfield 7, 3) := by decide +kernel
theorem d_Mo_pair_25 : decode prog_10_method_5_code 25 = .ok (.iload_n 3, 1) := by decide +kernel
theorem d_Mo_pair_26 : decode prog_10_method_5_code 26 = .ok (.iaload, 1) := by decide +kernel
theorem d_Mo_pair_27 : decode prog_10_method_5_code 27 = .ok (.bipush (40), 2) := by decide +kernel
theorem d_Mo_pair_29 : decode prog_10_method_5_code 29 = .ok (.if_icmp .ne (10), 3) := by decide +kernel
theorem d_Mo_pair_32 : decode prog_10_method_5_code 32 = .ok (.iload_n 1, 1) := by decide +kernel
theorem d_Mo_pair_33 : decode prog_10_method_5_code 33 = .ok (.iconst 1, 1) := by decide +kernel
theorem d_Mo_pair_34 : decode prog_10_method_5_code 34 = .ok (.iadd, 1) := by decide +kernel
theorem d_Mo_pair_35 : decode prog_10_method_5_code 35 = .ok (.istore_n 1, 1) := by decide +kernel
theorem d_Mo_pair_36 : decode prog_10_method_5_code 36 = .ok (.goto (32), 3) := by decide +kernel
theorem d_Mo_pair_39 : decode prog_10_method_5_code 39 = .ok (.aload_n 0, 1) := by decide +kernel
theorem d_Mo_pair_40 : decode prog_10_method_5_code 40 = .ok (.getfield 7, 3) := by decide +kernel
theorem d_Mo_pair_43 : decode prog_10_method_5_code 43 = .ok (.iload_n 3, 1) := by decide +kernel
theorem d_Mo_pair_44 : decode prog_10_method_5_code 44 = .ok (.iaload, 1) := by decide +kernel
theorem d_Mo_pair_45 : decode prog_10_method_5_code 45 = .ok (.bipush (41), 2) := by decide +kernel
theorem d_Mo_pair_47 : decode prog_10_method_5_code 47 = .ok (.if_icmp .ne (21), 3) := by decide +kernel
theorem d_Mo_pair_50 : decode prog_10_method_5_code 50 = .ok (.iload_n 1, 1) := by decide +kernel
theorem d_Mo_pair_51 : decode prog_10_method_5_code 51 = .ok (.iconst 1, 1) := by decide +kernel
theorem d_Mo_pair_52 : decode prog_10_method_5_code 52 = .ok (.isub, 1) := by decide +kernel
theorem d_Mo_pair_53 : decode prog_10_method_5_code 53 = .ok (.istore_n 1, 1) := by decide +kernel
theorem d_Mo_pair_54 : decode prog_10_method_5_code 54 = .ok (.iload_n 2, 1) := by decide +kernel
theorem d_Mo_pair_55 : decode prog_10_method_5_code 55 = .ok (.ifCond .eq (11), 3) := by decide +kernel
theorem d_Mo_pair_58 : decode prog_10_method_5_code 58 = .ok (.iload_n 1, 1) := by decide +kernel
theorem d_Mo_pair_59 : decode prog_10_method_5_code 59 = .ok (.ifCond .lt (7), 3) := by decide +kernel
theorem d_Mo_pair_62 : decode prog_10_method_5_code 62 = .ok (.iconst 1, 1) := by decide +kernel
theorem d_Mo_pair_63 : decode prog_10_method_5_code 63 = .ok (.goto (4), 3) := by decide +kernel
theorem d_Mo_pair_66 : decode prog_10_method_5_code 66 = .ok (.iconst 0, 1) := by decide +kernel
theorem d_Mo_pair_67 : decode prog_10_method_5_code 67 = .ok (.istore_n 2, 1) := by decide +kernel
theorem d_Mo_pair_68 : decode prog_10_method_5_code 68 = .ok (.iinc 3 (1), 3) := by decide +kernel
theorem d_Mo_pair_71 : decode prog_10_method_5_code 71 = .ok (.goto (-65), 3) := by decide +kernel
theorem d_Mo_pair_74 : decode prog_10_method_5_code 74 = .ok (.iconst 0, 1) := by decide +kernel
theorem d_Mo_pair_75 : decode prog_10_method_5_code 75 = .ok (.istore_n 3, 1) := by decide +kernel
theorem d_Mo_pair_76 : decode prog_10_method_5_code 76 = .ok (.iload_n 3, 1) := by decide +kernel
theorem d_Mo_pair_77 : decode prog_10_method_5_code 77 = .ok (.aload_n 0, 1) := by decide +kernel
theorem d_Mo_pair_78 : decode prog_10_method_5_code 78 = .ok (.getfield 81, 3) := by decide +kernel
theorem d_Mo_pair_81 : decode prog_10_method_5_code 81 = .ok (.if_icmp .ge (106), 3) := by decide +kernel
theorem d_Mo_pair_84 : decode prog_10_method_5_code 84 = .ok (.iload_n 2, 1) := by decide +kernel
theorem d_Mo_pair_85 : decode prog_10_method_5_code 85 = .ok (.ifCond .eq (102), 3) := by decide +kernel
theorem d_Mo_pair_88 : decode prog_10_method_5_code 88 = .ok (.iload_n 1, 1) := by decide +kernel
theorem d_Mo_pair_89 : decode prog_10_method_5_code 89 = .ok (.ifCond .ne (98), 3) := by decide +kernel
theorem d_Mo_pair_92 : decode prog_10_method_5_code 92 = .ok (.aload_n 0, 1) := by decide +kernel
theorem d_Mo_pair_93 : decode prog_10_method_5_code 93 = .ok (.getfield 7, 3) := by decide +kernel
theorem d_Mo_pair_96 : decode prog_10_method_5_code 96 = .ok (.iload_n 3, 1) := by decide +kernel
theorem d_Mo_pair_97 : decode prog_10_method_5_code 97 = .ok (.iaload, 1) := by decide +kernel
theorem d_Mo_pair_98 : decode prog_10_method_5_code 98 = .ok (.bipush (40), 2) := by decide +kernel
theorem d_Mo_pair_100 : decode prog_10_method_5_code 100 = .ok (.if_icmp .ne (81), 3) := by decide +kernel
theorem d_Mo_pair_103 : decode prog_10_method_5_code 103 = .ok (.iconst 1, 1) := by decide +kernel
theorem d_Mo_pair_104 : decode prog_10_method_5_code 104 = .ok (.istore 4, 2) := by decide +kernel
theorem d_Mo_pair_106 : decode prog_10_method_5_code 106 = .ok (.iload_n 3, 1) := by decide +kernel
theorem d_Mo_pair_107 : decode prog_10_method_5_code 107 = .ok (.istore 5, 2) := by decide +kernel
theorem d_Mo_pair_109 : decode prog_10_method_5_code 109 = .ok (.iload 4, 2) := by decide +kernel
theorem d_Mo_pair_111 : decode prog_10_method_5_code 111 = .ok (.ifCond .le (54), 3) := by decide +kernel
theorem d_Mo_pair_114 : decode prog_10_method_5_code 114 = .ok (.iload 5, 2) := by decide +kernel
theorem d_Mo_pair_116 : decode prog_10_method_5_code 116 = .ok (.iconst 1, 1) := by decide +kernel
theorem d_Mo_pair_117 : decode prog_10_method_5_code 117 = .ok (.iadd, 1) := by decide +kernel
theorem d_Mo_pair_118 : decode prog_10_method_5_code 118 = .ok (.istore 5, 2) := by decide +kernel
theorem d_Mo_pair_120 : decode prog_10_method_5_code 120 = .ok (.aload_n 0, 1) := by decide +kernel
theorem d_Mo_pair_121 : decode prog_10_method_5_code 121 = .ok (.getfield 7, 3) := by decide +kernel
theorem d_Mo_pair_124 : decode prog_10_method_5_code 124 = .ok (.iload 5, 2) := by decide +kernel
theorem d_Mo_pair_126 : decode prog_10_method_5_code 126 = .ok (.iaload, 1) := by decide +kernel
theorem d_Mo_pair_127 : decode prog_10_method_5_code 127 = .ok (.bipush (40), 2) := by decide +kernel
theorem d_Mo_pair_129 : decode prog_10_method_5_code 129 = .ok (.if_icmp .ne (10), 3) := by decide +kernel
theorem d_Mo_pair_132 : decode prog_10_method_5_code 132 = .ok (.iload 4, 2) := by decide +kernel
theorem d_Mo_pair_134 : decode prog_10_method_5_code 134 = .ok (.iconst 1, 1) := by decide +kernel
theorem d_Mo_pair_135 : decode prog_10_method_5_code 135 = .ok (.iadd, 1) := by decide +kernel
theorem d_Mo_pair_136 : decode prog_10_method_5_code 136 = .ok (.goto (24), 3) := by decide +kernel
theorem d_Mo_pair_139 : decode prog_10_method_5_code 139 = .ok (.aload_n 0, 1) := by decide +kernel
theorem d_Mo_pair_140 : decode prog_10_method_5_code 140 = .ok (.getfield 7, 3) := by decide +kernel
theorem d_Mo_pair_143 : decode prog_10_method_5_code 143 = .ok (.iload 5, 2) := by decide +kernel
theorem d_Mo_pair_145 : decode prog_10_method_5_code 145 = .ok (.iaload, 1) := by decide +kernel
theorem d_Mo_pair_146 : decode prog_10_method_5_code 146 = .ok (.bipush (41), 2) := by decide +kernel
theorem d_Mo_pair_148 : decode prog_10_method_5_code 148 = .ok (.if_icmp .ne (10), 3) := by decide +kernel
theorem d_Mo_pair_151 : decode prog_10_method_5_code 151 = .ok (.iload 4, 2) := by decide +kernel
theorem d_Mo_pair_153 : decode prog_10_method_5_code 153 = .ok (.iconst 1, 1) := by decide +kernel
theorem d_Mo_pair_154 : decode prog_10_method_5_code 154 = .ok (.isub, 1) := by decide +kernel
theorem d_Mo_pair_155 : decode prog_10_method_5_code 155 = .ok (.goto (5), 3) := by decide +kernel
theorem d_Mo_pair_158 : decode prog_10_method_5_code 158 = .ok (.iload 4, 2) := by decide +kernel
theorem d_Mo_pair_160 : decode prog_10_method_5_code 160 = .ok (.istore 4, 2) := by decide +kernel
theorem d_Mo_pair_162 : decode prog_10_method_5_code 162 = .ok (.goto (-53), 3) := by decide +kernel
theorem d_Mo_pair_165 : decode prog_10_method_5_code 165 = .ok (.aload_n 0, 1) := by decide +kernel
theorem d_Mo_pair_166 : decode prog_10_method_5_code 166 = .ok (.getfield 16, 3) := by decide +kernel
theorem d_Mo_pair_169 : decode prog_10_method_5_code 169 = .ok (.iload_n 3, 1) := by decide +kernel
theorem d_Mo_pair_170 : decode prog_10_method_5_code 170 = .ok (.iload 5, 2) := by decide +kernel
theorem d_Mo_pair_172 : decode prog_10_method_5_code 172 = .ok (.iastore, 1) := by decide +kernel
theorem d_Mo_pair_173 : decode prog_10_method_5_code 173 = .ok (.aload_n 0, 1) := by decide +kernel
theorem d_Mo_pair_174 : decode prog_10_method_5_code 174 = .ok (.getfield 16, 3) := by decide +kernel
theorem d_Mo_pair_177 : decode prog_10_method_5_code 177 = .ok (.iload 5, 2) := by decide +kernel
theorem d_Mo_pair_179 : decode prog_10_method_5_code 179 = .ok (.iload_n 3, 1) := by decide +kernel
theorem d_Mo_pair_180 : decode prog_10_method_5_code 180 = .ok (.iastore, 1) := by decide +kernel
theorem d_Mo_pair_181 : decode prog_10_method_5_code 181 = .ok (.iinc 3 (1), 3) := by decide +kernel
theorem d_Mo_pair_184 : decode prog_10_method_5_code 184 = .ok (.goto (-108), 3) := by decide +kernel
theorem d_Mo_pair_187 : decode prog_10_method_5_code 187 = .ok (.iload_n 2, 1) := by decide +kernel
theorem d_Mo_pair_188 : decode prog_10_method_5_code 188 = .ok (.ifCond .eq (11), 3) := by decide +kernel
theorem d_Mo_pair_191 : decode prog_10_method_5_code 191 = .ok (.iload_n 1, 1) := by decide +kernel
theorem d_Mo_pair_192 : decode prog_10_method_5_code 192 = .ok (.ifCond .ne (7), 3) := by decide +kernel
theorem d_Mo_pair_195 : decode prog_10_method_5_code 195 = .ok (.iconst 1, 1) := by decide +kernel
theorem d_Mo_pair_196 : decode prog_10_method_5_code 196 = .ok (.goto (4), 3) := by decide +kernel
theorem d_Mo_pair_199 : decode prog_10_method_5_code 199 = .ok (.iconst 0, 1) := by decide +kernel
theorem d_Mo_pair_200 : decode prog_10_method_5_code 200 = .ok (.ireturn, 1) := by decide +kernel
theorem d_Mo_node3_0 : decode prog_10_method_6_code 0 = .ok (.aload_n 0, 1) := by decide +kernel
theorem d_Mo_node3_1 : decode prog_10_method_6_code 1 = .ok (.getfield 19, 3) := by decide +kernel
theorem d_Mo_node3_4 : decode prog_10_method_6_code 4 = .ok (.aload_n 0, 1) := by decide +kernel
theorem d_Mo_node3_5 : decode prog_10_method_6_code 5 = .ok (.getfield 87, 3) := by decide +kernel
theorem d_Mo_node3_8 : decode prog_10_method_6_code 8 = .ok (.iload_n 1, 1) := by decide +kernel
theorem d_Mo_node3_9 : decode prog_10_method_6_code 9 = .ok (.iastore, 1) := by decide +kernel
theorem d_Mo_node3_10 : decode prog_10_method_6_code 10 = .ok (.aload_n 0, 1) := by decide +kernel
theorem d_Mo_node3_11 : decode prog_10_method_6_code 11 = .ok (.getfield 22, 3) := by decide +kernel
theorem d_Mo_node3_14 : decode prog_10_method_6_code 14 = .ok (.aload_n 0, 1) := by decide +kernel
theorem d_Mo_node3_15 : decode prog_10_method_6_code 15 = .ok (.getfield 87, 3) := by decide +kernel
theorem d_Mo_node3_18 : decode prog_10_method_6_code 18 = .ok (.iload_n 2, 1) := by decide +kernel
theorem d_Mo_node3_19 : decode prog_10_method_6_code 19 = .ok (.iastore, 1) := by decide +kernel
theorem d_Mo_node3_20 : decode prog_10_method_6_code 20 = .ok (.aload_n 0, 1) := by decide +kernel
theorem d_Mo_node3_21 : decode prog_10_method_6_code 21 = .ok (.getfield 25, 3) := by decide +kernel
theorem d_Mo_node3_24 : decode prog_10_method_6_code 24 = .ok (.aload_n 0, 1) := by decide +kernel
theorem d_Mo_node3_25 : decode prog_10_method_6_code 25 = .ok (.getfield 87, 3) := by decide +kernel
theorem d_Mo_node3_28 : decode prog_10_method_6_code 28 = .ok (.iload_n 3, 1) := by decide +kernel
theorem d_Mo_node3_29 : decode prog_10_method_6_code 29 = .ok (.iastore, 1) := by decide +kernel
theorem d_Mo_node3_30 : decode prog_10_method_6_code 30 = .ok (.aload_n 0, 1) := by decide +kernel
theorem d_Mo_node3_31 : decode prog_10_method_6_code 31 = .ok (.aload_n 0, 1) := by decide +kernel
theorem d_Mo_node3_32 : decode prog_10_method_6_code 32 = .ok (.getfield 87, 3) := by decide +kernel
theorem d_Mo_node3_35 : decode prog_10_method_6_code 35 = .ok (.iconst 1, 1) := by decide +kernel
theorem d_Mo_node3_36 : decode prog_10_method_6_code 36 = .ok (.iadd, 1) := by decide +kernel
theorem d_Mo_node3_37 : decode prog_10_method_6_code 37 = .ok (.putfield 87, 3) := by decide +kernel
theorem d_Mo_node3_40 : decode prog_10_method_6_code 40 = .ok (.aload_n 0, 1) := by decide +kernel
theorem d_Mo_node3_41 : decode prog_10_method_6_code 41 = .ok (.getfield 87, 3) := by decide +kernel
theorem d_Mo_node3_44 : decode prog_10_method_6_code 44 = .ok (.iconst 1, 1) := by decide +kernel
theorem d_Mo_node3_45 : decode prog_10_method_6_code 45 = .ok (.isub, 1) := by decide +kernel
theorem d_Mo_node3_46 : decode prog_10_method_6_code 46 = .ok (.ireturn, 1) := by decide +kernel
theorem d_Mo_push_0 : decode prog_10_method_7_code 0 = .ok (.aload_n 0, 1) := by decide +kernel
theorem d_Mo_push_1 : decode prog_10_method_7_code 1 = .ok (.getfield 67, 3) := by decide +kernel
theorem d_Mo_push_4 : decode prog_10_method_7_code 4 = .ok (.iload_n 1, 1) := by decide +kernel
theorem d_Mo_push_5 : decode prog_10_method_7_code 5 = .ok (.iload_n 2, 1) := by decide +kernel
theorem d_Mo_push_6 : decode prog_10_method_7_code 6 = .ok (.iastore, 1) := by decide +kernel
theorem d_Mo_push_7 : decode prog_10_method_7_code 7 = .ok (.aload_n 0, 1) := by decide +kernel
theorem d_Mo_push_8 : decode prog_10_method_7_code 8 = .ok (.getfield 67, 3) := by decide +kernel
theorem d_Mo_push_11 : decode prog_10_method_7_code 11 = .ok (.iload_n 1, 1) := by decide +kernel
theorem d_Mo_push_12 : decode prog_10_method_7_code 12 = .ok (.iconst 1, 1) := by decide +kernel
theorem d_Mo_push_13 : decode prog_10_method_7_code 13 = .ok (.iadd, 1) := by decide +kernel
theorem d_Mo_push_14 : decode prog_10_method_7_code 14 = .ok (.iload_n 3, 1) := by decide +kernel
theorem d_Mo_push_15 : decode prog_10_method_7_code 15 = .ok (.iastore, 1) := by decide +kernel
theorem d_Mo_push_16 : decode prog_10_method_7_code 16 = .ok (.aload_n 0, 1) := by decide +kernel
theorem d_Mo_push_17 : decode prog_10_method_7_code 17 = .ok (.getfield 67, 3) := by decide +kernel
theorem d_Mo_push_20 : decode prog_10_method_7_code 20 = .ok (.iload_n 1, 1) := by decide +kernel
theorem d_Mo_push_21 : decode prog_10_method_7_code 21 = .ok (.iconst 2, 1) := by decide +kernel
theorem d_Mo_push_22 : decode prog_10_method_7_code 22 = .ok (.iadd, 1) := by decide +kernel
theorem d_Mo_push_23 : decode prog_10_method_7_code 23 = .ok (.iload 4, 2) := by decide +kernel
theorem d_Mo_push_25 : decode prog_10_method_7_code 25 = .ok (.iastore, 1) := by decide +kernel
theorem d_Mo_push_26 : decode prog_10_method_7_code 26 = .ok (.iload_n 1, 1) := by decide +kernel
theorem d_Mo_push_27 : decode prog_10_method_7_code 27 = .ok (.iconst 3, 1) := by decide +kernel
theorem d_Mo_push_28 : decode prog_10_method_7_code 28 = .ok (.iadd, 1) := by decide +kernel
theorem d_Mo_push_29 : decode prog_10_method_7_code 29 = .ok (.ireturn, 1) := by decide +kernel
theorem d_Mo_plant_0 : decode prog_10_method_8_code 0 = .ok (.aload_n 0, 1) := by decide +kernel
theorem d_Mo_plant_1 : decode prog_10_method_8_code 1 = .ok (.iconst 0, 1) := by decide +kernel
theorem d_Mo_plant_2 : decode prog_10_method_8_code 2 = .ok (.putfield 87, 3) := by decide +kernel
theorem d_Mo_plant_5 : decode prog_10_method_8_code 5 = .ok (.aload_n 0, 1) := by decide +kernel
theorem d_Mo_plant_6 : decode prog_10_method_8_code 6 = .ok (.iconst 0, 1) := by decide +kernel
theorem d_Mo_plant_7 : decode prog_10_method_8_code 7 = .ok (.iconst 0, 1) := by decide +kernel
theorem d_Mo_plant_8 : decode prog_10_method_8_code 8 = .ok (.iconst 0, 1) := by decide +kernel
theorem d_Mo_plant_9 : decode prog_10_method_8_code 9 = .ok (.invokevirtual 90, 3) := by decide +kernel
theorem d_Mo_plant_12 : decode prog_10_method_8_code 12 = .ok (.pop, 1) := by decide +kernel
theorem d_Mo_plant_13 : decode prog_10_method_8_code 13 = .ok (.aload_n 0, 1) := by decide +kernel
theorem d_Mo_plant_14 : decode prog_10_method_8_code 14 = .ok (.iconst 0, 1) := by decide +kernel
theorem d_Mo_plant_15 : decode prog_10_method_8_code 15 = .ok (.iconst (-1), 1) := by decide +kernel
theorem d_Mo_plant_16 : decode prog_10_method_8_code 16 = .ok (.iconst 0, 1) := by decide +kernel
theorem d_Mo_plant_17 : decode prog_10_method_8_code 17 = .ok (.aload_n 0, 1) := by decide +kernel
theorem d_Mo_plant_18 : decode prog_10_method_8_code 18 = .ok (.getfield 81, 3) := by decide +kernel
theorem d_Mo_plant_21 : decode prog_10_method_8_code 21 = .ok (.iconst 1, 1) := by decide +kernel
theorem d_Mo_plant_22 : decode prog_10_method_8_code 22 = .ok (.isub, 1) := by decide +kernel
theorem d_Mo_plant_23 : decode prog_10_method_8_code 23 = .ok (.invokevirtual 94, 3) := by decide +kernel
theorem d_Mo_plant_26 : decode prog_10_method_8_code 26 = .ok (.istore_n 1, 1) := by decide +kernel
theorem d_Mo_plant_27 : decode prog_10_method_8_code 27 = .ok (.iload_n 1, 1) := by decide +kernel
theorem d_Mo_plant_28 : decode prog_10_method_8_code 28 = .ok (.ifCond .le (264), 3) := by decide +kernel
theorem d_Mo_plant_31 : decode prog_10_method_8_code 31 = .ok (.iload_n 1, 1) := by decide +kernel
theorem d_Mo_plant_32 : decode prog_10_method_8_code 32 = .ok (.iconst 3, 1) := by decide +kernel
theorem d_Mo_plant_33 : decode prog_10_method_8_code 33 = .ok (.isub, 1) := by decide +kernel
theorem d_Mo_plant_34 : decode prog_10_method_8_code 34 = .ok (.istore_n 1, 1) := by decide +kernel
theorem d_Mo_plant_35 : decode prog_10_method_8_code 35 = .ok (.aload_n 0, 1) := by decide +kernel
theorem d_Mo_plant_36 : decode prog_10_method_8_code 36 = .ok (.getfield 67, 3) := by decide +kernel
theorem d_Mo_plant_39 : decode prog_10_method_8_code 39 = .ok (.iload_n 1, 1) := by decide +kernel
theorem d_Mo_plant_40 : decode prog_10_method_8_code 40 = .ok (.iaload, 1) := by decide +kernel
theorem d_Mo_plant_41 : decode prog_10_method_8_code 41 = .ok (.istore_n 2, 1) := by decide +kernel
theorem d_Mo_plant_42 : decode prog_10_method_8_code 42 = .ok (.aload_n 0, 1) := by decide +kernel
theorem d_Mo_plant_43 : decode prog_10_method_8_code 43 = .ok (.getfield 67, 3) := by decide +kernel
theorem d_Mo_plant_46 : decode prog_10_method_8_code 46 = .ok (.iload_n 1, 1) := by decide +kernel
theorem d_Mo_plant_47 : decode prog_10_method_8_code 47 = .ok (.iconst 1, 1) := by decide +kernel
theorem d_Mo_plant_48 : decode prog_10_method_8_code 48 = .ok (.iadd, 1) := by decide +kernel
theorem d_Mo_plant_49 : decode prog_10_method_8_code 49 = .ok (.iaload, 1) := by decide +kernel
theorem d_Mo_plant_50 : decode prog_10_method_8_code 50 = .ok (.istore_n 3, 1) := by decide +kernel
theorem d_Mo_plant_51 : decode prog_10_method_8_code 51 = .ok (.aload_n 0, 1) := by decide +kernel
theorem d_Mo_plant_52 : decode prog_10_method_8_code 52 = .ok (.getfield 67, 3) := by decide +kernel
theorem d_Mo_plant_55 : decode prog_10_method_8_code 55 = .ok (.iload_n 1, 1) := by decide +kernel
theorem d_Mo_plant_56 : decode prog_10_method_8_code 56 = .ok (.iconst 2, 1) := by decide +kernel
theorem d_Mo_plant_57 : decode prog_10_method_8_code 57 = .ok (.iadd, 1) := by decide +kernel
theorem d_Mo_plant_58 : decode prog_10_method_8_code 58 = .ok (.iaload, 1) := by decide +kernel
theorem d_Mo_plant_59 : decode prog_10_method_8_code 59 = .ok (.istore 4, 2) := by decide +kernel
theorem d_Mo_plant_61 : decode prog_10_method_8_code 61 = .ok (.iload_n 2, 1) := by decide +kernel
theorem d_Mo_plant_62 : decode prog_10_method_8_code 62 = .ok (.iconst 5, 1) := by decide +kernel
theorem d_Mo_plant_63 : decode prog_10_method_8_code 63 = .ok (.if_icmp .ne (24), 3) := by decide +kernel
theorem d_Mo_plant_66 : decode prog_10_method_8_code 66 = .ok (.aload_n 0, 1) := by decide +kernel
theorem d_Mo_plant_67 : decode prog_10_method_8_code 67 = .ok (.iconst 5, 1) := by decide +kernel
theorem d_Mo_plant_68 : decode prog_10_method_8_code 68 = .ok (.iconst 0, 1) := by decide +kernel
theorem d_Mo_plant_69 : decode prog_10_method_8_code 69 = .ok (.iconst 0, 1) := by decide +kernel
theorem d_Mo_plant_70 : decode prog_10_method_8_code 70 = .ok (.invokevirtual 90, 3) := by decide +kernel
theorem d_Mo_plant_73 : decode prog_10_method_8_code 73 = .ok (.pop, 1) := by decide +kernel
theorem d_Mo_plant_74 : decode prog_10_method_8_code 74 = .ok (.aload_n 0, 1) := by decide +kernel
theorem d_Mo_plant_75 : decode prog_10_method_8_code 75 = .ok (.iload_n 1, 1) := by decide +kernel
theorem d_Mo_plant_76 : decode prog_10_method_8_code 76 = .ok (.iconst (-1), 1) := by decide +kernel
theorem d_Mo_plant_77 : decode prog_10_method_8_code 77 = .ok (.iload_n 3, 1) := by decide +kernel
theorem d_Mo_plant_78 : decode prog_10_method_8_code 78 = .ok (.iload 4, 2) := by decide +kernel
theorem d_Mo_plant_80 : decode prog_10_method_8_code 80 = .ok (.invokevirtual 94, 3) := by decide +kernel
theorem d_Mo_plant_83 : decode prog_10_method_8_code 83 = .ok (.istore_n 1, 1) := by decide +kernel
theorem d_Mo_plant_84 : decode prog_10_method_8_code 84 = .ok (.goto (205), 3) := by decide +kernel
theorem d_Mo_plant_87 : decode prog_10_method_8_code 87 = .ok (.iload_n 2, 1) := by decide +kernel
theorem d_Mo_plant_88 : decode prog_10_method_8_code 88 = .ok (.bipush (100), 2) := by decide +kernel
theorem d_Mo_plant_90 : decode prog_10_method_8_code 90 = .ok (.if_icmp .lt (33), 3) := by decide +kernel
theorem d_Mo_plant_93 : decode prog_10_method_8_code 93 = .ok (.aload_n 0, 1) := by decide +kernel
theorem d_Mo_plant_94 : decode prog_10_method_8_code 94 = .ok (.getfield 31, 3) := by decide +kernel
theorem d_Mo_plant_97 : decode prog_10_method_8_code 97 = .ok (.iload_n 2, 1) := by decide +kernel
theorem d_Mo_plant_98 : decode prog_10_method_8_code 98 = .ok (.bipush (100), 2) := by decide +kernel
theorem d_Mo_plant_100 : decode prog_10_method_8_code 100 = .ok (.isub, 1) := by decide +kernel
theorem d_Mo_plant_101 : decode prog_10_method_8_code 101 = .ok (.aload_n 0, 1) := by decide +kernel
theorem d_Mo_plant_102 : decode prog_10_method_8_code 102 = .ok (.bipush (6), 2) := by decide +kernel
theorem d_Mo_plant_104 : decode prog_10_method_8_code 104 = .ok (.iconst 0, 1) := by decide +kernel
theorem d_Mo_plant_105 : decode prog_10_method_8_code 105 = .ok (.iconst 0, 1) := by decide +kernel
theorem d_Mo_plant_106 : decode prog_10_method_8_code 106 = .ok (.invokevirtual 90, 3) := by decide +kernel
theorem d_Mo_plant_109 : decode prog_10_method_8_code 109 = .ok (.iastore, 1) := by decide +kernel
theorem d_Mo_plant_110 : decode prog_10_method_8_code 110 = .ok (.aload_n 0, 1) := by decide +kernel
theorem d_Mo_plant_111 : decode prog_10_method_8_code 111 = .ok (.iload_n 1, 1) := by decide +kernel
theorem d_Mo_plant_112 : decode prog_10_method_8_code 112 = .ok (.iconst (-1), 1) := by decide +kernel
theorem d_Mo_plant_113 : decode prog_10_method_8_code 113 = .ok (.iload_n 3, 1) := by decide +kernel
theorem d_Mo_plant_114 : decode prog_10_method_8_code 114 = .ok (.iload 4, 2) := by decide +kernel
theorem d_Mo_plant_116 : decode prog_10_method_8_code 116 = .ok (.invokevirtual 94, 3) := by decide +kernel
theorem d_Mo_plant_119 : decode prog_10_method_8_code 119 = .ok (.istore_n 1, 1) := by decide +kernel
theorem d_Mo_plant_120 : decode prog_10_method_8_code 120 = .ok (.goto (169), 3) := by decide +kernel
theorem d_Mo_plant_123 : decode prog_10_method_8_code 123 = .ok (.iload_n 3, 1) := by decide +kernel
theorem d_Mo_plant_124 : decode prog_10_method_8_code 124 = .ok (.iload 4, 2) := by decide +kernel
theorem d_Mo_plant_126 : decode prog_10_method_8_code 126 = .ok (.if_icmp .le (15), 3) := by decide +kernel
theorem d_Mo_plant_129 : decode prog_10_method_8_code 129 = .ok (.aload_n 0, 1) := by decide +kernel
theorem d_Mo_plant_130 : decode prog_10_method_8_code 130 = .ok (.bipush (7), 2) := by decide +kernel
theorem d_Mo_plant_132 : decode prog_10_method_8_code 132 = .ok (.iconst 0, 1) := by decide +kernel
theorem d_Mo_plant_133 : decode prog_10_method_8_code 133 = .ok (.iconst 0, 1) := by decide +kernel
theorem d_Mo_plant_134 : decode prog_10_method_8_code 134 = .ok (.invokevirtual 90, 3) := by decide +kernel
theorem d_Mo_plant_137 : decode prog_10_method_8_code 137 = .ok (.pop, 1) := by decide +kernel
theorem d_Mo_plant_138 : decode prog_10_method_8_code 138 = .ok (.goto (151), 3) := by decide +kernel
theorem d_Mo_plant_141 : decode prog_10_method_8_code 141 = .ok (.aload_n 0, 1) := by decide +kernel
theorem d_Mo_plant_142 : decode prog_10_method_8_code 142 = .ok (.getfield 16, 3) := by decide +kernel
theorem d_Mo_plant_145 : decode prog_10_method_8_code 145 = .ok (.iload_n 3, 1) := by decide +kernel
theorem d_Mo_plant_146 : decode prog_10_method_8_code 146 = .ok (.iaload, 1) := by decide +kernel
theorem d_Mo_plant_147 : decode prog_10_method_8_code 147 = .ok (.ifCond .ge (26), 3) := by decide +kernel
theorem d_Mo_plant_150 : decode prog_10_method_8_code 150 = .ok (.aload_n 0, 1) := by decide +kernel
theorem d_Mo_plant_151 : decode prog_10_method_8_code 151 = .ok (.iconst 1, 1) := by decide +kernel
theorem d_Mo_plant_152 : decode prog_10_method_8_code 152 = .ok (.iload_n 3, 1) := by decide +kernel
theorem d_Mo_plant_153 : decode prog_10_method_8_code 153 = .ok (.iload_n 3, 1) := by decide +kernel
theorem d_Mo_plant_154 : decode prog_10_method_8_code 154 = .ok (.invokevirtual 90, 3) := by decide +kernel
theorem d_Mo_plant_157 : decode prog_10_method_8_code 157 = .ok (.pop, 1) := by decide +kernel
theorem d_Mo_plant_158 : decode prog_10_method_8_code 158 = .ok (.aload_n 0, 1) := by decide +kernel
theorem d_Mo_plant_159 : decode prog_10_method_8_code 159 = .ok (.iload_n 1, 1) := by decide +kernel
theorem d_Mo_plant_160 : decode prog_10_method_8_code 160 = .ok (.iconst (-1), 1) := by decide +kernel
theorem d_Mo_plant_161 : decode prog_10_method_8_code 161 = .ok (.iload_n 3, 1) := by decide +kernel
theorem d_Mo_plant_162 : decode prog_10_method_8_code 162 = .ok (.iconst 1, 1) := by decide +kernel
theorem d_Mo_plant_163 : decode prog_10_method_8_code 163 = .ok (.iadd, 1) := by decide +kernel
theorem d_Mo_plant_164 : decode prog_10_method_8_code 164 = .ok (.iload 4, 2) := by decide +kernel
theorem d_Mo_plant_166 : decode prog_10_method_8_code 166 = .ok (.invokevirtual 94, 3) := by decide +kernel
theorem d_Mo_plant_169 : decode prog_10_method_8_code 169 = .ok (.istore_n 1, 1) := by decide +kernel
theorem d_Mo_plant_170 : decode prog_10_method_8_code 170 = .ok (.goto (119), 3) := by decide +kernel
theorem d_Mo_plant_173 : decode prog_10_method_8_code 173 = .ok (.aload_n 0, 1) := by decide +kernel
theorem d_Mo_plant_174 : decode prog_10_method_8_code 174 = .ok (.getfield 16, 3) := by decide +kernel
theorem d_Mo_plant_177 : decode prog_10_method_8_code 177 = .ok (.iload 4, 2) := by decide +kernel
theorem d_Mo_plant_179 : decode prog_10_method_8_code 179 = .ok (.iaload, 1) := by decide +kernel
theorem d_Mo_plant_180 : decode prog_10_method_8_code 180 = .ok (.ifCond .ge (28), 3) := by decide +kernel
theorem d_Mo_plant_183 : decode prog_10_method_8_code 183 = .ok (.aload_n 0, 1) := by decide +kernel
theorem d_Mo_plant_184 : decode prog_10_method_8_code 184 = .ok (.iconst 2, 1) := by decide +kernel
theorem d_Mo_plant_185 : decode prog_10_method_8_code 185 = .ok (.iload 4, 2) := by decide +kernel
theorem d_Mo_plant_187 : decode prog_10_method_8_code 187 = .ok (.iload 4, 2) := by decide +kernel
theorem d_Mo_plant_189 : decode prog_10_method_8_code 189 = .ok (.invokevirtual 90, 3) := by decide +kernel
theorem d_Mo_plant_192 : decode prog_10_method_8_code 192 = .ok (.pop, 1) := by decide +kernel
theorem d_Mo_plant_193 : decode prog_10_method_8_code 193 = .ok (.aload_n 0, 1) := by decide +kernel
theorem d_Mo_plant_194 : decode prog_10_method_8_code 194 = .ok (.iload_n 1, 1) := by decide +kernel
theorem d_Mo_plant_195 : decode prog_10_method_8_code 195 = .ok (.iconst (-1), 1) := by decide +kernel
theorem d_Mo_plant_196 : decode prog_10_method_8_code 196 = .ok (.iload_n 3, 1) := by decide +kernel
theorem d_Mo_plant_197 : decode prog_10_method_8_code 197 = .ok (.iload 4, 2) := by decide +kernel
theorem d_Mo_plant_199 : decode prog_10_method_8_code 199 = .ok (.iconst 1, 1) := by decide +kernel
theorem d_Mo_plant_200 : decode prog_10_method_8_code 200 = .ok (.isub, 1) := by decide +kernel
theorem d_Mo_plant_201 : decode prog_10_method_8_code 201 = .ok (.invokevirtual 94, 3) := by decide +kernel
theorem d_Mo_plant_204 : decode prog_10_method_8_code 204 = .ok (.istore_n 1, 1) := by decide +kernel
theorem d_Mo_plant_205 : decode prog_10_method_8_code 205 = .ok (.goto (84), 3) := by decide +kernel
theorem d_Mo_plant_208 : decode prog_10_method_8_code 208 = .ok (.aload_n 0, 1) := by decide +kernel
theorem d_Mo_plant_209 : decode prog_10_method_8_code 209 = .ok (.getfield 16, 3) := by decide +kernel
theorem d_Mo_plant_212 : decode prog_10_method_8_code 212 = .ok (.iload_n 3, 1) := by decide +kernel
theorem d_Mo_plant_213 : decode prog_10_method_8_code 213 = .ok (.iaload, 1) := by decide +kernel
theorem d_Mo_plant_214 : decode prog_10_method_8_code 214 = .ok (.iload 4, 2) := by decide +kernel
theorem d_Mo_plant_216 : decode prog_10_method_8_code 216 = .ok (.if_icmp .ne (29), 3) := by decide +kernel
theorem d_Mo_plant_219 : decode prog_10_method_8_code 219 = .ok (.aload_n 0, 1) := by decide +kernel
theorem d_Mo_plant_220 : decode prog_10_method_8_code 220 = .ok (.iconst 3, 1) := by decide +kernel
theorem d_Mo_plant_221 : decode prog_10_method_8_code 221 = .ok (.iload_n 3, 1) := by decide +kernel
theorem d_Mo_plant_222 : decode prog_10_method_8_code 222 = .ok (.iload 4, 2) := by decide +kernel
theorem d_Mo_plant_224 : decode prog_10_method_8_code 224 = .ok (.invokevirtual 90, 3) := by decide +kernel
theorem d_Mo_plant_227 : decode prog_10_method_8_code 227 = .ok (.pop, 1) := by decide +kernel
theorem d_Mo_plant_228 : decode prog_10_method_8_code 228 = .ok (.aload_n 0, 1) := by decide +kernel
theorem d_Mo_plant_229 : decode prog_10_method_8_code 229 = .ok (.iload_n 1, 1) := by decide +kernel
theorem d_Mo_plant_230 : decode prog_10_method_8_code 230 = .ok (.iconst (-1), 1) := by decide +kernel
theorem d_Mo_plant_231 : decode prog_10_method_8_code 231 = .ok (.iload_n 3, 1) := by decide +kernel
theorem d_Mo_plant_232 : decode prog_10_method_8_code 232 = .ok (.iconst 1, 1) := by decide +kernel
theorem d_Mo_plant_233 : decode prog_10_method_8_code 233 = .ok (.iadd, 1) := by decide +kernel
theorem d_Mo_plant_234 : decode prog_10_method_8_code 234 = .ok (.iload 4, 2) := by decide +kernel
theorem d_Mo_plant_236 : decode prog_10_method_8_code 236 = .ok (.iconst 1, 1) := by decide +kernel
theorem d_Mo_plant_237 : decode prog_10_method_8_code 237 = .ok (.isub, 1) := by decide +kernel
theorem d_Mo_plant_238 : decode prog_10_method_8_code 238 = .ok (.invokevirtual 94, 3) := by decide +kernel
theorem d_Mo_plant_241 : decode prog_10_method_8_code 241 = .ok (.istore_n 1, 1) := by decide +kernel
theorem d_Mo_plant_242 : decode prog_10_method_8_code 242 = .ok (.goto (47), 3) := by decide +kernel
theorem d_Mo_plant_245 : decode prog_10_method_8_code 245 = .ok (.aload_n 0, 1) := by decide +kernel
theorem d_Mo_plant_246 : decode prog_10_method_8_code 246 = .ok (.iconst 4, 1) := by decide +kernel
theorem d_Mo_plant_247 : decode prog_10_method_8_code 247 = .ok (.iconst 0, 1) := by decide +kernel
theorem d_Mo_plant_248 : decode prog_10_method_8_code 248 = .ok (.iconst 0, 1) := by decide +kernel
theorem d_Mo_plant_249 : decode prog_10_method_8_code 249 = .ok (.invokevirtual 90, 3) := by decide +kernel
theorem d_Mo_plant_252 : decode prog_10_method_8_code 252 = .ok (.istore 5, 2) := by decide +kernel
theorem d_Mo_plant_254 : decode prog_10_method_8_code 254 = .ok (.aload_n 0, 1) := by decide +kernel
theorem d_Mo_plant_255 : decode prog_10_method_8_code 255 = .ok (.iload_n 1, 1) := by decide +kernel
theorem d_Mo_plant_256 : decode prog_10_method_8_code 256 = .ok (.bipush (100), 2) := by decide +kernel
theorem d_Mo_plant_258 : decode prog_10_method_8_code 258 = .ok (.iload 5, 2) := by decide +kernel
theorem d_Mo_plant_260 : decode prog_10_method_8_code 260 = .ok (.iadd, 1) := by decide +kernel
theorem d_Mo_plant_261 : decode prog_10_method_8_code 261 = .ok (.aload_n 0, 1) := by decide +kernel
theorem d_Mo_plant_262 : decode prog_10_method_8_code 262 = .ok (.getfield 16, 3) := by decide +kernel
theorem d_Mo_plant_265 : decode prog_10_method_8_code 265 = .ok (.iload_n 3, 1) := by decide +kernel
theorem d_Mo_plant_266 : decode prog_10_method_8_code 266 = .ok (.iaload, 1) := by decide +kernel
theorem d_Mo_plant_267 : decode prog_10_method_8_code 267 = .ok (.iconst 1, 1) := by decide +kernel
theorem d_Mo_plant_268 : decode prog_10_method_8_code 268 = .ok (.iadd, 1) := by decide +kernel
theorem d_Mo_plant_269 : decode prog_10_method_8_code 269 = .ok (.iload 4, 2) := by decide +kernel
theorem d_Mo_plant_271 : decode prog_10_method_8_code 271 = .ok (.invokevirtual 94, 3) := by decide +kernel
theorem d_Mo_plant_274 : decode prog_10_method_8_code 274 = .ok (.istore_n 1, 1) := by decide +kernel
theorem d_Mo_plant_275 : decode prog_10_method_8_code 275 = .ok (.aload_n 0, 1) := by decide +kernel
theorem d_Mo_plant_276 : decode prog_10_method_8_code 276 = .ok (.iload_n 1, 1) := by decide +kernel
theorem d_Mo_plant_277 : decode prog_10_method_8_code 277 = .ok (.iconst 5, 1) := by decide +kernel
theorem d_Mo_plant_278 : decode prog_10_method_8_code 278 = .ok (.iload_n 3, 1) := by decide +kernel
theorem d_Mo_plant_279 : decode prog_10_method_8_code 279 = .ok (.aload_n 0, 1) := by decide +kernel
theorem d_Mo_plant_280 : decode prog_10_method_8_code 280 = .ok (.getfield 16, 3) := by decide +kernel
theorem d_Mo_plant_283 : decode prog_10_method_8_code 283 = .ok (.iload_n 3, 1) := by decide +kernel
theorem d_Mo_plant_284 : decode prog_10_method_8_code 284 = .ok (.iaload, 1) := by decide +kernel
theorem d_Mo_plant_285 : decode prog_10_method_8_code 285 = .ok (.invokevirtual 94, 3) := by decide +kernel
theorem d_Mo_plant_288 : decode prog_10_method_8_code 288 = .ok (.istore_n 1, 1) := by decide +kernel
theorem d_Mo_plant_289 : decode prog_10_method_8_code 289 = .ok (.goto (-262), 3) := by decide +kernel
theorem d_Mo_plant_292 : decode prog_10_method_8_code 292 = .ok (.return_, 1) := by decide +kernel
theorem d_Mo_state_0 : decode prog_10_method_9_code 0 = .ok (.aload_n 0, 1) := by decide +kernel
theorem d_Mo_state_1 : decode prog_10_method_9_code 1 = .ok (.getfield 34, 3) := by decide +kernel
theorem d_Mo_state_4 : decode prog_10_method_9_code 4 = .ok (.aload_n 0, 1) := by decide +kernel
theorem d_Mo_state_5 : decode prog_10_method_9_code 5 = .ok (.getfield 98, 3) := by decide +kernel
theorem d_Mo_state_8 : decode prog_10_method_9_code 8 = .ok (.iload_n 2, 1) := by decide +kernel
theorem d_Mo_state_9 : decode prog_10_method_9_code 9 = .ok (.iastore, 1) := by decide +kernel
theorem d_Mo_state_10 : decode prog_10_method_9_code 10 = .ok (.aload_n 0, 1) := by decide +kernel
theorem d_Mo_state_11 : decode prog_10_method_9_code 11 = .ok (.getfield 37, 3) := by decide +kernel
theorem d_Mo_state_14 : decode prog_10_method_9_code 14 = .ok (.aload_n 0, 1) := by decide +kernel
theorem d_Mo_state_15 : decode prog_10_method_9_code 15 = .ok (.getfield 98, 3) := by decide +kernel
theorem d_Mo_state_18 : decode prog_10_method_9_code 18 = .ok (.iload_n 1, 1) := by decide +kernel
theorem d_Mo_state_19 : decode prog_10_method_9_code 19 = .ok (.iastore, 1) := by decide +kernel
theorem d_Mo_state_20 : decode prog_10_method_9_code 20 = .ok (.aload_n 0, 1) := by decide +kernel
theorem d_Mo_state_21 : decode prog_10_method_9_code 21 = .ok (.aload_n 0, 1) := by decide +kernel
theorem d_Mo_state_22 : decode prog_10_method_9_code 22 = .ok (.getfield 98, 3) := by decide +kernel
theorem d_Mo_state_25 : decode prog_10_method_9_code 25 = .ok (.iconst 1, 1) := by decide +kernel
theorem d_Mo_state_26 : decode prog_10_method_9_code 26 = .ok (.iadd, 1) := by decide +kernel
theorem d_Mo_state_27 : decode prog_10_method_9_code 27 = .ok (.putfield 98, 3) := by decide +kernel
theorem d_Mo_state_30 : decode prog_10_method_9_code 30 = .ok (.return_, 1) := by decide +kernel
theorem d_Mo_settle_0 : decode prog_10_method_10_code 0 = .ok (.aload_n 0, 1) := by decide +kernel
theorem d_Mo_settle_1 : decode prog_10_method_10_code 1 = .ok (.iconst 0, 1) := by decide +kernel
theorem d_Mo_settle_2 : decode prog_10_method_10_code 2 = .ok (.putfield 98, 3) := by decide +kernel
theorem d_Mo_settle_5 : decode prog_10_method_10_code 5 = .ok (.iconst 0, 1) := by decide +kernel
theorem d_Mo_settle_6 : decode prog_10_method_10_code 6 = .ok (.istore_n 1, 1) := by decide +kernel
theorem d_Mo_settle_7 : decode prog_10_method_10_code 7 = .ok (.iload_n 1, 1) := by decide +kernel
theorem d_Mo_settle_8 : decode prog_10_method_10_code 8 = .ok (.aload_n 0, 1) := by decide +kernel
theorem d_Mo_settle_9 : decode prog_10_method_10_code 9 = .ok (.getfield 87, 3) := by decide +kernel
theorem d_Mo_settle_12 : decode prog_10_method_10_code 12 = .ok (.if_icmp .ge (186), 3) := by decide +kernel
theorem d_Mo_settle_15 : decode prog_10_method_10_code 15 = .ok (.aload_n 0, 1) := by decide +kernel
theorem d_Mo_settle_16 : decode prog_10_method_10_code 16 = .ok (.getfield 19, 3) := by decide +kernel
theorem d_Mo_settle_19 : decode prog_10_method_10_code 19 = .ok (.iload_n 1, 1) := by decide +kernel
theorem d_Mo_settle_20 : decode prog_10_method_10_code 20 = .ok (.iaload, 1) := by decide +kernel
theorem d_Mo_settle_21 : decode prog_10_method_10_code 21 = .ok (.istore_n 2, 1) := by decide +kernel
theorem d_Mo_settle_22 : decode prog_10_method_10_code 22 = .ok (.aload_n 0, 1) := by decide +kernel
theorem d_Mo_settle_23 : decode prog_10_method_10_code 23 = .ok (.getfield 28, 3) := by decide +kernel
theorem d_Mo_settle_26 : decode prog_10_method_10_code 26 = .ok (.iload_n 1, 1) := by decide +kernel
theorem d_Mo_settle_27 : decode prog_10_method_10_code 27 = .ok (.aload_n 0, 1) := by decide +kernel
theorem d_Mo_settle_28 : decode prog_10_method_10_code 28 = .ok (.getfield 98, 3) := by decide +kernel
theorem d_Mo_settle_31 : decode prog_10_method_10_code 31 = .ok (.iastore, 1) := by decide +kernel
theorem d_Mo_settle_32 : decode prog_10_method_10_code 32 = .ok (.iload_n 2, 1) := by decide +kernel
theorem d_Mo_settle_33 : decode prog_10_method_10_code 33 = .ok (.ifCond .eq (14), 3) := by decide +kernel
theorem d_Mo_settle_36 : decode prog_10_method_10_code 36 = .ok (.iload_n 2, 1) := by decide +kernel
theorem d_Mo_settle_37 : decode prog_10_method_10_code 37 = .ok (.iconst 5, 1) := by decide +kernel
theorem d_Mo_settle_38 : decode prog_10_method_10_code 38 = .ok (.if_icmp .eq (9), 3) := by decide +kernel
theorem d_Mo_settle_41 : decode prog_10_method_10_code 41 = .ok (.iload_n 2, 1) := by decide +kernel
theorem d_Mo_settle_42 : decode prog_10_method_10_code 42 = .ok (.bipush (6), 2) := by decide +kernel
theorem d_Mo_settle_44 : decode prog_10_method_10_code 44 = .ok (.if_icmp .ne (9), 3) := by decide +kernel
theorem d_Mo_settle_47 : decode prog_10_method_10_code 47 = .ok (.aload_n 0, 1) := by decide +kernel
theorem d_Mo_settle_48 : decode prog_10_method_10_code 48 = .ok (.iload_n 1, 1) := by decide +kernel
theorem d_Mo_settle_49 : decode prog_10_method_10_code 49 = .ok (.iconst 0, 1) := by decide +kernel
theorem d_Mo_settle_50 : decode prog_10_method_10_code 50 = .ok (.invokevirtual 101, 3) := by decide +kernel
theorem d_Mo_settle_53 : decode prog_10_method_10_code 53 = .ok (.iload_n 2, 1) := by decide +kernel
theorem d_Mo_settle_54 : decode prog_10_method_10_code 54 = .ok (.iconst 3, 1) := by decide +kernel
theorem d_Mo_settle_55 : decode prog_10_method_10_code 55 = .ok (.if_icmp .ne (9), 3) := by decide +kernel
theorem d_Mo_settle_58 : decode prog_10_method_10_code 58 = .ok (.aload_n 0, 1) := by decide +kernel
theorem d_Mo_settle_59 : decode prog_10_method_10_code 59 = .ok (.iload_n 1, 1) := by decide +kernel
theorem d_Mo_settle_60 : decode prog_10_method_10_code 60 = .ok (.iconst 1, 1) := by decide +kernel
theorem d_Mo_settle_61 : decode prog_10_method_10_code 61 = .ok (.invokevirtual 101, 3) := by decide +kernel
theorem d_Mo_settle_64 : decode prog_10_method_10_code 64 = .ok (.iload_n 2, 1) := by decide +kernel
theorem d_Mo_settle_65 : decode prog_10_method_10_code 65 = .ok (.iconst 1, 1) := by decide +kernel
theorem d_Mo_settle_66 : decode prog_10_method_10_code 66 = .ok (.if_icmp .eq (8), 3) := by decide +kernel
theorem d_Mo_settle_69 : decode prog_10_method_10_code 69 = .ok (.iload_n 2, 1) := by decide +kernel
theorem d_Mo_settle_70 : decode prog_10_method_10_code 70 = .ok (.iconst 3, 1) := by decide +kernel
theorem d_Mo_settle_71 : decode prog_10_method_10_code 71 = .ok (.if_icmp .ne (9), 3) := by decide +kernel
theorem d_Mo_settle_74 : decode prog_10_method_10_code 74 = .ok (.aload_n 0, 1) := by decide +kernel
theorem d_Mo_settle_75 : decode prog_10_method_10_code 75 = .ok (.iload_n 1, 1) := by decide +kernel
theorem d_Mo_settle_76 : decode prog_10_method_10_code 76 = .ok (.iconst 2, 1) := by decide +kernel
theorem d_Mo_settle_77 : decode prog_10_method_10_code 77 = .ok (.invokevirtual 101, 3) := by decide +kernel
theorem d_Mo_settle_80 : decode prog_10_method_10_code 80 = .ok (.iload_n 2, 1) := by decide +kernel
theorem d_Mo_settle_81 : decode prog_10_method_10_code 81 = .ok (.iconst 2, 1) := by decide +kernel
theorem d_Mo_settle_82 : decode prog_10_method_10_code 82 = .ok (.if_icmp .eq (8), 3) := by decide +kernel
theorem d_Mo_settle_85 : decode prog_10_method_10_code 85 = .ok (.iload_n 2, 1) := by decide +kernel
theorem d_Mo_settle_86 : decode prog_10_method_10_code 86 = .ok (.iconst 3, 1) := by decide +kernel
theorem d_Mo_settle_87 : decode prog_10_method_10_code 87 = .ok (.if_icmp .ne (9), 3) := by decide +kernel
theorem d_Mo_settle_90 : decode prog_10_method_10_code 90 = .ok (.aload_n 0, 1) := by decide +kernel
theorem d_Mo_settle_91 : decode prog_10_method_10_code 91 = .ok (.iload_n 1, 1) := by decide +kernel
theorem d_Mo_settle_92 : decode prog_10_method_10_code 92 = .ok (.iconst 3, 1) := by decide +kernel
theorem d_Mo_settle_93 : decode prog_10_method_10_code 93 = .ok (.invokevirtual 101, 3) := by decide +kernel
theorem d_Mo_settle_96 : decode prog_10_method_10_code 96 = .ok (.iload_n 2, 1) := by decide +kernel
theorem d_Mo_settle_97 : decode prog_10_method_10_code 97 = .ok (.iconst 1, 1) := by decide +kernel
theorem d_Mo_settle_98 : decode prog_10_method_10_code 98 = .ok (.if_icmp .eq (13), 3) := by decide +kernel
theorem d_Mo_settle_101 : decode prog_10_method_10_code 101 = .ok (.iload_n 2, 1) := by decide +kernel
theorem d_Mo_settle_102 : decode prog_10_method_10_code 102 = .ok (.iconst 2, 1) := by decide +kernel
theorem d_Mo_settle_103 : decode prog_10_method_10_code 103 = .ok (.if_icmp .eq (8), 3) := by decide +kernel
theorem d_Mo_settle_106 : decode prog_10_method_10_code 106 = .ok (.iload_n 2, 1) := by decide +kernel
theorem d_Mo_settle_107 : decode prog_10_method_10_code 107 = .ok (.iconst 3, 1) := by decide +kernel
theorem d_Mo_settle_108 : decode prog_10_method_10_code 108 = .ok (.if_icmp .ne (9), 3) := by decide +kernel
theorem d_Mo_settle_111 : decode prog_10_method_10_code 111 = .ok (.aload_n 0, 1) := by decide +kernel
theorem d_Mo_settle_112 : decode prog_10_method_10_code 112 = .ok (.iload_n 1, 1) := by decide +kernel
theorem d_Mo_settle_113 : decode prog_10_method_10_code 113 = .ok (.iconst 4, 1) := by decide +kernel
theorem d_Mo_settle_114 : decode prog_10_method_10_code 114 = .ok (.invokevirtual 101, 3) := by decide +kernel
theorem d_Mo_settle_117 : decode prog_10_method_10_code 117 = .ok (.iload_n 2, 1) := by decide +kernel
theorem d_Mo_settle_118 : decode prog_10_method_10_code 118 = .ok (.ifCond .eq (19), 3) := by decide +kernel
theorem d_Mo_settle_121 : decode prog_10_method_10_code 121 = .ok (.iload_n 2, 1) := by decide +kernel
theorem d_Mo_settle_122 : decode prog_10_method_10_code 122 = .ok (.iconst 1, 1) := by decide +kernel
theorem d_Mo_settle_123 : decode prog_10_method_10_code 123 = .ok (.if_icmp .eq (14), 3) := by decide +kernel
theorem d_Mo_settle_126 : decode prog_10_method_10_code 126 = .ok (.iload_n 2, 1) := by decide +kernel
theorem d_Mo_settle_127 : decode prog_10_method_10_code 127 = .ok (.iconst 3, 1) := by decide +kernel
theorem d_Mo_settle_128 : decode prog_10_method_10_code 128 = .ok (.if_icmp .eq (9), 3) := by decide +kernel
theorem d_Mo_settle_131 : decode prog_10_method_10_code 131 = .ok (.iload_n 2, 1) := by decide +kernel
theorem d_Mo_settle_132 : decode prog_10_method_10_code 132 = .ok (.bipush (6), 2) := by decide +kernel
theorem d_Mo_settle_134 : decode prog_10_method_10_code 134 = .ok (.if_icmp .ne (9), 3) := by decide +kernel
theorem d_Mo_settle_137 : decode prog_10_method_10_code 137 = .ok (.aload_n 0, 1) := by decide +kernel
theorem d_Mo_settle_138 : decode prog_10_method_10_code 138 = .ok (.iload_n 1, 1) := by decide +kernel
theorem d_Mo_settle_139 : decode prog_10_method_10_code 139 = .ok (.iconst 5, 1) := by decide +kernel
theorem d_Mo_settle_140 : decode prog_10_method_10_code 140 = .ok (.invokevirtual 101, 3) := by decide +kernel
theorem d_Mo_settle_143 : decode prog_10_method_10_code 143 = .ok (.iload_n 2, 1) := by decide +kernel
theorem d_Mo_settle_144 : decode prog_10_method_10_code 144 = .ok (.ifCond .eq (13), 3) := by decide +kernel
theorem d_Mo_settle_147 : decode prog_10_method_10_code 147 = .ok (.iload_n 2, 1) := by decide +kernel
theorem d_Mo_settle_148 : decode prog_10_method_10_code 148 = .ok (.iconst 2, 1) := by decide +kernel
theorem d_Mo_settle_149 : decode prog_10_method_10_code 149 = .ok (.if_icmp .eq (8), 3) := by decide +kernel
theorem d_Mo_settle_152 : decode prog_10_method_10_code 152 = .ok (.iload_n 2, 1) := by decide +kernel
theorem d_Mo_settle_153 : decode prog_10_method_10_code 153 = .ok (.iconst 3, 1) := by decide +kernel
theorem d_Mo_settle_154 : decode prog_10_method_10_code 154 = .ok (.if_icmp .ne (10), 3) := by decide +kernel
theorem d_Mo_settle_157 : decode prog_10_method_10_code 157 = .ok (.aload_n 0, 1) := by decide +kernel
theorem d_Mo_settle_158 : decode prog_10_method_10_code 158 = .ok (.iload_n 1, 1) := by decide +kernel
theorem d_Mo_settle_159 : decode prog_10_method_10_code 159 = .ok (.bipush (6), 2) := by decide +kernel
theorem d_Mo_settle_161 : decode prog_10_method_10_code 161 = .ok (.invokevirtual 101, 3) := by decide +kernel
theorem d_Mo_settle_164 : decode prog_10_method_10_code 164 = .ok (.iload_n 2, 1) := by decide +kernel
theorem d_Mo_settle_165 : decode prog_10_method_10_code 165 = .ok (.iconst 4, 1) := by decide +kernel
theorem d_Mo_settle_166 : decode prog_10_method_10_code 166 = .ok (.if_icmp .eq (9), 3) := by decide +kernel
theorem d_Mo_settle_169 : decode prog_10_method_10_code 169 = .ok (.iload_n 2, 1) := by decide +kernel
theorem d_Mo_settle_170 : decode prog_10_method_10_code 170 = .ok (.bipush (7), 2) := by decide +kernel
theorem d_Mo_settle_172 : decode prog_10_method_10_code 172 = .ok (.if_icmp .ne (20), 3) := by decide +kernel
theorem d_Mo_settle_175 : decode prog_10_method_10_code 175 = .ok (.aload_n 0, 1) := by decide +kernel
theorem d_Mo_settle_176 : decode prog_10_method_10_code 176 = .ok (.iload_n 1, 1) := by decide +kernel
theorem d_Mo_settle_177 : decode prog_10_method_10_code 177 = .ok (.iload_n 2, 1) := by decide +kernel
theorem d_Mo_settle_178 : decode prog_10_method_10_code 178 = .ok (.iconst 4, 1) := by decide +kernel
theorem d_Mo_settle_179 : decode prog_10_method_10_code 179 = .ok (.if_icmp .ne (8), 3) := by decide +kernel
theorem d_Mo_settle_182 : decode prog_10_method_10_code 182 = .ok (.bipush (7), 2) := by decide +kernel
theorem d_Mo_settle_184 : decode prog_10_method_10_code 184 = .ok (.goto (5), 3) := by decide +kernel
theorem d_Mo_settle_187 : decode prog_10_method_10_code 187 = .ok (.bipush (8), 2) := by decide +kernel
theorem d_Mo_settle_189 : decode prog_10_method_10_code 189 = .ok (.invokevirtual 101, 3) := by decide +kernel
theorem d_Mo_settle_192 : decode prog_10_method_10_code 192 = .ok (.iinc 1 (1), 3) := by decide +kernel
theorem d_Mo_settle_195 : decode prog_10_method_10_code 195 = .ok (.goto (-188), 3) := by decide +kernel
theorem d_Mo_settle_198 : decode prog_10_method_10_code 198 = .ok (.aload_n 0, 1) := by decide +kernel
theorem d_Mo_settle_199 : decode prog_10_method_10_code 199 = .ok (.getfield 28, 3) := by decide +kernel
theorem d_Mo_settle_202 : decode prog_10_method_10_code 202 = .ok (.aload_n 0, 1) := by decide +kernel
theorem d_Mo_settle_203 : decode prog_10_method_10_code 203 = .ok (.getfield 87, 3) := by decide +kernel
theorem d_Mo_settle_206 : decode prog_10_method_10_code 206 = .ok (.aload_n 0, 1) := by decide +kernel
theorem d_Mo_settle_207 : decode prog_10_method_10_code 207 = .ok (.getfield 98, 3) := by decide +kernel
theorem d_Mo_settle_210 : decode prog_10_method_10_code 210 = .ok (.iastore, 1) := by decide +kernel
theorem d_Mo_settle_211 : decode prog_10_method_10_code 211 = .ok (.return_, 1) := by decide +kernel
theorem d_Mo_inserts_0 : decode prog_10_method_11_code 0 = .ok (.iload_n 0, 1) := by decide +kernel
theorem d_Mo_inserts_1 : decode prog_10_method_11_code 1 = .ok (.iconst 5, 1) := by decide +kernel
theorem d_Mo_inserts_2 : decode prog_10_method_11_code 2 = .ok (.if_icmp .eq (9), 3) := by decide +kernel
theorem d_Mo_inserts_5 : decode prog_10_method_11_code 5 = .ok (.iload_n 0, 1) := by decide +kernel
theorem d_Mo_inserts_6 : decode prog_10_method_11_code 6 = .ok (.bipush (6), 2) := by decide +kernel
theorem d_Mo_inserts_8 : decode prog_10_method_11_code 8 = .ok (.if_icmp .ne (7), 3) := by decide +kernel
theorem d_Mo_inserts_11 : decode prog_10_method_11_code 11 = .ok (.iconst 1, 1) := by decide +kernel
theorem d_Mo_inserts_12 : decode prog_10_method_11_code 12 = .ok (.goto (4), 3) := by decide +kernel
theorem d_Mo_inserts_15 : decode prog_10_method_11_code 15 = .ok (.iconst 0, 1) := by decide +kernel
theorem d_Mo_inserts_16 : decode prog_10_method_11_code 16 = .ok (.ireturn, 1) := by decide +kernel
theorem d_Mo_targetOf_0 : decode prog_10_method_12_code 0 = .ok (.aload_n 0, 1) := by decide +kernel
theorem d_Mo_targetOf_1 : decode prog_10_method_12_code 1 = .ok (.getfield 37, 3) := by decide +kernel
theorem d_Mo_targetOf_4 : decode prog_10_method_12_code 4 = .ok (.iload_n 1, 1) := by decide +kernel
theorem d_Mo_targetOf_5 : decode prog_10_method_12_code 5 = .ok (.iaload, 1) := by decide +kernel
theorem d_Mo_targetOf_6 : decode prog_10_method_12_code 6 = .ok (.istore_n 3, 1) := by decide +kernel
theorem d_Mo_targetOf_7 : decode prog_10_method_12_code 7 = .ok (.aload_n 0, 1) := by decide +kernel
theorem d_Mo_targetOf_8 : decode prog_10_method_12_code 8 = .ok (.getfield 34, 3) := by decide +kernel
theorem d_Mo_targetOf_11 : decode prog_10_method_12_code 11 = .ok (.iload_n 1, 1) := by decide +kernel
theorem d_Mo_targetOf_12 : decode prog_10_method_12_code 12 = .ok (.iaload, 1) := by decide +kernel
theorem d_Mo_targetOf_13 : decode prog_10_method_12_code 13 = .ok (.istore 4, 2) := by decide +kernel
theorem d_Mo_targetOf_15 : decode prog_10_method_12_code 15 = .ok (.iload 4, 2) := by decide +kernel
theorem d_Mo_targetOf_17 : decode prog_10_method_12_code 17 = .ok (.bipush (8), 2) := by decide +kernel
theorem d_Mo_targetOf_19 : decode prog_10_method_12_code 19 = .ok (.if_icmp .eq (7), 3) := by decide +kernel
theorem d_Mo_targetOf_22 : decode prog_10_method_12_code 22 = .ok (.iload_n 2, 1) := by decide +kernel
theorem d_Mo_targetOf_23 : decode prog_10_method_12_code 23 = .ok (.ifCond .ge (5), 3) := by decide +kernel
theorem d_Mo_targetOf_26 : decode prog_10_method_12_code 26 = .ok (.iconst (-1), 1) := by decide +kernel
theorem d_Mo_targetOf_27 : decode prog_10_method_12_code 27 = .ok (.ireturn, 1) := by decide +kernel
theorem d_Mo_targetOf_28 : decode prog_10_method_12_code 28 = .ok (.iload 4, 2) := by decide +kernel
theorem d_Mo_targetOf_30 : decode prog_10_method_12_code 30 = .ok (.bipush (7), 2) := by decide +kernel
