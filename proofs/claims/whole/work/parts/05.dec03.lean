/-! decode rows (written by wip/gen) -/
theorem d_Va_emitted_54 : decode prog_8_method_13_code 54 = .ok (.getfield 19, 3) := by decide +kernel
theorem d_Va_emitted_57 : decode prog_8_method_13_code 57 = .ok (.iload_n 2, 1) := by decide +kernel
theorem d_Va_emitted_58 : decode prog_8_method_13_code 58 = .ok (.invokevirtual 90, 3) := by decide +kernel
theorem d_Va_emitted_61 : decode prog_8_method_13_code 61 = .ok (.aload_n 0, 1) := by decide +kernel
theorem d_Va_emitted_62 : decode prog_8_method_13_code 62 = .ok (.getfield 19, 3) := by decide +kernel
theorem d_Va_emitted_65 : decode prog_8_method_13_code 65 = .ok (.iload_n 2, 1) := by decide +kernel
theorem d_Va_emitted_66 : decode prog_8_method_13_code 66 = .ok (.iload_n 3, 1) := by decide +kernel
theorem d_Va_emitted_67 : decode prog_8_method_13_code 67 = .ok (.iadd, 1) := by decide +kernel
theorem d_Va_emitted_68 : decode prog_8_method_13_code 68 = .ok (.iconst 1, 1) := by decide +kernel
theorem d_Va_emitted_69 : decode prog_8_method_13_code 69 = .ok (.isub, 1) := by decide +kernel
theorem d_Va_emitted_70 : decode prog_8_method_13_code 70 = .ok (.invokevirtual 90, 3) := by decide +kernel
theorem d_Va_emitted_73 : decode prog_8_method_13_code 73 = .ok (.invokevirtual 93, 3) := by decide +kernel
theorem d_Va_emitted_76 : decode prog_8_method_13_code 76 = .ok (.ireturn, 1) := by decide +kernel
theorem d_Va_emitted_77 : decode prog_8_method_13_code 77 = .ok (.aload_n 0, 1) := by decide +kernel
theorem d_Va_emitted_78 : decode prog_8_method_13_code 78 = .ok (.getfield 15, 3) := by decide +kernel
theorem d_Va_emitted_81 : decode prog_8_method_13_code 81 = .ok (.iload_n 1, 1) := by decide +kernel
theorem d_Va_emitted_82 : decode prog_8_method_13_code 82 = .ok (.aload_n 0, 1) := by decide +kernel
theorem d_Va_emitted_83 : decode prog_8_method_13_code 83 = .ok (.getfield 19, 3) := by decide +kernel
theorem d_Va_emitted_86 : decode prog_8_method_13_code 86 = .ok (.iload_n 2, 1) := by decide +kernel
theorem d_Va_emitted_87 : decode prog_8_method_13_code 87 = .ok (.invokevirtual 90, 3) := by decide +kernel
theorem d_Va_emitted_90 : decode prog_8_method_13_code 90 = .ok (.iconst 0, 1) := by decide +kernel
theorem d_Va_emitted_91 : decode prog_8_method_13_code 91 = .ok (.invokevirtual 93, 3) := by decide +kernel
theorem d_Va_emitted_94 : decode prog_8_method_13_code 94 = .ok (.ireturn, 1) := by decide +kernel
theorem d_Va_emitted_95 : decode prog_8_method_13_code 95 = .ok (.aload_n 0, 1) := by decide +kernel
theorem d_Va_emitted_96 : decode prog_8_method_13_code 96 = .ok (.getfield 15, 3) := by decide +kernel
theorem d_Va_emitted_99 : decode prog_8_method_13_code 99 = .ok (.iload_n 1, 1) := by decide +kernel
theorem d_Va_emitted_100 : decode prog_8_method_13_code 100 = .ok (.aload_n 0, 1) := by decide +kernel
theorem d_Va_emitted_101 : decode prog_8_method_13_code 101 = .ok (.getfield 19, 3) := by decide +kernel
theorem d_Va_emitted_104 : decode prog_8_method_13_code 104 = .ok (.iload_n 2, 1) := by decide +kernel
theorem d_Va_emitted_105 : decode prog_8_method_13_code 105 = .ok (.iload_n 3, 1) := by decide +kernel
theorem d_Va_emitted_106 : decode prog_8_method_13_code 106 = .ok (.iadd, 1) := by decide +kernel
theorem d_Va_emitted_107 : decode prog_8_method_13_code 107 = .ok (.iconst 1, 1) := by decide +kernel
theorem d_Va_emitted_108 : decode prog_8_method_13_code 108 = .ok (.isub, 1) := by decide +kernel
theorem d_Va_emitted_109 : decode prog_8_method_13_code 109 = .ok (.invokevirtual 90, 3) := by decide +kernel
theorem d_Va_emitted_112 : decode prog_8_method_13_code 112 = .ok (.iconst 0, 1) := by decide +kernel
theorem d_Va_emitted_113 : decode prog_8_method_13_code 113 = .ok (.invokevirtual 93, 3) := by decide +kernel
theorem d_Va_emitted_116 : decode prog_8_method_13_code 116 = .ok (.ireturn, 1) := by decide +kernel
theorem d_Va_emitted_117 : decode prog_8_method_13_code 117 = .ok (.iconst 0, 1) := by decide +kernel
theorem d_Va_emitted_118 : decode prog_8_method_13_code 118 = .ok (.ireturn, 1) := by decide +kernel
theorem d_Va_greatestOfTargets_0 : decode prog_8_method_10_code 0 = .ok (.aload_n 0, 1) := by decide +kernel
theorem d_Va_greatestOfTargets_1 : decode prog_8_method_10_code 1 = .ok (.getfield 15, 3) := by decide +kernel
theorem d_Va_greatestOfTargets_4 : decode prog_8_method_10_code 4 = .ok (.iload_n 1, 1) := by decide +kernel
theorem d_Va_greatestOfTargets_5 : decode prog_8_method_10_code 5 = .ok (.invokevirtual 49, 3) := by decide +kernel
theorem d_Va_greatestOfTargets_8 : decode prog_8_method_10_code 8 = .ok (.istore 4, 2) := by decide +kernel
theorem d_Va_greatestOfTargets_10 : decode prog_8_method_10_code 10 = .ok (.iload_n 2, 1) := by decide +kernel
theorem d_Va_greatestOfTargets_11 : decode prog_8_method_10_code 11 = .ok (.iload 4, 2) := by decide +kernel
theorem d_Va_greatestOfTargets_13 : decode prog_8_method_10_code 13 = .ok (.invokestatic 59, 3) := by decide +kernel
theorem d_Va_greatestOfTargets_16 : decode prog_8_method_10_code 16 = .ok (.iadd, 1) := by decide +kernel
theorem d_Va_greatestOfTargets_17 : decode prog_8_method_10_code 17 = .ok (.istore 5, 2) := by decide +kernel
theorem d_Va_greatestOfTargets_19 : decode prog_8_method_10_code 19 = .ok (.iload_n 3, 1) := by decide +kernel
theorem d_Va_greatestOfTargets_20 : decode prog_8_method_10_code 20 = .ok (.iload 4, 2) := by decide +kernel
theorem d_Va_greatestOfTargets_22 : decode prog_8_method_10_code 22 = .ok (.invokestatic 62, 3) := by decide +kernel
theorem d_Va_greatestOfTargets_25 : decode prog_8_method_10_code 25 = .ok (.isub, 1) := by decide +kernel
theorem d_Va_greatestOfTargets_26 : decode prog_8_method_10_code 26 = .ok (.istore 6, 2) := by decide +kernel
theorem d_Va_greatestOfTargets_28 : decode prog_8_method_10_code 28 = .ok (.iload 6, 2) := by decide +kernel
theorem d_Va_greatestOfTargets_30 : decode prog_8_method_10_code 30 = .ok (.ifCond .ge (6), 3) := by decide +kernel
theorem d_Va_greatestOfTargets_33 : decode prog_8_method_10_code 33 = .ok (.ldc 48, 2) := by decide +kernel
theorem d_Va_greatestOfTargets_35 : decode prog_8_method_10_code 35 = .ok (.ireturn, 1) := by decide +kernel
theorem d_Va_greatestOfTargets_36 : decode prog_8_method_10_code 36 = .ok (.ldc 48, 2) := by decide +kernel
theorem d_Va_greatestOfTargets_38 : decode prog_8_method_10_code 38 = .ok (.istore 7, 2) := by decide +kernel
theorem d_Va_greatestOfTargets_40 : decode prog_8_method_10_code 40 = .ok (.iconst 0, 1) := by decide +kernel
theorem d_Va_greatestOfTargets_41 : decode prog_8_method_10_code 41 = .ok (.istore 8, 2) := by decide +kernel
theorem d_Va_greatestOfTargets_43 : decode prog_8_method_10_code 43 = .ok (.iload 8, 2) := by decide +kernel
theorem d_Va_greatestOfTargets_45 : decode prog_8_method_10_code 45 = .ok (.aload_n 0, 1) := by decide +kernel
theorem d_Va_greatestOfTargets_46 : decode prog_8_method_10_code 46 = .ok (.getfield 15, 3) := by decide +kernel
theorem d_Va_greatestOfTargets_49 : decode prog_8_method_10_code 49 = .ok (.iload_n 1, 1) := by decide +kernel
theorem d_Va_greatestOfTargets_50 : decode prog_8_method_10_code 50 = .ok (.invokevirtual 56, 3) := by decide +kernel
theorem d_Va_greatestOfTargets_53 : decode prog_8_method_10_code 53 = .ok (.if_icmp .ge (27), 3) := by decide +kernel
theorem d_Va_greatestOfTargets_56 : decode prog_8_method_10_code 56 = .ok (.iload 7, 2) := by decide +kernel
theorem d_Va_greatestOfTargets_58 : decode prog_8_method_10_code 58 = .ok (.aload_n 0, 1) := by decide +kernel
theorem d_Va_greatestOfTargets_59 : decode prog_8_method_10_code 59 = .ok (.iload_n 1, 1) := by decide +kernel
theorem d_Va_greatestOfTargets_60 : decode prog_8_method_10_code 60 = .ok (.iload 8, 2) := by decide +kernel
theorem d_Va_greatestOfTargets_62 : decode prog_8_method_10_code 62 = .ok (.iload 5, 2) := by decide +kernel
theorem d_Va_greatestOfTargets_64 : decode prog_8_method_10_code 64 = .ok (.iload 6, 2) := by decide +kernel
theorem d_Va_greatestOfTargets_66 : decode prog_8_method_10_code 66 = .ok (.invokevirtual 65, 3) := by decide +kernel
theorem d_Va_greatestOfTargets_69 : decode prog_8_method_10_code 69 = .ok (.invokestatic 78, 3) := by decide +kernel
theorem d_Va_greatestOfTargets_72 : decode prog_8_method_10_code 72 = .ok (.istore 7, 2) := by decide +kernel
theorem d_Va_greatestOfTargets_74 : decode prog_8_method_10_code 74 = .ok (.iinc 8 (1), 3) := by decide +kernel
theorem d_Va_greatestOfTargets_77 : decode prog_8_method_10_code 77 = .ok (.goto (-34), 3) := by decide +kernel
theorem d_Va_greatestOfTargets_80 : decode prog_8_method_10_code 80 = .ok (.iload 7, 2) := by decide +kernel
theorem d_Va_greatestOfTargets_82 : decode prog_8_method_10_code 82 = .ok (.ldc 48, 2) := by decide +kernel
theorem d_Va_greatestOfTargets_84 : decode prog_8_method_10_code 84 = .ok (.if_icmp .ne (8), 3) := by decide +kernel
theorem d_Va_greatestOfTargets_87 : decode prog_8_method_10_code 87 = .ok (.ldc 48, 2) := by decide +kernel
theorem d_Va_greatestOfTargets_89 : decode prog_8_method_10_code 89 = .ok (.goto (13), 3) := by decide +kernel
theorem d_Va_greatestOfTargets_92 : decode prog_8_method_10_code 92 = .ok (.iload 7, 2) := by decide +kernel
theorem d_Va_greatestOfTargets_94 : decode prog_8_method_10_code 94 = .ok (.aload_n 0, 1) := by decide +kernel
theorem d_Va_greatestOfTargets_95 : decode prog_8_method_10_code 95 = .ok (.iload_n 1, 1) := by decide +kernel
theorem d_Va_greatestOfTargets_96 : decode prog_8_method_10_code 96 = .ok (.iload_n 2, 1) := by decide +kernel
theorem d_Va_greatestOfTargets_97 : decode prog_8_method_10_code 97 = .ok (.iload_n 3, 1) := by decide +kernel
theorem d_Va_greatestOfTargets_98 : decode prog_8_method_10_code 98 = .ok (.invokevirtual 53, 3) := by decide +kernel
theorem d_Va_greatestOfTargets_101 : decode prog_8_method_10_code 101 = .ok (.iadd, 1) := by decide +kernel
theorem d_Va_greatestOfTargets_102 : decode prog_8_method_10_code 102 = .ok (.ireturn, 1) := by decide +kernel
theorem d_Va_throughSplit_0 : decode prog_8_method_11_code 0 = .ok (.aload_n 0, 1) := by decide +kernel
theorem d_Va_throughSplit_1 : decode prog_8_method_11_code 1 = .ok (.aload_n 0, 1) := by decide +kernel
theorem d_Va_throughSplit_2 : decode prog_8_method_11_code 2 = .ok (.getfield 15, 3) := by decide +kernel
theorem d_Va_throughSplit_5 : decode prog_8_method_11_code 5 = .ok (.iload_n 1, 1) := by decide +kernel
theorem d_Va_throughSplit_6 : decode prog_8_method_11_code 6 = .ok (.iconst 0, 1) := by decide +kernel
theorem d_Va_throughSplit_7 : decode prog_8_method_11_code 7 = .ok (.invokevirtual 84, 3) := by decide +kernel
theorem d_Va_throughSplit_10 : decode prog_8_method_11_code 10 = .ok (.iload_n 3, 1) := by decide +kernel
theorem d_Va_throughSplit_11 : decode prog_8_method_11_code 11 = .ok (.iload_n 2, 1) := by decide +kernel
theorem d_Va_throughSplit_12 : decode prog_8_method_11_code 12 = .ok (.invokevirtual 45, 3) := by decide +kernel
theorem d_Va_throughSplit_15 : decode prog_8_method_11_code 15 = .ok (.istore 5, 2) := by decide +kernel
theorem d_Va_throughSplit_17 : decode prog_8_method_11_code 17 = .ok (.aload_n 0, 1) := by decide +kernel
theorem d_Va_throughSplit_18 : decode prog_8_method_11_code 18 = .ok (.aload_n 0, 1) := by decide +kernel
theorem d_Va_throughSplit_19 : decode prog_8_method_11_code 19 = .ok (.getfield 15, 3) := by decide +kernel
theorem d_Va_throughSplit_22 : decode prog_8_method_11_code 22 = .ok (.iload_n 1, 1) := by decide +kernel
theorem d_Va_throughSplit_23 : decode prog_8_method_11_code 23 = .ok (.iconst 1, 1) := by decide +kernel
theorem d_Va_throughSplit_24 : decode prog_8_method_11_code 24 = .ok (.invokevirtual 84, 3) := by decide +kernel
theorem d_Va_throughSplit_27 : decode prog_8_method_11_code 27 = .ok (.iload_n 3, 1) := by decide +kernel
theorem d_Va_throughSplit_28 : decode prog_8_method_11_code 28 = .ok (.iload_n 2, 1) := by decide +kernel
theorem d_Va_throughSplit_29 : decode prog_8_method_11_code 29 = .ok (.iadd, 1) := by decide +kernel
theorem d_Va_throughSplit_30 : decode prog_8_method_11_code 30 = .ok (.iload 4, 2) := by decide +kernel
theorem d_Va_throughSplit_32 : decode prog_8_method_11_code 32 = .ok (.iload_n 2, 1) := by decide +kernel
theorem d_Va_throughSplit_33 : decode prog_8_method_11_code 33 = .ok (.isub, 1) := by decide +kernel
theorem d_Va_throughSplit_34 : decode prog_8_method_11_code 34 = .ok (.invokevirtual 45, 3) := by decide +kernel
theorem d_Va_throughSplit_37 : decode prog_8_method_11_code 37 = .ok (.istore 6, 2) := by decide +kernel
theorem d_Va_throughSplit_39 : decode prog_8_method_11_code 39 = .ok (.iload 5, 2) := by decide +kernel
theorem d_Va_throughSplit_41 : decode prog_8_method_11_code 41 = .ok (.ldc 48, 2) := by decide +kernel
theorem d_Va_throughSplit_43 : decode prog_8_method_11_code 43 = .ok (.if_icmp .eq (10), 3) := by decide +kernel
theorem d_Va_throughSplit_46 : decode prog_8_method_11_code 46 = .ok (.iload 6, 2) := by decide +kernel
theorem d_Va_throughSplit_48 : decode prog_8_method_11_code 48 = .ok (.ldc 48, 2) := by decide +kernel
theorem d_Va_throughSplit_50 : decode prog_8_method_11_code 50 = .ok (.if_icmp .ne (8), 3) := by decide +kernel
theorem d_Va_throughSplit_53 : decode prog_8_method_11_code 53 = .ok (.ldc 48, 2) := by decide +kernel
theorem d_Va_throughSplit_55 : decode prog_8_method_11_code 55 = .ok (.goto (8), 3) := by decide +kernel
theorem d_Va_throughSplit_58 : decode prog_8_method_11_code 58 = .ok (.iload 5, 2) := by decide +kernel
theorem d_Va_throughSplit_60 : decode prog_8_method_11_code 60 = .ok (.iload 6, 2) := by decide +kernel
theorem d_Va_throughSplit_62 : decode prog_8_method_11_code 62 = .ok (.iadd, 1) := by decide +kernel
theorem d_Va_throughSplit_63 : decode prog_8_method_11_code 63 = .ok (.ireturn, 1) := by decide +kernel
theorem d_Va_greatestOfSplits_0 : decode prog_8_method_9_code 0 = .ok (.ldc 48, 2) := by decide +kernel
theorem d_Va_greatestOfSplits_2 : decode prog_8_method_9_code 2 = .ok (.istore 4, 2) := by decide +kernel
theorem d_Va_greatestOfSplits_4 : decode prog_8_method_9_code 4 = .ok (.iconst 0, 1) := by decide +kernel
theorem d_Va_greatestOfSplits_5 : decode prog_8_method_9_code 5 = .ok (.istore 5, 2) := by decide +kernel
theorem d_Va_greatestOfSplits_7 : decode prog_8_method_9_code 7 = .ok (.iload 5, 2) := by decide +kernel
theorem d_Va_greatestOfSplits_9 : decode prog_8_method_9_code 9 = .ok (.iload_n 3, 1) := by decide +kernel
theorem d_Va_greatestOfSplits_10 : decode prog_8_method_9_code 10 = .ok (.if_icmp .gt (25), 3) := by decide +kernel
theorem d_Va_greatestOfSplits_13 : decode prog_8_method_9_code 13 = .ok (.iload 4, 2) := by decide +kernel
theorem d_Va_greatestOfSplits_15 : decode prog_8_method_9_code 15 = .ok (.aload_n 0, 1) := by decide +kernel
theorem d_Va_greatestOfSplits_16 : decode prog_8_method_9_code 16 = .ok (.iload_n 1, 1) := by decide +kernel
theorem d_Va_greatestOfSplits_17 : decode prog_8_method_9_code 17 = .ok (.iload 5, 2) := by decide +kernel
theorem d_Va_greatestOfSplits_19 : decode prog_8_method_9_code 19 = .ok (.iload_n 2, 1) := by decide +kernel
theorem d_Va_greatestOfSplits_20 : decode prog_8_method_9_code 20 = .ok (.iload_n 3, 1) := by decide +kernel
theorem d_Va_greatestOfSplits_21 : decode prog_8_method_9_code 21 = .ok (.invokevirtual 69, 3) := by decide +kernel
theorem d_Va_greatestOfSplits_24 : decode prog_8_method_9_code 24 = .ok (.invokestatic 78, 3) := by decide +kernel
theorem d_Va_greatestOfSplits_27 : decode prog_8_method_9_code 27 = .ok (.istore 4, 2) := by decide +kernel
theorem d_Va_greatestOfSplits_29 : decode prog_8_method_9_code 29 = .ok (.iinc 5 (1), 3) := by decide +kernel
theorem d_Va_greatestOfSplits_32 : decode prog_8_method_9_code 32 = .ok (.goto (-25), 3) := by decide +kernel
theorem d_Va_greatestOfSplits_35 : decode prog_8_method_9_code 35 = .ok (.iload 4, 2) := by decide +kernel
theorem d_Va_greatestOfSplits_37 : decode prog_8_method_9_code 37 = .ok (.ireturn, 1) := by decide +kernel
theorem d_Va_reckon_0 : decode prog_8_method_8_code 0 = .ok (.aload_n 0, 1) := by decide +kernel
theorem d_Va_reckon_1 : decode prog_8_method_8_code 1 = .ok (.getfield 15, 3) := by decide +kernel
theorem d_Va_reckon_4 : decode prog_8_method_8_code 4 = .ok (.iload_n 1, 1) := by decide +kernel
theorem d_Va_reckon_5 : decode prog_8_method_8_code 5 = .ok (.invokevirtual 49, 3) := by decide +kernel
theorem d_Va_reckon_8 : decode prog_8_method_8_code 8 = .ok (.lookupswitch (47) #[(7, 39), (8, 28)], 28) := by decide +kernel
theorem d_Va_reckon_36 : decode prog_8_method_8_code 36 = .ok (.iload_n 3, 1) := by decide +kernel
theorem d_Va_reckon_37 : decode prog_8_method_8_code 37 = .ok (.ifCond .ne (7), 3) := by decide +kernel
theorem d_Va_reckon_40 : decode prog_8_method_8_code 40 = .ok (.iconst 0, 1) := by decide +kernel
theorem d_Va_reckon_41 : decode prog_8_method_8_code 41 = .ok (.goto (5), 3) := by decide +kernel
theorem d_Va_reckon_44 : decode prog_8_method_8_code 44 = .ok (.ldc 48, 2) := by decide +kernel
theorem d_Va_reckon_46 : decode prog_8_method_8_code 46 = .ok (.ireturn, 1) := by decide +kernel
theorem d_Va_reckon_47 : decode prog_8_method_8_code 47 = .ok (.aload_n 0, 1) := by decide +kernel
theorem d_Va_reckon_48 : decode prog_8_method_8_code 48 = .ok (.iload_n 1, 1) := by decide +kernel
theorem d_Va_reckon_49 : decode prog_8_method_8_code 49 = .ok (.iload_n 2, 1) := by decide +kernel
theorem d_Va_reckon_50 : decode prog_8_method_8_code 50 = .ok (.iload_n 3, 1) := by decide +kernel
theorem d_Va_reckon_51 : decode prog_8_method_8_code 51 = .ok (.invokevirtual 72, 3) := by decide +kernel
theorem d_Va_reckon_54 : decode prog_8_method_8_code 54 = .ok (.ireturn, 1) := by decide +kernel
theorem d_Va_reckon_55 : decode prog_8_method_8_code 55 = .ok (.aload_n 0, 1) := by decide +kernel
theorem d_Va_reckon_56 : decode prog_8_method_8_code 56 = .ok (.iload_n 1, 1) := by decide +kernel
theorem d_Va_reckon_57 : decode prog_8_method_8_code 57 = .ok (.iload_n 2, 1) := by decide +kernel
theorem d_Va_reckon_58 : decode prog_8_method_8_code 58 = .ok (.iload_n 3, 1) := by decide +kernel
theorem d_Va_reckon_59 : decode prog_8_method_8_code 59 = .ok (.invokevirtual 75, 3) := by decide +kernel
theorem d_Va_reckon_62 : decode prog_8_method_8_code 62 = .ok (.ireturn, 1) := by decide +kernel
theorem d_Va_catchUp_0 : decode prog_8_method_4_code 0 = .ok (.aload_n 0, 1) := by decide +kernel
theorem d_Va_catchUp_1 : decode prog_8_method_4_code 1 = .ok (.getfield 23, 3) := by decide +kernel
theorem d_Va_catchUp_4 : decode prog_8_method_4_code 4 = .ok (.istore_n 1, 1) := by decide +kernel
theorem d_Va_catchUp_5 : decode prog_8_method_4_code 5 = .ok (.iload_n 1, 1) := by decide +kernel
theorem d_Va_catchUp_6 : decode prog_8_method_4_code 6 = .ok (.aload_n 0, 1) := by decide +kernel
theorem d_Va_catchUp_7 : decode prog_8_method_4_code 7 = .ok (.getfield 19, 3) := by decide +kernel
theorem d_Va_catchUp_10 : decode prog_8_method_4_code 10 = .ok (.invokevirtual 27, 3) := by decide +kernel
theorem d_Va_catchUp_13 : decode prog_8_method_4_code 13 = .ok (.if_icmp .gt (70), 3) := by decide +kernel
theorem d_Va_catchUp_16 : decode prog_8_method_4_code 16 = .ok (.iconst 0, 1) := by decide +kernel
theorem d_Va_catchUp_17 : decode prog_8_method_4_code 17 = .ok (.istore_n 2, 1) := by decide +kernel
theorem d_Va_catchUp_18 : decode prog_8_method_4_code 18 = .ok (.iload_n 2, 1) := by decide +kernel
theorem d_Va_catchUp_19 : decode prog_8_method_4_code 19 = .ok (.bipush (12), 2) := by decide +kernel
theorem d_Va_catchUp_21 : decode prog_8_method_4_code 21 = .ok (.if_icmp .gt (56), 3) := by decide +kernel
theorem d_Va_catchUp_24 : decode prog_8_method_4_code 24 = .ok (.iload_n 2, 1) := by decide +kernel
theorem d_Va_catchUp_25 : decode prog_8_method_4_code 25 = .ok (.iload_n 1, 1) := by decide +kernel
theorem d_Va_catchUp_26 : decode prog_8_method_4_code 26 = .ok (.if_icmp .gt (51), 3) := by decide +kernel
theorem d_Va_catchUp_29 : decode prog_8_method_4_code 29 = .ok (.aload_n 0, 1) := by decide +kernel
theorem d_Va_catchUp_30 : decode prog_8_method_4_code 30 = .ok (.getfield 15, 3) := by decide +kernel
theorem d_Va_catchUp_33 : decode prog_8_method_4_code 33 = .ok (.invokevirtual 33, 3) := by decide +kernel
theorem d_Va_catchUp_36 : decode prog_8_method_4_code 36 = .ok (.iconst 1, 1) := by decide +kernel
theorem d_Va_catchUp_37 : decode prog_8_method_4_code 37 = .ok (.isub, 1) := by decide +kernel
theorem d_Va_catchUp_38 : decode prog_8_method_4_code 38 = .ok (.istore_n 3, 1) := by decide +kernel
theorem d_Va_catchUp_39 : decode prog_8_method_4_code 39 = .ok (.iload_n 3, 1) := by decide +kernel
theorem d_Va_catchUp_40 : decode prog_8_method_4_code 40 = .ok (.ifCond .lt (31), 3) := by decide +kernel
theorem d_Va_catchUp_43 : decode prog_8_method_4_code 43 = .ok (.aload_n 0, 1) := by decide +kernel
theorem d_Va_catchUp_44 : decode prog_8_method_4_code 44 = .ok (.getfield 9, 3) := by decide +kernel
theorem d_Va_catchUp_47 : decode prog_8_method_4_code 47 = .ok (.iload_n 3, 1) := by decide +kernel
theorem d_Va_catchUp_48 : decode prog_8_method_4_code 48 = .ok (.iload_n 1, 1) := by decide +kernel
theorem d_Va_catchUp_49 : decode prog_8_method_4_code 49 = .ok (.iload_n 2, 1) := by decide +kernel
theorem d_Va_catchUp_50 : decode prog_8_method_4_code 50 = .ok (.isub, 1) := by decide +kernel
theorem d_Va_catchUp_51 : decode prog_8_method_4_code 51 = .ok (.iload_n 2, 1) := by decide +kernel
theorem d_Va_catchUp_52 : decode prog_8_method_4_code 52 = .ok (.invokestatic 38, 3) := by decide +kernel
theorem d_Va_catchUp_55 : decode prog_8_method_4_code 55 = .ok (.aload_n 0, 1) := by decide +kernel
theorem d_Va_catchUp_56 : decode prog_8_method_4_code 56 = .ok (.iload_n 3, 1) := by decide +kernel
theorem d_Va_catchUp_57 : decode prog_8_method_4_code 57 = .ok (.iload_n 1, 1) := by decide +kernel
theorem d_Va_catchUp_58 : decode prog_8_method_4_code 58 = .ok (.iload_n 2, 1) := by decide +kernel
theorem d_Va_catchUp_59 : decode prog_8_method_4_code 59 = .ok (.isub, 1) := by decide +kernel
theorem d_Va_catchUp_60 : decode prog_8_method_4_code 60 = .ok (.iload_n 2, 1) := by decide +kernel
theorem d_Va_catchUp_61 : decode prog_8_method_4_code 61 = .ok (.invokevirtual 42, 3) := by decide +kernel
theorem d_Va_catchUp_64 : decode prog_8_method_4_code 64 = .ok (.iastore, 1) := by decide +kernel
theorem d_Va_catchUp_65 : decode prog_8_method_4_code 65 = .ok (.iinc 3 (-1), 3) := by decide +kernel
theorem d_Va_catchUp_68 : decode prog_8_method_4_code 68 = .ok (.goto (-29), 3) := by decide +kernel
theorem d_Va_catchUp_71 : decode prog_8_method_4_code 71 = .ok (.iinc 2 (1), 3) := by decide +kernel
theorem d_Va_catchUp_74 : decode prog_8_method_4_code 74 = .ok (.goto (-56), 3) := by decide +kernel
theorem d_Va_catchUp_77 : decode prog_8_method_4_code 77 = .ok (.iinc 1 (1), 3) := by decide +kernel
theorem d_Va_catchUp_80 : decode prog_8_method_4_code 80 = .ok (.goto (-75), 3) := by decide +kernel
theorem d_Va_catchUp_83 : decode prog_8_method_4_code 83 = .ok (.aload_n 0, 1) := by decide +kernel
theorem d_Va_catchUp_84 : decode prog_8_method_4_code 84 = .ok (.aload_n 0, 1) := by decide +kernel
theorem d_Va_catchUp_85 : decode prog_8_method_4_code 85 = .ok (.getfield 19, 3) := by decide +kernel
theorem d_Va_catchUp_88 : decode prog_8_method_4_code 88 = .ok (.invokevirtual 27, 3) := by decide +kernel
theorem d_Va_catchUp_91 : decode prog_8_method_4_code 91 = .ok (.iconst 1, 1) := by decide +kernel
theorem d_Va_catchUp_92 : decode prog_8_method_4_code 92 = .ok (.iadd, 1) := by decide +kernel
theorem d_Va_catchUp_93 : decode prog_8_method_4_code 93 = .ok (.putfield 23, 3) := by decide +kernel
theorem d_Va_catchUp_96 : decode prog_8_method_4_code 96 = .ok (.return_, 1) := by decide +kernel
theorem d_Fa_value_0 : decode prog_1_method_12_code 0 = .ok (.aload_n 0, 1) := by decide +kernel
theorem d_Fa_value_1 : decode prog_1_method_12_code 1 = .ok (.getfield 44, 3) := by decide +kernel
theorem d_Fa_value_4 : decode prog_1_method_12_code 4 = .ok (.iload_n 1, 1) := by decide +kernel
theorem d_Fa_value_5 : decode prog_1_method_12_code 5 = .ok (.invokevirtual 111, 3) := by decide +kernel
theorem d_Fa_value_8 : decode prog_1_method_12_code 8 = .ok (.ifCond .eq (21), 3) := by decide +kernel
theorem d_Fa_value_11 : decode prog_1_method_12_code 11 = .ok (.iload_n 3, 1) := by decide +kernel
theorem d_Fa_value_12 : decode prog_1_method_12_code 12 = .ok (.bipush (12), 2) := by decide +kernel
theorem d_Fa_value_14 : decode prog_1_method_12_code 14 = .ok (.if_icmp .gt (15), 3) := by decide +kernel
theorem d_Fa_value_17 : decode prog_1_method_12_code 17 = .ok (.aload_n 0, 1) := by decide +kernel
theorem d_Fa_value_18 : decode prog_1_method_12_code 18 = .ok (.getfield 48, 3) := by decide +kernel
theorem d_Fa_value_21 : decode prog_1_method_12_code 21 = .ok (.iload_n 2, 1) := by decide +kernel
theorem d_Fa_value_22 : decode prog_1_method_12_code 22 = .ok (.iload_n 3, 1) := by decide +kernel
theorem d_Fa_value_23 : decode prog_1_method_12_code 23 = .ok (.invokevirtual 155, 3) := by decide +kernel
theorem d_Fa_value_26 : decode prog_1_method_12_code 26 = .ok (.ifCond .ne (6), 3) := by decide +kernel
theorem d_Fa_value_29 : decode prog_1_method_12_code 29 = .ok (.ldc 96, 2) := by decide +kernel
theorem d_Fa_value_31 : decode prog_1_method_12_code 31 = .ok (.ireturn, 1) := by decide +kernel
theorem d_Fa_value_32 : decode prog_1_method_12_code 32 = .ok (.aload_n 0, 1) := by decide +kernel
theorem d_Fa_value_33 : decode prog_1_method_12_code 33 = .ok (.getfield 57, 3) := by decide +kernel
theorem d_Fa_value_36 : decode prog_1_method_12_code 36 = .ok (.invokevirtual 158, 3) := by decide +kernel
theorem d_Fa_value_39 : decode prog_1_method_12_code 39 = .ok (.aload_n 0, 1) := by decide +kernel
theorem d_Fa_value_40 : decode prog_1_method_12_code 40 = .ok (.getfield 57, 3) := by decide +kernel
theorem d_Fa_value_43 : decode prog_1_method_12_code 43 = .ok (.iload_n 1, 1) := by decide +kernel
theorem d_Fa_value_44 : decode prog_1_method_12_code 44 = .ok (.iload_n 2, 1) := by decide +kernel
theorem d_Fa_value_45 : decode prog_1_method_12_code 45 = .ok (.iload_n 3, 1) := by decide +kernel
theorem d_Fa_value_46 : decode prog_1_method_12_code 46 = .ok (.invokevirtual 161, 3) := by decide +kernel
theorem d_Fa_value_49 : decode prog_1_method_12_code 49 = .ok (.ireturn, 1) := by decide +kernel
theorem d_Hi_freeEnd_0 : decode prog_5_method_10_code 0 = .ok (.iload_n 1, 1) := by decide +kernel
theorem d_Hi_freeEnd_1 : decode prog_5_method_10_code 1 = .ok (.istore_n 3, 1) := by decide +kernel
theorem d_Hi_freeEnd_2 : decode prog_5_method_10_code 2 = .ok (.iload_n 3, 1) := by decide +kernel
theorem d_Hi_freeEnd_3 : decode prog_5_method_10_code 3 = .ok (.iload_n 2, 1) := by decide +kernel
theorem d_Hi_freeEnd_4 : decode prog_5_method_10_code 4 = .ok (.if_icmp .ge (18), 3) := by decide +kernel
theorem d_Hi_freeEnd_7 : decode prog_5_method_10_code 7 = .ok (.aload_n 0, 1) := by decide +kernel
theorem d_Hi_freeEnd_8 : decode prog_5_method_10_code 8 = .ok (.getfield 21, 3) := by decide +kernel
theorem d_Hi_freeEnd_11 : decode prog_5_method_10_code 11 = .ok (.iload_n 3, 1) := by decide +kernel
theorem d_Hi_freeEnd_12 : decode prog_5_method_10_code 12 = .ok (.baload, 1) := by decide +kernel
theorem d_Hi_freeEnd_13 : decode prog_5_method_10_code 13 = .ok (.ifCond .ne (9), 3) := by decide +kernel
theorem d_Hi_freeEnd_16 : decode prog_5_method_10_code 16 = .ok (.iinc 3 (1), 3) := by decide +kernel
theorem d_Hi_freeEnd_19 : decode prog_5_method_10_code 19 = .ok (.goto (-17), 3) := by decide +kernel
theorem d_Hi_freeEnd_22 : decode prog_5_method_10_code 22 = .ok (.iload_n 3, 1) := by decide +kernel
theorem d_Hi_freeEnd_23 : decode prog_5_method_10_code 23 = .ok (.ireturn, 1) := by decide +kernel
theorem d_Hi_note_0 : decode prog_5_method_11_code 0 = .ok (.aload_n 0, 1) := by decide +kernel
theorem d_Hi_note_1 : decode prog_5_method_11_code 1 = .ok (.getfield 9, 3) := by decide +kernel
theorem d_Hi_note_4 : decode prog_5_method_11_code 4 = .ok (.aload_n 0, 1) := by decide +kernel
theorem d_Hi_note_5 : decode prog_5_method_11_code 5 = .ok (.getfield 25, 3) := by decide +kernel
theorem d_Hi_note_8 : decode prog_5_method_11_code 8 = .ok (.iload_n 1, 1) := by decide +kernel
theorem d_Hi_note_9 : decode prog_5_method_11_code 9 = .ok (.iastore, 1) := by decide +kernel
theorem d_Hi_note_10 : decode prog_5_method_11_code 10 = .ok (.aload_n 0, 1) := by decide +kernel
theorem d_Hi_note_11 : decode prog_5_method_11_code 11 = .ok (.getfield 15, 3) := by decide +kernel
theorem d_Hi_note_14 : decode prog_5_method_11_code 14 = .ok (.aload_n 0, 1) := by decide +kernel
theorem d_Hi_note_15 : decode prog_5_method_11_code 15 = .ok (.getfield 25, 3) := by decide +kernel
theorem d_Hi_note_18 : decode prog_5_method_11_code 18 = .ok (.iload_n 2, 1) := by decide +kernel
theorem d_Hi_note_19 : decode prog_5_method_11_code 19 = .ok (.iastore, 1) := by decide +kernel
theorem d_Hi_note_20 : decode prog_5_method_11_code 20 = .ok (.aload_n 0, 1) := by decide +kernel
theorem d_Hi_note_21 : decode prog_5_method_11_code 21 = .ok (.getfield 18, 3) := by decide +kernel
theorem d_Hi_note_24 : decode prog_5_method_11_code 24 = .ok (.aload_n 0, 1) := by decide +kernel
theorem d_Hi_note_25 : decode prog_5_method_11_code 25 = .ok (.getfield 25, 3) := by decide +kernel
theorem d_Hi_note_28 : decode prog_5_method_11_code 28 = .ok (.iload_n 3, 1) := by decide +kernel
theorem d_Hi_note_29 : decode prog_5_method_11_code 29 = .ok (.iastore, 1) := by decide +kernel
theorem d_Hi_note_30 : decode prog_5_method_11_code 30 = .ok (.return_, 1) := by decide +kernel
theorem d_Hi_takeNoted_0 : decode prog_5_method_12_code 0 = .ok (.iconst 0, 1) := by decide +kernel
theorem d_Hi_takeNoted_1 : decode prog_5_method_12_code 1 = .ok (.istore_n 1, 1) := by decide +kernel
theorem d_Hi_takeNoted_2 : decode prog_5_method_12_code 2 = .ok (.iload_n 1, 1) := by decide +kernel
theorem d_Hi_takeNoted_3 : decode prog_5_method_12_code 3 = .ok (.aload_n 0, 1) := by decide +kernel
theorem d_Hi_takeNoted_4 : decode prog_5_method_12_code 4 = .ok (.getfield 15, 3) := by decide +kernel
theorem d_Hi_takeNoted_7 : decode prog_5_method_12_code 7 = .ok (.aload_n 0, 1) := by decide +kernel
theorem d_Hi_takeNoted_8 : decode prog_5_method_12_code 8 = .ok (.getfield 25, 3) := by decide +kernel
theorem d_Hi_takeNoted_11 : decode prog_5_method_12_code 11 = .ok (.iaload, 1) := by decide +kernel
theorem d_Hi_takeNoted_12 : decode prog_5_method_12_code 12 = .ok (.if_icmp .ge (26), 3) := by decide +kernel
theorem d_Hi_takeNoted_15 : decode prog_5_method_12_code 15 = .ok (.aload_n 0, 1) := by decide +kernel
theorem d_Hi_takeNoted_16 : decode prog_5_method_12_code 16 = .ok (.getfield 21, 3) := by decide +kernel
theorem d_Hi_takeNoted_19 : decode prog_5_method_12_code 19 = .ok (.aload_n 0, 1) := by decide +kernel
theorem d_Hi_takeNoted_20 : decode prog_5_method_12_code 20 = .ok (.getfield 9, 3) := by decide +kernel
theorem d_Hi_takeNoted_23 : decode prog_5_method_12_code 23 = .ok (.aload_n 0, 1) := by decide +kernel
theorem d_Hi_takeNoted_24 : decode prog_5_method_12_code 24 = .ok (.getfield 25, 3) := by decide +kernel
theorem d_Hi_takeNoted_27 : decode prog_5_method_12_code 27 = .ok (.iaload, 1) := by decide +kernel
theorem d_Hi_takeNoted_28 : decode prog_5_method_12_code 28 = .ok (.iload_n 1, 1) := by decide +kernel
theorem d_Hi_takeNoted_29 : decode prog_5_method_12_code 29 = .ok (.iadd, 1) := by decide +kernel
theorem d_Hi_takeNoted_30 : decode prog_5_method_12_code 30 = .ok (.iconst 1, 1) := by decide +kernel
theorem d_Hi_takeNoted_31 : decode prog_5_method_12_code 31 = .ok (.bastore, 1) := by decide +kernel
theorem d_Hi_takeNoted_32 : decode prog_5_method_12_code 32 = .ok (.iinc 1 (1), 3) := by decide +kernel
theorem d_Hi_takeNoted_35 : decode prog_5_method_12_code 35 = .ok (.goto (-33), 3) := by decide +kernel
theorem d_Hi_takeNoted_38 : decode prog_5_method_12_code 38 = .ok (.aload_n 0, 1) := by decide +kernel
theorem d_Hi_takeNoted_39 : decode prog_5_method_12_code 39 = .ok (.dup, 1) := by decide +kernel
theorem d_Hi_takeNoted_40 : decode prog_5_method_12_code 40 = .ok (.getfield 25, 3) := by decide +kernel
theorem d_Hi_takeNoted_43 : decode prog_5_method_12_code 43 = .ok (.iconst 1, 1) := by decide +kernel
theorem d_Hi_takeNoted_44 : decode prog_5_method_12_code 44 = .ok (.iadd, 1) := by decide +kernel
theorem d_Hi_takeNoted_45 : decode prog_5_method_12_code 45 = .ok (.putfield 25, 3) := by decide +kernel
theorem d_Hi_takeNoted_48 : decode prog_5_method_12_code 48 = .ok (.return_, 1) := by decide +kernel
theorem d_Hi_findNext_0 : decode prog_5_method_9_code 0 = .ok (.iconst 0, 1) := by decide +kernel
theorem d_Hi_findNext_1 : decode prog_5_method_9_code 1 = .ok (.istore 5, 2) := by decide +kernel
theorem d_Hi_findNext_3 : decode prog_5_method_9_code 3 = .ok (.iconst 0, 1) := by decide +kernel
theorem d_Hi_findNext_4 : decode prog_5_method_9_code 4 = .ok (.istore 6, 2) := by decide +kernel
theorem d_Hi_findNext_6 : decode prog_5_method_9_code 6 = .ok (.iload 6, 2) := by decide +kernel
theorem d_Hi_findNext_8 : decode prog_5_method_9_code 8 = .ok (.iload_n 2, 1) := by decide +kernel
theorem d_Hi_findNext_9 : decode prog_5_method_9_code 9 = .ok (.if_icmp .ge (101), 3) := by decide +kernel
theorem d_Hi_findNext_12 : decode prog_5_method_9_code 12 = .ok (.aload_n 0, 1) := by decide +kernel
theorem d_Hi_findNext_13 : decode prog_5_method_9_code 13 = .ok (.iload 6, 2) := by decide +kernel
theorem d_Hi_findNext_15 : decode prog_5_method_9_code 15 = .ok (.iload_n 2, 1) := by decide +kernel
theorem d_Hi_findNext_16 : decode prog_5_method_9_code 16 = .ok (.iload 6, 2) := by decide +kernel
theorem d_Hi_findNext_18 : decode prog_5_method_9_code 18 = .ok (.iload_n 3, 1) := by decide +kernel
theorem d_Hi_findNext_19 : decode prog_5_method_9_code 19 = .ok (.iadd, 1) := by decide +kernel
theorem d_Hi_findNext_20 : decode prog_5_method_9_code 20 = .ok (.invokestatic 33, 3) := by decide +kernel
theorem d_Hi_findNext_23 : decode prog_5_method_9_code 23 = .ok (.invokevirtual 39, 3) := by decide +kernel
theorem d_Hi_findNext_26 : decode prog_5_method_9_code 26 = .ok (.istore 7, 2) := by decide +kernel
theorem d_Hi_findNext_28 : decode prog_5_method_9_code 28 = .ok (.iconst 1, 1) := by decide +kernel
theorem d_Hi_findNext_29 : decode prog_5_method_9_code 29 = .ok (.istore 8, 2) := by decide +kernel
theorem d_Hi_findNext_31 : decode prog_5_method_9_code 31 = .ok (.iload 8, 2) := by decide +kernel
theorem d_Hi_findNext_33 : decode prog_5_method_9_code 33 = .ok (.iload 7, 2) := by decide +kernel
theorem d_Hi_findNext_35 : decode prog_5_method_9_code 35 = .ok (.iload 6, 2) := by decide +kernel
theorem d_Hi_findNext_37 : decode prog_5_method_9_code 37 = .ok (.isub, 1) := by decide +kernel
theorem d_Hi_findNext_38 : decode prog_5_method_9_code 38 = .ok (.if_icmp .gt (66), 3) := by decide +kernel
theorem d_Hi_findNext_41 : decode prog_5_method_9_code 41 = .ok (.aload_n 1, 1) := by decide +kernel
theorem d_Hi_findNext_42 : decode prog_5_method_9_code 42 = .ok (.iconst 0, 1) := by decide +kernel
theorem d_Hi_findNext_43 : decode prog_5_method_9_code 43 = .ok (.iload 6, 2) := by decide +kernel
theorem d_Hi_findNext_45 : decode prog_5_method_9_code 45 = .ok (.iload 8, 2) := by decide +kernel
theorem d_Hi_findNext_47 : decode prog_5_method_9_code 47 = .ok (.invokevirtual 42, 3) := by decide +kernel
theorem d_Hi_findNext_50 : decode prog_5_method_9_code 50 = .ok (.istore 9, 2) := by decide +kernel
theorem d_Hi_findNext_52 : decode prog_5_method_9_code 52 = .ok (.iload 9, 2) := by decide +kernel
theorem d_Hi_findNext_54 : decode prog_5_method_9_code 54 = .ok (.ldc 48, 2) := by decide +kernel
theorem d_Hi_findNext_56 : decode prog_5_method_9_code 56 = .ok (.if_icmp .eq (42), 3) := by decide +kernel
theorem d_Hi_findNext_59 : decode prog_5_method_9_code 59 = .ok (.iload 9, 2) := by decide +kernel
theorem d_Hi_findNext_61 : decode prog_5_method_9_code 61 = .ok (.iload 4, 2) := by decide +kernel
theorem d_Hi_findNext_63 : decode prog_5_method_9_code 63 = .ok (.if_icmp .lt (35), 3) := by decide +kernel
theorem d_Hi_findNext_66 : decode prog_5_method_9_code 66 = .ok (.iload 5, 2) := by decide +kernel
theorem d_Hi_findNext_68 : decode prog_5_method_9_code 68 = .ok (.ifCond .eq (17), 3) := by decide +kernel
theorem d_Hi_findNext_71 : decode prog_5_method_9_code 71 = .ok (.iload 9, 2) := by decide +kernel
theorem d_Hi_findNext_73 : decode prog_5_method_9_code 73 = .ok (.aload_n 0, 1) := by decide +kernel
theorem d_Hi_findNext_74 : decode prog_5_method_9_code 74 = .ok (.getfield 18, 3) := by decide +kernel
theorem d_Hi_findNext_77 : decode prog_5_method_9_code 77 = .ok (.aload_n 0, 1) := by decide +kernel
theorem d_Hi_findNext_78 : decode prog_5_method_9_code 78 = .ok (.getfield 25, 3) := by decide +kernel
theorem d_Hi_findNext_81 : decode prog_5_method_9_code 81 = .ok (.iaload, 1) := by decide +kernel
theorem d_Hi_findNext_82 : decode prog_5_method_9_code 82 = .ok (.if_icmp .le (16), 3) := by decide +kernel
theorem d_Hi_findNext_85 : decode prog_5_method_9_code 85 = .ok (.aload_n 0, 1) := by decide +kernel
theorem d_Hi_findNext_86 : decode prog_5_method_9_code 86 = .ok (.iload 6, 2) := by decide +kernel
theorem d_Hi_findNext_88 : decode prog_5_method_9_code 88 = .ok (.iload 8, 2) := by decide +kernel
theorem d_Hi_findNext_90 : decode prog_5_method_9_code 90 = .ok (.iload 9, 2) := by decide +kernel
theorem d_Hi_findNext_92 : decode prog_5_method_9_code 92 = .ok (.invokevirtual 49, 3) := by decide +kernel
theorem d_Hi_findNext_95 : decode prog_5_method_9_code 95 = .ok (.iconst 1, 1) := by decide +kernel
theorem d_Hi_findNext_96 : decode prog_5_method_9_code 96 = .ok (.istore 5, 2) := by decide +kernel
theorem d_Hi_findNext_98 : decode prog_5_method_9_code 98 = .ok (.iinc 8 (1), 3) := by decide +kernel
theorem d_Hi_findNext_101 : decode prog_5_method_9_code 101 = .ok (.goto (-70), 3) := by decide +kernel
theorem d_Hi_findNext_104 : decode prog_5_method_9_code 104 = .ok (.iinc 6 (1), 3) := by decide +kernel
theorem d_Hi_findNext_107 : decode prog_5_method_9_code 107 = .ok (.goto (-101), 3) := by decide +kernel
theorem d_Hi_findNext_110 : decode prog_5_method_9_code 110 = .ok (.iload 5, 2) := by decide +kernel
theorem d_Hi_findNext_112 : decode prog_5_method_9_code 112 = .ok (.ifCond .eq (7), 3) := by decide +kernel
theorem d_Hi_findNext_115 : decode prog_5_method_9_code 115 = .ok (.aload_n 0, 1) := by decide +kernel
theorem d_Hi_findNext_116 : decode prog_5_method_9_code 116 = .ok (.invokevirtual 53, 3) := by decide +kernel
theorem d_Hi_findNext_119 : decode prog_5_method_9_code 119 = .ok (.iload 5, 2) := by decide +kernel
theorem d_Hi_findNext_121 : decode prog_5_method_9_code 121 = .ok (.ireturn, 1) := by decide +kernel
theorem d_Hi_find_0 : decode prog_5_method_8_code 0 = .ok (.aload_n 0, 1) := by decide +kernel
theorem d_Hi_find_1 : decode prog_5_method_8_code 1 = .ok (.iconst 0, 1) := by decide +kernel
theorem d_Hi_find_2 : decode prog_5_method_8_code 2 = .ok (.putfield 25, 3) := by decide +kernel
theorem d_Hi_find_5 : decode prog_5_method_8_code 5 = .ok (.iconst 0, 1) := by decide +kernel
theorem d_Hi_find_6 : decode prog_5_method_8_code 6 = .ok (.istore 5, 2) := by decide +kernel
theorem d_Hi_find_8 : decode prog_5_method_8_code 8 = .ok (.iload 5, 2) := by decide +kernel
theorem d_Hi_find_10 : decode prog_5_method_8_code 10 = .ok (.bipush (24), 2) := by decide +kernel
theorem d_Hi_find_12 : decode prog_5_method_8_code 12 = .ok (.if_icmp .ge (17), 3) := by decide +kernel
theorem d_Hi_find_15 : decode prog_5_method_8_code 15 = .ok (.aload_n 0, 1) := by decide +kernel
theorem d_Hi_find_16 : decode prog_5_method_8_code 16 = .ok (.getfield 21, 3) := by decide +kernel
theorem d_Hi_find_19 : decode prog_5_method_8_code 19 = .ok (.iload 5, 2) := by decide +kernel
theorem d_Hi_find_21 : decode prog_5_method_8_code 21 = .ok (.iconst 0, 1) := by decide +kernel
theorem d_Hi_find_22 : decode prog_5_method_8_code 22 = .ok (.bastore, 1) := by decide +kernel
theorem d_Hi_find_23 : decode prog_5_method_8_code 23 = .ok (.iinc 5 (1), 3) := by decide +kernel
theorem d_Hi_find_26 : decode prog_5_method_8_code 26 = .ok (.goto (-18), 3) := by decide +kernel
theorem d_Hi_find_29 : decode prog_5_method_8_code 29 = .ok (.iconst 1, 1) := by decide +kernel
theorem d_Hi_find_30 : decode prog_5_method_8_code 30 = .ok (.istore 5, 2) := by decide +kernel
theorem d_Hi_find_32 : decode prog_5_method_8_code 32 = .ok (.iconst 0, 1) := by decide +kernel
theorem d_Hi_find_33 : decode prog_5_method_8_code 33 = .ok (.istore 6, 2) := by decide +kernel
theorem d_Hi_find_35 : decode prog_5_method_8_code 35 = .ok (.iload 6, 2) := by decide +kernel
theorem d_Hi_find_37 : decode prog_5_method_8_code 37 = .ok (.iload_n 2, 1) := by decide +kernel
theorem d_Hi_find_38 : decode prog_5_method_8_code 38 = .ok (.if_icmp .ge (25), 3) := by decide +kernel
theorem d_Hi_find_41 : decode prog_5_method_8_code 41 = .ok (.iload 5, 2) := by decide +kernel
theorem d_Hi_find_43 : decode prog_5_method_8_code 43 = .ok (.ifCond .eq (20), 3) := by decide +kernel
theorem d_Hi_find_46 : decode prog_5_method_8_code 46 = .ok (.aload_n 0, 1) := by decide +kernel
theorem d_Hi_find_47 : decode prog_5_method_8_code 47 = .ok (.aload_n 1, 1) := by decide +kernel
theorem d_Hi_find_48 : decode prog_5_method_8_code 48 = .ok (.iload_n 2, 1) := by decide +kernel
theorem d_Hi_find_49 : decode prog_5_method_8_code 49 = .ok (.iload_n 3, 1) := by decide +kernel
theorem d_Hi_find_50 : decode prog_5_method_8_code 50 = .ok (.iload 4, 2) := by decide +kernel
theorem d_Hi_find_52 : decode prog_5_method_8_code 52 = .ok (.invokevirtual 29, 3) := by decide +kernel
theorem d_Hi_find_55 : decode prog_5_method_8_code 55 = .ok (.istore 5, 2) := by decide +kernel
theorem d_Hi_find_57 : decode prog_5_method_8_code 57 = .ok (.iinc 6 (1), 3) := by decide +kernel
theorem d_Hi_find_60 : decode prog_5_method_8_code 60 = .ok (.goto (-25), 3) := by decide +kernel
theorem d_Hi_find_63 : decode prog_5_method_8_code 63 = .ok (.return_, 1) := by decide +kernel
theorem d_Hi_count_0 : decode prog_5_method_2_code 0 = .ok (.aload_n 0, 1) := by decide +kernel
theorem d_Hi_count_1 : decode prog_5_method_2_code 1 = .ok (.getfield 25, 3) := by decide +kernel
theorem d_Hi_count_4 : decode prog_5_method_2_code 4 = .ok (.ireturn, 1) := by decide +kernel
theorem d_Fa_scan_0 : decode prog_1_method_13_code 0 = .ok (.aload_n 0, 1) := by decide +kernel
theorem d_Fa_scan_1 : decode prog_1_method_13_code 1 = .ok (.getfield 44, 3) := by decide +kernel
theorem d_Fa_scan_4 : decode prog_1_method_13_code 4 = .ok (.invokevirtual 107, 3) := by decide +kernel
theorem d_Fa_scan_7 : decode prog_1_method_13_code 7 = .ok (.ifCond .eq (14), 3) := by decide +kernel
theorem d_Fa_scan_10 : decode prog_1_method_13_code 10 = .ok (.iload_n 1, 1) := by decide +kernel
theorem d_Fa_scan_11 : decode prog_1_method_13_code 11 = .ok (.iconst 1, 1) := by decide +kernel
theorem d_Fa_scan_12 : decode prog_1_method_13_code 12 = .ok (.if_icmp .lt (9), 3) := by decide +kernel
theorem d_Fa_scan_15 : decode prog_1_method_13_code 15 = .ok (.iload_n 1, 1) := by decide +kernel
theorem d_Fa_scan_16 : decode prog_1_method_13_code 16 = .ok (.bipush (12), 2) := by decide +kernel
theorem d_Fa_scan_18 : decode prog_1_method_13_code 18 = .ok (.if_icmp .le (6), 3) := by decide +kernel
theorem d_Fa_scan_21 : decode prog_1_method_13_code 21 = .ok (.ldc 96, 2) := by decide +kernel
theorem d_Fa_scan_23 : decode prog_1_method_13_code 23 = .ok (.ireturn, 1) := by decide +kernel
theorem d_Fa_scan_24 : decode prog_1_method_13_code 24 = .ok (.aload_n 0, 1) := by decide +kernel
theorem d_Fa_scan_25 : decode prog_1_method_13_code 25 = .ok (.getfield 57, 3) := by decide +kernel
theorem d_Fa_scan_28 : decode prog_1_method_13_code 28 = .ok (.invokevirtual 158, 3) := by decide +kernel
theorem d_Fa_scan_31 : decode prog_1_method_13_code 31 = .ok (.aload_n 0, 1) := by decide +kernel
theorem d_Fa_scan_32 : decode prog_1_method_13_code 32 = .ok (.getfield 64, 3) := by decide +kernel
theorem d_Fa_scan_35 : decode prog_1_method_13_code 35 = .ok (.aload_n 0, 1) := by decide +kernel
theorem d_Fa_scan_36 : decode prog_1_method_13_code 36 = .ok (.getfield 57, 3) := by decide +kernel
theorem d_Fa_scan_39 : decode prog_1_method_13_code 39 = .ok (.aload_n 0, 1) := by decide +kernel
theorem d_Fa_scan_40 : decode prog_1_method_13_code 40 = .ok (.getfield 48, 3) := by decide +kernel
theorem d_Fa_scan_43 : decode prog_1_method_13_code 43 = .ok (.invokevirtual 149, 3) := by decide +kernel
theorem d_Fa_scan_46 : decode prog_1_method_13_code 46 = .ok (.iload_n 1, 1) := by decide +kernel
theorem d_Fa_scan_47 : decode prog_1_method_13_code 47 = .ok (.iload_n 2, 1) := by decide +kernel
theorem d_Fa_scan_48 : decode prog_1_method_13_code 48 = .ok (.invokevirtual 164, 3) := by decide +kernel
theorem d_Fa_scan_51 : decode prog_1_method_13_code 51 = .ok (.aload_n 0, 1) := by decide +kernel
theorem d_Fa_scan_52 : decode prog_1_method_13_code 52 = .ok (.getfield 64, 3) := by decide +kernel
theorem d_Fa_scan_55 : decode prog_1_method_13_code 55 = .ok (.invokevirtual 168, 3) := by decide +kernel
theorem d_Fa_scan_58 : decode prog_1_method_13_code 58 = .ok (.ireturn, 1) := by decide +kernel
theorem d_Hi_has_0 : decode prog_5_method_4_code 0 = .ok (.iload_n 1, 1) := by decide +kernel
theorem d_Hi_has_1 : decode prog_5_method_4_code 1 = .ok (.ifCond .lt (15), 3) := by decide +kernel
theorem d_Hi_has_4 : decode prog_5_method_4_code 4 = .ok (.iload_n 1, 1) := by decide +kernel
theorem d_Hi_has_5 : decode prog_5_method_4_code 5 = .ok (.aload_n 0, 1) := by decide +kernel
theorem d_Hi_has_6 : decode prog_5_method_4_code 6 = .ok (.getfield 25, 3) := by decide +kernel
theorem d_Hi_has_9 : decode prog_5_method_4_code 9 = .ok (.if_icmp .ge (7), 3) := by decide +kernel
theorem d_Hi_has_12 : decode prog_5_method_4_code 12 = .ok (.iconst 1, 1) := by decide +kernel
theorem d_Hi_has_13 : decode prog_5_method_4_code 13 = .ok (.goto (4), 3) := by decide +kernel
theorem d_Hi_has_16 : decode prog_5_method_4_code 16 = .ok (.iconst 0, 1) := by decide +kernel
theorem d_Hi_has_17 : decode prog_5_method_4_code 17 = .ok (.ireturn, 1) := by decide +kernel
theorem d_Hi_begin_0 : decode prog_5_method_5_code 0 = .ok (.aload_n 0, 1) := by decide +kernel
theorem d_Hi_begin_1 : decode prog_5_method_5_code 1 = .ok (.getfield 9, 3) := by decide +kernel
theorem d_Hi_begin_4 : decode prog_5_method_5_code 4 = .ok (.iload_n 1, 1) := by decide +kernel
theorem d_Hi_begin_5 : decode prog_5_method_5_code 5 = .ok (.iaload, 1) := by decide +kernel
theorem d_Hi_begin_6 : decode prog_5_method_5_code 6 = .ok (.ireturn, 1) := by decide +kernel
theorem d_Hi_letters_0 : decode prog_5_method_6_code 0 = .ok (.aload_n 0, 1) := by decide +kernel
theorem d_Hi_letters_1 : decode prog_5_method_6_code 1 = .ok (.getfield 15, 3) := by decide +kernel
theorem d_Hi_letters_4 : decode prog_5_method_6_code 4 = .ok (.iload_n 1, 1) := by decide +kernel
theorem d_Hi_letters_5 : decode prog_5_method_6_code 5 = .ok (.iaload, 1) := by decide +kernel
theorem d_Hi_letters_6 : decode prog_5_method_6_code 6 = .ok (.ireturn, 1) := by decide +kernel
theorem d_Va_bestSplit_0 : decode prog_8_method_7_code 0 = .ok (.aload_n 0, 1) := by decide +kernel
theorem d_Va_bestSplit_1 : decode prog_8_method_7_code 1 = .ok (.iload_n 1, 1) := by decide +kernel
theorem d_Va_bestSplit_2 : decode prog_8_method_7_code 2 = .ok (.iload_n 2, 1) := by decide +kernel
theorem d_Va_bestSplit_3 : decode prog_8_method_7_code 3 = .ok (.iload_n 3, 1) := by decide +kernel
theorem d_Va_bestSplit_4 : decode prog_8_method_7_code 4 = .ok (.invokevirtual 45, 3) := by decide +kernel
theorem d_Va_bestSplit_7 : decode prog_8_method_7_code 7 = .ok (.istore 4, 2) := by decide +kernel
theorem d_Va_bestSplit_9 : decode prog_8_method_7_code 9 = .ok (.iconst 0, 1) := by decide +kernel
theorem d_Va_bestSplit_10 : decode prog_8_method_7_code 10 = .ok (.istore 5, 2) := by decide +kernel
theorem d_Va_bestSplit_12 : decode prog_8_method_7_code 12 = .ok (.iload 5, 2) := by decide +kernel
theorem d_Va_bestSplit_14 : decode prog_8_method_7_code 14 = .ok (.iload_n 3, 1) := by decide +kernel
theorem d_Va_bestSplit_15 : decode prog_8_method_7_code 15 = .ok (.if_icmp .gt (33), 3) := by decide +kernel
theorem d_Va_bestSplit_18 : decode prog_8_method_7_code 18 = .ok (.iload 4, 2) := by decide +kernel
theorem d_Va_bestSplit_20 : decode prog_8_method_7_code 20 = .ok (.ldc 48, 2) := by decide +kernel
theorem d_Va_bestSplit_22 : decode prog_8_method_7_code 22 = .ok (.if_icmp .eq (26), 3) := by decide +kernel
theorem d_Va_bestSplit_25 : decode prog_8_method_7_code 25 = .ok (.aload_n 0, 1) := by decide +kernel
theorem d_Va_bestSplit_26 : decode prog_8_method_7_code 26 = .ok (.iload_n 1, 1) := by decide +kernel
theorem d_Va_bestSplit_27 : decode prog_8_method_7_code 27 = .ok (.iload 5, 2) := by decide +kernel
theorem d_Va_bestSplit_29 : decode prog_8_method_7_code 29 = .ok (.iload_n 2, 1) := by decide +kernel
theorem d_Va_bestSplit_30 : decode prog_8_method_7_code 30 = .ok (.iload_n 3, 1) := by decide +kernel
theorem d_Va_bestSplit_31 : decode prog_8_method_7_code 31 = .ok (.invokevirtual 69, 3) := by decide +kernel
theorem d_Va_bestSplit_34 : decode prog_8_method_7_code 34 = .ok (.iload 4, 2) := by decide +kernel
theorem d_Va_bestSplit_36 : decode prog_8_method_7_code 36 = .ok (.if_icmp .ne (6), 3) := by decide +kernel
theorem d_Va_bestSplit_39 : decode prog_8_method_7_code 39 = .ok (.iload 5, 2) := by decide +kernel
theorem d_Va_bestSplit_41 : decode prog_8_method_7_code 41 = .ok (.ireturn, 1) := by decide +kernel
theorem d_Va_bestSplit_42 : decode prog_8_method_7_code 42 = .ok (.iinc 5 (1), 3) := by decide +kernel
theorem d_Va_bestSplit_45 : decode prog_8_method_7_code 45 = .ok (.goto (-33), 3) := by decide +kernel
theorem d_Va_bestSplit_48 : decode prog_8_method_7_code 48 = .ok (.ldc 48, 2) := by decide +kernel
theorem d_Va_bestSplit_50 : decode prog_8_method_7_code 50 = .ok (.ireturn, 1) := by decide +kernel
theorem d_Va_grammar_0 : decode prog_8_method_2_code 0 = .ok (.aload_n 0, 1) := by decide +kernel
theorem d_Va_grammar_1 : decode prog_8_method_2_code 1 = .ok (.getfield 15, 3) := by decide +kernel
theorem d_Va_grammar_4 : decode prog_8_method_2_code 4 = .ok (.areturn, 1) := by decide +kernel
theorem d_Va_bestTarget_0 : decode prog_8_method_6_code 0 = .ok (.aload_n 0, 1) := by decide +kernel
theorem d_Va_bestTarget_1 : decode prog_8_method_6_code 1 = .ok (.iload_n 1, 1) := by decide +kernel
theorem d_Va_bestTarget_2 : decode prog_8_method_6_code 2 = .ok (.iload_n 2, 1) := by decide +kernel
theorem d_Va_bestTarget_3 : decode prog_8_method_6_code 3 = .ok (.iload_n 3, 1) := by decide +kernel
theorem d_Va_bestTarget_4 : decode prog_8_method_6_code 4 = .ok (.invokevirtual 45, 3) := by decide +kernel
theorem d_Va_bestTarget_7 : decode prog_8_method_6_code 7 = .ok (.ldc 48, 2) := by decide +kernel
theorem d_Va_bestTarget_9 : decode prog_8_method_6_code 9 = .ok (.if_icmp .ne (6), 3) := by decide +kernel
theorem d_Va_bestTarget_12 : decode prog_8_method_6_code 12 = .ok (.ldc 48, 2) := by decide +kernel
theorem d_Va_bestTarget_14 : decode prog_8_method_6_code 14 = .ok (.ireturn, 1) := by decide +kernel
theorem d_Va_bestTarget_15 : decode prog_8_method_6_code 15 = .ok (.aload_n 0, 1) := by decide +kernel
theorem d_Va_bestTarget_16 : decode prog_8_method_6_code 16 = .ok (.getfield 15, 3) := by decide +kernel
theorem d_Va_bestTarget_19 : decode prog_8_method_6_code 19 = .ok (.iload_n 1, 1) := by decide +kernel
theorem d_Va_bestTarget_20 : decode prog_8_method_6_code 20 = .ok (.invokevirtual 49, 3) := by decide +kernel
theorem d_Va_bestTarget_23 : decode prog_8_method_6_code 23 = .ok (.istore 4, 2) := by decide +kernel
theorem d_Va_bestTarget_25 : decode prog_8_method_6_code 25 = .ok (.aload_n 0, 1) := by decide +kernel
theorem d_Va_bestTarget_26 : decode prog_8_method_6_code 26 = .ok (.iload_n 1, 1) := by decide +kernel
theorem d_Va_bestTarget_27 : decode prog_8_method_6_code 27 = .ok (.iload_n 2, 1) := by decide +kernel
theorem d_Va_bestTarget_28 : decode prog_8_method_6_code 28 = .ok (.iload_n 3, 1) := by decide +kernel
theorem d_Va_bestTarget_29 : decode prog_8_method_6_code 29 = .ok (.invokevirtual 45, 3) := by decide +kernel
theorem d_Va_bestTarget_32 : decode prog_8_method_6_code 32 = .ok (.aload_n 0, 1) := by decide +kernel
theorem d_Va_bestTarget_33 : decode prog_8_method_6_code 33 = .ok (.iload_n 1, 1) := by decide +kernel
theorem d_Va_bestTarget_34 : decode prog_8_method_6_code 34 = .ok (.iload_n 2, 1) := by decide +kernel
theorem d_Va_bestTarget_35 : decode prog_8_method_6_code 35 = .ok (.iload_n 3, 1) := by decide +kernel
theorem d_Va_bestTarget_36 : decode prog_8_method_6_code 36 = .ok (.invokevirtual 53, 3) := by decide +kernel
theorem d_Va_bestTarget_39 : decode prog_8_method_6_code 39 = .ok (.isub, 1) := by decide +kernel
theorem d_Va_bestTarget_40 : decode prog_8_method_6_code 40 = .ok (.istore 5, 2) := by decide +kernel
theorem d_Va_bestTarget_42 : decode prog_8_method_6_code 42 = .ok (.iconst 0, 1) := by decide +kernel
theorem d_Va_bestTarget_43 : decode prog_8_method_6_code 43 = .ok (.istore 6, 2) := by decide +kernel
theorem d_Va_bestTarget_45 : decode prog_8_method_6_code 45 = .ok (.iload 6, 2) := by decide +kernel
theorem d_Va_bestTarget_47 : decode prog_8_method_6_code 47 = .ok (.aload_n 0, 1) := by decide +kernel
theorem d_Va_bestTarget_48 : decode prog_8_method_6_code 48 = .ok (.getfield 15, 3) := by decide +kernel
theorem d_Va_bestTarget_51 : decode prog_8_method_6_code 51 = .ok (.iload_n 1, 1) := by decide +kernel
theorem d_Va_bestTarget_52 : decode prog_8_method_6_code 52 = .ok (.invokevirtual 56, 3) := by decide +kernel
theorem d_Va_bestTarget_55 : decode prog_8_method_6_code 55 = .ok (.if_icmp .ge (38), 3) := by decide +kernel
theorem d_Va_bestTarget_58 : decode prog_8_method_6_code 58 = .ok (.aload_n 0, 1) := by decide +kernel
theorem d_Va_bestTarget_59 : decode prog_8_method_6_code 59 = .ok (.iload_n 1, 1) := by decide +kernel
theorem d_Va_bestTarget_60 : decode prog_8_method_6_code 60 = .ok (.iload 6, 2) := by decide +kernel
theorem d_Va_bestTarget_62 : decode prog_8_method_6_code 62 = .ok (.iload_n 2, 1) := by decide +kernel
theorem d_Va_bestTarget_63 : decode prog_8_method_6_code 63 = .ok (.iload 4, 2) := by decide +kernel
theorem d_Va_bestTarget_65 : decode prog_8_method_6_code 65 = .ok (.invokestatic 59, 3) := by decide +kernel
theorem d_Va_bestTarget_68 : decode prog_8_method_6_code 68 = .ok (.iadd, 1) := by decide +kernel
theorem d_Va_bestTarget_69 : decode prog_8_method_6_code 69 = .ok (.iload_n 3, 1) := by decide +kernel
theorem d_Va_bestTarget_70 : decode prog_8_method_6_code 70 = .ok (.iload 4, 2) := by decide +kernel
theorem d_Va_bestTarget_72 : decode prog_8_method_6_code 72 = .ok (.invokestatic 62, 3) := by decide +kernel
theorem d_Va_bestTarget_75 : decode prog_8_method_6_code 75 = .ok (.isub, 1) := by decide +kernel
theorem d_Va_bestTarget_76 : decode prog_8_method_6_code 76 = .ok (.invokevirtual 65, 3) := by decide +kernel
theorem d_Va_bestTarget_79 : decode prog_8_method_6_code 79 = .ok (.iload 5, 2) := by decide +kernel
theorem d_Va_bestTarget_81 : decode prog_8_method_6_code 81 = .ok (.if_icmp .ne (6), 3) := by decide +kernel
theorem d_Va_bestTarget_84 : decode prog_8_method_6_code 84 = .ok (.iload 6, 2) := by decide +kernel
theorem d_Va_bestTarget_86 : decode prog_8_method_6_code 86 = .ok (.ireturn, 1) := by decide +kernel
theorem d_Va_bestTarget_87 : decode prog_8_method_6_code 87 = .ok (.iinc 6 (1), 3) := by decide +kernel
theorem d_Va_bestTarget_90 : decode prog_8_method_6_code 90 = .ok (.goto (-45), 3) := by decide +kernel
theorem d_Va_bestTarget_93 : decode prog_8_method_6_code 93 = .ok (.ldc 48, 2) := by decide +kernel
theorem d_Va_bestTarget_95 : decode prog_8_method_6_code 95 = .ok (.ireturn, 1) := by decide +kernel
theorem d_De_note_0 : decode prog_3_method_10_code 0 = .ok (.aload_n 0, 1) := by decide +kernel
theorem d_De_note_1 : decode prog_3_method_10_code 1 = .ok (.getfield 9, 3) := by decide +kernel
theorem d_De_note_4 : decode prog_3_method_10_code 4 = .ok (.aload_n 0, 1) := by decide +kernel
theorem d_De_note_5 : decode prog_3_method_10_code 5 = .ok (.getfield 21, 3) := by decide +kernel
theorem d_De_note_8 : decode prog_3_method_10_code 8 = .ok (.iload_n 1, 1) := by decide +kernel
theorem d_De_note_9 : decode prog_3_method_10_code 9 = .ok (.iastore, 1) := by decide +kernel
theorem d_De_note_10 : decode prog_3_method_10_code 10 = .ok (.aload_n 0, 1) := by decide +kernel
theorem d_De_note_11 : decode prog_3_method_10_code 11 = .ok (.getfield 15, 3) := by decide +kernel
theorem d_De_note_14 : decode prog_3_method_10_code 14 = .ok (.aload_n 0, 1) := by decide +kernel
theorem d_De_note_15 : decode prog_3_method_10_code 15 = .ok (.getfield 21, 3) := by decide +kernel
theorem d_De_note_18 : decode prog_3_method_10_code 18 = .ok (.iload_n 2, 1) := by decide +kernel
theorem d_De_note_19 : decode prog_3_method_10_code 19 = .ok (.iastore, 1) := by decide +kernel
theorem d_De_note_20 : decode prog_3_method_10_code 20 = .ok (.aload_n 0, 1) := by decide +kernel
theorem d_De_note_21 : decode prog_3_method_10_code 21 = .ok (.getfield 18, 3) := by decide +kernel
theorem d_De_note_24 : decode prog_3_method_10_code 24 = .ok (.aload_n 0, 1) := by decide +kernel
theorem d_De_note_25 : decode prog_3_method_10_code 25 = .ok (.getfield 21, 3) := by decide +kernel
theorem d_De_note_28 : decode prog_3_method_10_code 28 = .ok (.iload_n 3, 1) := by decide +kernel
theorem d_De_note_29 : decode prog_3_method_10_code 29 = .ok (.iastore, 1) := by decide +kernel
theorem d_De_note_30 : decode prog_3_method_10_code 30 = .ok (.aload_n 0, 1) := by decide +kernel
theorem d_De_note_31 : decode prog_3_method_10_code 31 = .ok (.dup, 1) := by decide +kernel
theorem d_De_note_32 : decode prog_3_method_10_code 32 = .ok (.getfield 21, 3) := by decide +kernel
theorem d_De_note_35 : decode prog_3_method_10_code 35 = .ok (.iconst 1, 1) := by decide +kernel
theorem d_De_note_36 : decode prog_3_method_10_code 36 = .ok (.iadd, 1) := by decide +kernel
theorem d_De_note_37 : decode prog_3_method_10_code 37 = .ok (.putfield 21, 3) := by decide +kernel
theorem d_De_note_40 : decode prog_3_method_10_code 40 = .ok (.return_, 1) := by decide +kernel
theorem d_De_writeFrom_0 : decode prog_3_method_7_code 0 = .ok (.aload_n 0, 1) := by decide +kernel
theorem d_De_writeFrom_1 : decode prog_3_method_7_code 1 = .ok (.getfield 21, 3) := by decide +kernel
theorem d_De_writeFrom_4 : decode prog_3_method_7_code 4 = .ok (.bipush (30), 2) := by decide +kernel
theorem d_De_writeFrom_6 : decode prog_3_method_7_code 6 = .ok (.if_icmp .lt (4), 3) := by decide +kernel
theorem d_De_writeFrom_9 : decode prog_3_method_7_code 9 = .ok (.return_, 1) := by decide +kernel
theorem d_De_writeFrom_10 : decode prog_3_method_7_code 10 = .ok (.aload_n 0, 1) := by decide +kernel
theorem d_De_writeFrom_11 : decode prog_3_method_7_code 11 = .ok (.iload_n 2, 1) := by decide +kernel
theorem d_De_writeFrom_12 : decode prog_3_method_7_code 12 = .ok (.iload_n 3, 1) := by decide +kernel
theorem d_De_writeFrom_13 : decode prog_3_method_7_code 13 = .ok (.iload 4, 2) := by decide +kernel
theorem d_De_writeFrom_15 : decode prog_3_method_7_code 15 = .ok (.invokevirtual 29, 3) := by decide +kernel
theorem d_De_writeFrom_18 : decode prog_3_method_7_code 18 = .ok (.aload_n 1, 1) := by decide +kernel
theorem d_De_writeFrom_19 : decode prog_3_method_7_code 19 = .ok (.invokevirtual 33, 3) := by decide +kernel
theorem d_De_writeFrom_22 : decode prog_3_method_7_code 22 = .ok (.iload_n 2, 1) := by decide +kernel
theorem d_De_writeFrom_23 : decode prog_3_method_7_code 23 = .ok (.invokevirtual 39, 3) := by decide +kernel
theorem d_De_writeFrom_26 : decode prog_3_method_7_code 26 = .ok (.istore 5, 2) := by decide +kernel
theorem d_De_writeFrom_28 : decode prog_3_method_7_code 28 = .ok (.iload 5, 2) := by decide +kernel
theorem d_De_writeFrom_30 : decode prog_3_method_7_code 30 = .ok (.bipush (7), 2) := by decide +kernel
theorem d_De_writeFrom_32 : decode prog_3_method_7_code 32 = .ok (.if_icmp .ne (15), 3) := by decide +kernel
theorem d_De_writeFrom_35 : decode prog_3_method_7_code 35 = .ok (.aload_n 0, 1) := by decide +kernel
theorem d_De_writeFrom_36 : decode prog_3_method_7_code 36 = .ok (.aload_n 1, 1) := by decide +kernel
theorem d_De_writeFrom_37 : decode prog_3_method_7_code 37 = .ok (.iload_n 2, 1) := by decide +kernel
theorem d_De_writeFrom_38 : decode prog_3_method_7_code 38 = .ok (.iload_n 3, 1) := by decide +kernel
theorem d_De_writeFrom_39 : decode prog_3_method_7_code 39 = .ok (.iload 4, 2) := by decide +kernel
theorem d_De_writeFrom_41 : decode prog_3_method_7_code 41 = .ok (.invokevirtual 45, 3) := by decide +kernel
theorem d_De_writeFrom_44 : decode prog_3_method_7_code 44 = .ok (.goto (19), 3) := by decide +kernel
theorem d_De_writeFrom_47 : decode prog_3_method_7_code 47 = .ok (.iload 5, 2) := by decide +kernel
theorem d_De_writeFrom_49 : decode prog_3_method_7_code 49 = .ok (.bipush (8), 2) := by decide +kernel
theorem d_De_writeFrom_51 : decode prog_3_method_7_code 51 = .ok (.if_icmp .eq (12), 3) := by decide +kernel
theorem d_De_writeFrom_54 : decode prog_3_method_7_code 54 = .ok (.aload_n 0, 1) := by decide +kernel
theorem d_De_writeFrom_55 : decode prog_3_method_7_code 55 = .ok (.aload_n 1, 1) := by decide +kernel
theorem d_De_writeFrom_56 : decode prog_3_method_7_code 56 = .ok (.iload_n 2, 1) := by decide +kernel
theorem d_De_writeFrom_57 : decode prog_3_method_7_code 57 = .ok (.iload_n 3, 1) := by decide +kernel
theorem d_De_writeFrom_58 : decode prog_3_method_7_code 58 = .ok (.iload 4, 2) := by decide +kernel
theorem d_De_writeFrom_60 : decode prog_3_method_7_code 60 = .ok (.invokevirtual 48, 3) := by decide +kernel
theorem d_De_writeFrom_63 : decode prog_3_method_7_code 63 = .ok (.return_, 1) := by decide +kernel
theorem d_De_writeParts_0 : decode prog_3_method_8_code 0 = .ok (.aload_n 1, 1) := by decide +kernel
theorem d_De_writeParts_1 : decode prog_3_method_8_code 1 = .ok (.iload_n 2, 1) := by decide +kernel
theorem d_De_writeParts_2 : decode prog_3_method_8_code 2 = .ok (.iload_n 3, 1) := by decide +kernel
theorem d_De_writeParts_3 : decode prog_3_method_8_code 3 = .ok (.iload 4, 2) := by decide +kernel
theorem d_De_writeParts_5 : decode prog_3_method_8_code 5 = .ok (.invokevirtual 51, 3) := by decide +kernel
theorem d_De_writeParts_8 : decode prog_3_method_8_code 8 = .ok (.istore 5, 2) := by decide +kernel
theorem d_De_writeParts_10 : decode prog_3_method_8_code 10 = .ok (.iload 5, 2) := by decide +kernel
theorem d_De_writeParts_12 : decode prog_3_method_8_code 12 = .ok (.ldc 55, 2) := by decide +kernel
theorem d_De_writeParts_14 : decode prog_3_method_8_code 14 = .ok (.if_icmp .eq (43), 3) := by decide +kernel
theorem d_De_writeParts_17 : decode prog_3_method_8_code 17 = .ok (.aload_n 0, 1) := by decide +kernel
theorem d_De_writeParts_18 : decode prog_3_method_8_code 18 = .ok (.aload_n 1, 1) := by decide +kernel
theorem d_De_writeParts_19 : decode prog_3_method_8_code 19 = .ok (.aload_n 1, 1) := by decide +kernel
theorem d_De_writeParts_20 : decode prog_3_method_8_code 20 = .ok (.invokevirtual 33, 3) := by decide +kernel
theorem d_De_writeParts_23 : decode prog_3_method_8_code 23 = .ok (.iload_n 2, 1) := by decide +kernel
theorem d_De_writeParts_24 : decode prog_3_method_8_code 24 = .ok (.iconst 0, 1) := by decide +kernel
theorem d_De_writeParts_25 : decode prog_3_method_8_code 25 = .ok (.invokevirtual 56, 3) := by decide +kernel
theorem d_De_writeParts_28 : decode prog_3_method_8_code 28 = .ok (.iload_n 3, 1) := by decide +kernel
theorem d_De_writeParts_29 : decode prog_3_method_8_code 29 = .ok (.iload 5, 2) := by decide +kernel
theorem d_De_writeParts_31 : decode prog_3_method_8_code 31 = .ok (.invokevirtual 25, 3) := by decide +kernel
theorem d_De_writeParts_34 : decode prog_3_method_8_code 34 = .ok (.aload_n 0, 1) := by decide +kernel
theorem d_De_writeParts_35 : decode prog_3_method_8_code 35 = .ok (.aload_n 1, 1) := by decide +kernel
theorem d_De_writeParts_36 : decode prog_3_method_8_code 36 = .ok (.aload_n 1, 1) := by decide +kernel
theorem d_De_writeParts_37 : decode prog_3_method_8_code 37 = .ok (.invokevirtual 33, 3) := by decide +kernel
theorem d_De_writeParts_40 : decode prog_3_method_8_code 40 = .ok (.iload_n 2, 1) := by decide +kernel
theorem d_De_writeParts_41 : decode prog_3_method_8_code 41 = .ok (.iconst 1, 1) := by decide +kernel
theorem d_De_writeParts_42 : decode prog_3_method_8_code 42 = .ok (.invokevirtual 56, 3) := by decide +kernel
theorem d_De_writeParts_45 : decode prog_3_method_8_code 45 = .ok (.iload_n 3, 1) := by decide +kernel
theorem d_De_writeParts_46 : decode prog_3_method_8_code 46 = .ok (.iload 5, 2) := by decide +kernel
theorem d_De_writeParts_48 : decode prog_3_method_8_code 48 = .ok (.iadd, 1) := by decide +kernel
theorem d_De_writeParts_49 : decode prog_3_method_8_code 49 = .ok (.iload 4, 2) := by decide +kernel
theorem d_De_writeParts_51 : decode prog_3_method_8_code 51 = .ok (.iload 5, 2) := by decide +kernel
theorem d_De_writeParts_53 : decode prog_3_method_8_code 53 = .ok (.isub, 1) := by decide +kernel
theorem d_De_writeParts_54 : decode prog_3_method_8_code 54 = .ok (.invokevirtual 25, 3) := by decide +kernel
theorem d_De_writeParts_57 : decode prog_3_method_8_code 57 = .ok (.return_, 1) := by decide +kernel
theorem d_De_writeRest_0 : decode prog_3_method_9_code 0 = .ok (.aload_n 1, 1) := by decide +kernel
theorem d_De_writeRest_1 : decode prog_3_method_9_code 1 = .ok (.iload_n 2, 1) := by decide +kernel
theorem d_De_writeRest_2 : decode prog_3_method_9_code 2 = .ok (.iload_n 3, 1) := by decide +kernel
theorem d_De_writeRest_3 : decode prog_3_method_9_code 3 = .ok (.iload 4, 2) := by decide +kernel
theorem d_De_writeRest_5 : decode prog_3_method_9_code 5 = .ok (.invokevirtual 60, 3) := by decide +kernel
theorem d_De_writeRest_8 : decode prog_3_method_9_code 8 = .ok (.istore 5, 2) := by decide +kernel
theorem d_De_writeRest_10 : decode prog_3_method_9_code 10 = .ok (.iload 5, 2) := by decide +kernel
theorem d_De_writeRest_12 : decode prog_3_method_9_code 12 = .ok (.ldc 55, 2) := by decide +kernel
theorem d_De_writeRest_14 : decode prog_3_method_9_code 14 = .ok (.if_icmp .eq (47), 3) := by decide +kernel
theorem d_De_writeRest_17 : decode prog_3_method_9_code 17 = .ok (.aload_n 1, 1) := by decide +kernel
theorem d_De_writeRest_18 : decode prog_3_method_9_code 18 = .ok (.invokevirtual 33, 3) := by decide +kernel
theorem d_De_writeRest_21 : decode prog_3_method_9_code 21 = .ok (.iload_n 2, 1) := by decide +kernel
theorem d_De_writeRest_22 : decode prog_3_method_9_code 22 = .ok (.invokevirtual 39, 3) := by decide +kernel
theorem d_De_writeRest_25 : decode prog_3_method_9_code 25 = .ok (.istore 6, 2) := by decide +kernel
theorem d_De_writeRest_27 : decode prog_3_method_9_code 27 = .ok (.aload_n 1, 1) := by decide +kernel
theorem d_De_writeRest_28 : decode prog_3_method_9_code 28 = .ok (.invokevirtual 33, 3) := by decide +kernel
theorem d_De_writeRest_31 : decode prog_3_method_9_code 31 = .ok (.iload_n 2, 1) := by decide +kernel
theorem d_De_writeRest_32 : decode prog_3_method_9_code 32 = .ok (.iload 5, 2) := by decide +kernel
theorem d_De_writeRest_34 : decode prog_3_method_9_code 34 = .ok (.invokevirtual 56, 3) := by decide +kernel
theorem d_De_writeRest_37 : decode prog_3_method_9_code 37 = .ok (.istore 7, 2) := by decide +kernel
theorem d_De_writeRest_39 : decode prog_3_method_9_code 39 = .ok (.aload_n 0, 1) := by decide +kernel
theorem d_De_writeRest_40 : decode prog_3_method_9_code 40 = .ok (.aload_n 1, 1) := by decide +kernel
theorem d_De_writeRest_41 : decode prog_3_method_9_code 41 = .ok (.iload 7, 2) := by decide +kernel
theorem d_De_writeRest_43 : decode prog_3_method_9_code 43 = .ok (.iload_n 3, 1) := by decide +kernel
theorem d_De_writeRest_44 : decode prog_3_method_9_code 44 = .ok (.iload 6, 2) := by decide +kernel
theorem d_De_writeRest_46 : decode prog_3_method_9_code 46 = .ok (.invokestatic 63, 3) := by decide +kernel
theorem d_De_writeRest_49 : decode prog_3_method_9_code 49 = .ok (.iadd, 1) := by decide +kernel
theorem d_De_writeRest_50 : decode prog_3_method_9_code 50 = .ok (.iload 4, 2) := by decide +kernel
theorem d_De_writeRest_52 : decode prog_3_method_9_code 52 = .ok (.iload 6, 2) := by decide +kernel
theorem d_De_writeRest_54 : decode prog_3_method_9_code 54 = .ok (.invokestatic 66, 3) := by decide +kernel
theorem d_De_writeRest_57 : decode prog_3_method_9_code 57 = .ok (.isub, 1) := by decide +kernel
theorem d_De_writeRest_58 : decode prog_3_method_9_code 58 = .ok (.invokevirtual 25, 3) := by decide +kernel
theorem d_De_writeRest_61 : decode prog_3_method_9_code 61 = .ok (.return_, 1) := by decide +kernel
theorem d_De_write_0 : decode prog_3_method_6_code 0 = .ok (.aload_n 0, 1) := by decide +kernel
theorem d_De_write_1 : decode prog_3_method_6_code 1 = .ok (.iconst 0, 1) := by decide +kernel
theorem d_De_write_2 : decode prog_3_method_6_code 2 = .ok (.putfield 21, 3) := by decide +kernel
theorem d_De_write_5 : decode prog_3_method_6_code 5 = .ok (.aload_n 0, 1) := by decide +kernel
theorem d_De_write_6 : decode prog_3_method_6_code 6 = .ok (.aload_n 1, 1) := by decide +kernel
theorem d_De_write_7 : decode prog_3_method_6_code 7 = .ok (.iconst 0, 1) := by decide +kernel
theorem d_De_write_8 : decode prog_3_method_6_code 8 = .ok (.iload_n 2, 1) := by decide +kernel
theorem d_De_write_9 : decode prog_3_method_6_code 9 = .ok (.iload_n 3, 1) := by decide +kernel
theorem d_De_write_10 : decode prog_3_method_6_code 10 = .ok (.invokevirtual 25, 3) := by decide +kernel
theorem d_De_write_13 : decode prog_3_method_6_code 13 = .ok (.return_, 1) := by decide +kernel
theorem d_De_length_0 : decode prog_3_method_2_code 0 = .ok (.aload_n 0, 1) := by decide +kernel
theorem d_De_length_1 : decode prog_3_method_2_code 1 = .ok (.getfield 21, 3) := by decide +kernel
theorem d_De_length_4 : decode prog_3_method_2_code 4 = .ok (.ireturn, 1) := by decide +kernel
theorem d_Hi_score_0 : decode prog_5_method_7_code 0 = .ok (.aload_n 0, 1) := by decide +kernel
theorem d_Hi_score_1 : decode prog_5_method_7_code 1 = .ok (.getfield 18, 3) := by decide +kernel
theorem d_Hi_score_4 : decode prog_5_method_7_code 4 = .ok (.iload_n 1, 1) := by decide +kernel
theorem d_Hi_score_5 : decode prog_5_method_7_code 5 = .ok (.iaload, 1) := by decide +kernel
theorem d_Hi_score_6 : decode prog_5_method_7_code 6 = .ok (.ireturn, 1) := by decide +kernel
theorem d_Fa_hit_0 : decode prog_1_method_14_code 0 = .ok (.aload_n 0, 1) := by decide +kernel
theorem d_Fa_hit_1 : decode prog_1_method_14_code 1 = .ok (.getfield 64, 3) := by decide +kernel
theorem d_Fa_hit_4 : decode prog_1_method_14_code 4 = .ok (.iload_n 1, 1) := by decide +kernel
theorem d_Fa_hit_5 : decode prog_1_method_14_code 5 = .ok (.invokevirtual 171, 3) := by decide +kernel
theorem d_Fa_hit_8 : decode prog_1_method_14_code 8 = .ok (.ifCond .ne (6), 3) := by decide +kernel
theorem d_Fa_hit_11 : decode prog_1_method_14_code 11 = .ok (.ldc 96, 2) := by decide +kernel
theorem d_Fa_hit_13 : decode prog_1_method_14_code 13 = .ok (.ireturn, 1) := by decide +kernel
theorem d_Fa_hit_14 : decode prog_1_method_14_code 14 = .ok (.iload_n 2, 1) := by decide +kernel
theorem d_Fa_hit_15 : decode prog_1_method_14_code 15 = .ok (.tableswitch (91) (0) (3) #[29, 38, 47, 56], 29) := by decide +kernel
theorem d_Fa_hit_44 : decode prog_1_method_14_code 44 = .ok (.aload_n 0, 1) := by decide +kernel
