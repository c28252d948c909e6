/-! decode rows (written by wip/gen) -/
theorem d_Mo_emits_74 : decode prog_10_method_27_code 74 = .ok (.imul, 1) := by decide +kernel
theorem d_Mo_emits_75 : decode prog_10_method_27_code 75 = .ok (.iconst 4, 1) := by decide +kernel
theorem d_Mo_emits_76 : decode prog_10_method_27_code 76 = .ok (.iload_n 2, 1) := by decide +kernel
theorem d_Mo_emits_77 : decode prog_10_method_27_code 77 = .ok (.imul, 1) := by decide +kernel
theorem d_Mo_emits_78 : decode prog_10_method_27_code 78 = .ok (.iadd, 1) := by decide +kernel
theorem d_Mo_emits_79 : decode prog_10_method_27_code 79 = .ok (.iload 4, 2) := by decide +kernel
theorem d_Mo_emits_81 : decode prog_10_method_27_code 81 = .ok (.iconst 1, 1) := by decide +kernel
theorem d_Mo_emits_82 : decode prog_10_method_27_code 82 = .ok (.if_icmp .ne (7), 3) := by decide +kernel
theorem d_Mo_emits_85 : decode prog_10_method_27_code 85 = .ok (.iload_n 3, 1) := by decide +kernel
theorem d_Mo_emits_86 : decode prog_10_method_27_code 86 = .ok (.goto (4), 3) := by decide +kernel
theorem d_Mo_emits_89 : decode prog_10_method_27_code 89 = .ok (.iconst 0, 1) := by decide +kernel
theorem d_Mo_emits_90 : decode prog_10_method_27_code 90 = .ok (.iadd, 1) := by decide +kernel
theorem d_Mo_emits_91 : decode prog_10_method_27_code 91 = .ok (.iaload, 1) := by decide +kernel
theorem d_Mo_emits_92 : decode prog_10_method_27_code 92 = .ok (.ireturn, 1) := by decide +kernel
theorem d_Mo_feed_0 : decode prog_10_method_28_code 0 = .ok (.iload_n 2, 1) := by decide +kernel
theorem d_Mo_feed_1 : decode prog_10_method_28_code 1 = .ok (.iconst 1, 1) := by decide +kernel
theorem d_Mo_feed_2 : decode prog_10_method_28_code 2 = .ok (.if_icmp .lt (20), 3) := by decide +kernel
theorem d_Mo_feed_5 : decode prog_10_method_28_code 5 = .ok (.iload_n 2, 1) := by decide +kernel
theorem d_Mo_feed_6 : decode prog_10_method_28_code 6 = .ok (.bipush (12), 2) := by decide +kernel
theorem d_Mo_feed_8 : decode prog_10_method_28_code 8 = .ok (.if_icmp .gt (14), 3) := by decide +kernel
theorem d_Mo_feed_11 : decode prog_10_method_28_code 11 = .ok (.aload_n 0, 1) := by decide +kernel
theorem d_Mo_feed_12 : decode prog_10_method_28_code 12 = .ok (.getfield 159, 3) := by decide +kernel
theorem d_Mo_feed_15 : decode prog_10_method_28_code 15 = .ok (.iload_n 2, 1) := by decide +kernel
theorem d_Mo_feed_16 : decode prog_10_method_28_code 16 = .ok (.iadd, 1) := by decide +kernel
theorem d_Mo_feed_17 : decode prog_10_method_28_code 17 = .ok (.bipush (24), 2) := by decide +kernel
theorem d_Mo_feed_19 : decode prog_10_method_28_code 19 = .ok (.if_icmp .le (6), 3) := by decide +kernel
theorem d_Mo_feed_22 : decode prog_10_method_28_code 22 = .ok (.ldc 136, 2) := by decide +kernel
theorem d_Mo_feed_24 : decode prog_10_method_28_code 24 = .ok (.ireturn, 1) := by decide +kernel
theorem d_Mo_feed_25 : decode prog_10_method_28_code 25 = .ok (.iconst 0, 1) := by decide +kernel
theorem d_Mo_feed_26 : decode prog_10_method_28_code 26 = .ok (.istore_n 3, 1) := by decide +kernel
theorem d_Mo_feed_27 : decode prog_10_method_28_code 27 = .ok (.iload_n 3, 1) := by decide +kernel
theorem d_Mo_feed_28 : decode prog_10_method_28_code 28 = .ok (.iload_n 2, 1) := by decide +kernel
theorem d_Mo_feed_29 : decode prog_10_method_28_code 29 = .ok (.if_icmp .ge (35), 3) := by decide +kernel
theorem d_Mo_feed_32 : decode prog_10_method_28_code 32 = .ok (.aload_n 0, 1) := by decide +kernel
theorem d_Mo_feed_33 : decode prog_10_method_28_code 33 = .ok (.getfield 46, 3) := by decide +kernel
theorem d_Mo_feed_36 : decode prog_10_method_28_code 36 = .ok (.aload_n 0, 1) := by decide +kernel
theorem d_Mo_feed_37 : decode prog_10_method_28_code 37 = .ok (.getfield 159, 3) := by decide +kernel
theorem d_Mo_feed_40 : decode prog_10_method_28_code 40 = .ok (.iload_n 1, 1) := by decide +kernel
theorem d_Mo_feed_41 : decode prog_10_method_28_code 41 = .ok (.iconst 2, 1) := by decide +kernel
theorem d_Mo_feed_42 : decode prog_10_method_28_code 42 = .ok (.iload_n 3, 1) := by decide +kernel
theorem d_Mo_feed_43 : decode prog_10_method_28_code 43 = .ok (.imul, 1) := by decide +kernel
theorem d_Mo_feed_44 : decode prog_10_method_28_code 44 = .ok (.ishr, 1) := by decide +kernel
theorem d_Mo_feed_45 : decode prog_10_method_28_code 45 = .ok (.iconst 3, 1) := by decide +kernel
theorem d_Mo_feed_46 : decode prog_10_method_28_code 46 = .ok (.iand, 1) := by decide +kernel
theorem d_Mo_feed_47 : decode prog_10_method_28_code 47 = .ok (.iastore, 1) := by decide +kernel
theorem d_Mo_feed_48 : decode prog_10_method_28_code 48 = .ok (.aload_n 0, 1) := by decide +kernel
theorem d_Mo_feed_49 : decode prog_10_method_28_code 49 = .ok (.aload_n 0, 1) := by decide +kernel
theorem d_Mo_feed_50 : decode prog_10_method_28_code 50 = .ok (.getfield 159, 3) := by decide +kernel
theorem d_Mo_feed_53 : decode prog_10_method_28_code 53 = .ok (.iconst 1, 1) := by decide +kernel
theorem d_Mo_feed_54 : decode prog_10_method_28_code 54 = .ok (.iadd, 1) := by decide +kernel
theorem d_Mo_feed_55 : decode prog_10_method_28_code 55 = .ok (.putfield 159, 3) := by decide +kernel
theorem d_Mo_feed_58 : decode prog_10_method_28_code 58 = .ok (.iinc 3 (1), 3) := by decide +kernel
theorem d_Mo_feed_61 : decode prog_10_method_28_code 61 = .ok (.goto (-34), 3) := by decide +kernel
theorem d_Mo_feed_64 : decode prog_10_method_28_code 64 = .ok (.aload_n 0, 1) := by decide +kernel
theorem d_Mo_feed_65 : decode prog_10_method_28_code 65 = .ok (.iconst 0, 1) := by decide +kernel
theorem d_Mo_feed_66 : decode prog_10_method_28_code 66 = .ok (.putfield 150, 3) := by decide +kernel
theorem d_Mo_feed_69 : decode prog_10_method_28_code 69 = .ok (.aload_n 0, 1) := by decide +kernel
theorem d_Mo_feed_70 : decode prog_10_method_28_code 70 = .ok (.iconst 0, 1) := by decide +kernel
theorem d_Mo_feed_71 : decode prog_10_method_28_code 71 = .ok (.putfield 78, 3) := by decide +kernel
theorem d_Mo_feed_74 : decode prog_10_method_28_code 74 = .ok (.aload_n 0, 1) := by decide +kernel
theorem d_Mo_feed_75 : decode prog_10_method_28_code 75 = .ok (.getfield 159, 3) := by decide +kernel
theorem d_Mo_feed_78 : decode prog_10_method_28_code 78 = .ok (.ireturn, 1) := by decide +kernel
theorem d_Mo_erase_0 : decode prog_10_method_29_code 0 = .ok (.aload_n 0, 1) := by decide +kernel
theorem d_Mo_erase_1 : decode prog_10_method_29_code 1 = .ok (.iconst 0, 1) := by decide +kernel
theorem d_Mo_erase_2 : decode prog_10_method_29_code 2 = .ok (.putfield 159, 3) := by decide +kernel
theorem d_Mo_erase_5 : decode prog_10_method_29_code 5 = .ok (.aload_n 0, 1) := by decide +kernel
theorem d_Mo_erase_6 : decode prog_10_method_29_code 6 = .ok (.iconst 0, 1) := by decide +kernel
theorem d_Mo_erase_7 : decode prog_10_method_29_code 7 = .ok (.putfield 150, 3) := by decide +kernel
theorem d_Mo_erase_10 : decode prog_10_method_29_code 10 = .ok (.aload_n 0, 1) := by decide +kernel
theorem d_Mo_erase_11 : decode prog_10_method_29_code 11 = .ok (.iconst 0, 1) := by decide +kernel
theorem d_Mo_erase_12 : decode prog_10_method_29_code 12 = .ok (.putfield 78, 3) := by decide +kernel
theorem d_Mo_erase_15 : decode prog_10_method_29_code 15 = .ok (.return_, 1) := by decide +kernel
theorem d_Mo_cell_0 : decode prog_10_method_30_code 0 = .ok (.sipush (325), 3) := by decide +kernel
theorem d_Mo_cell_3 : decode prog_10_method_30_code 3 = .ok (.iload_n 0, 1) := by decide +kernel
theorem d_Mo_cell_4 : decode prog_10_method_30_code 4 = .ok (.imul, 1) := by decide +kernel
theorem d_Mo_cell_5 : decode prog_10_method_30_code 5 = .ok (.bipush (13), 2) := by decide +kernel
theorem d_Mo_cell_7 : decode prog_10_method_30_code 7 = .ok (.iload_n 1, 1) := by decide +kernel
theorem d_Mo_cell_8 : decode prog_10_method_30_code 8 = .ok (.imul, 1) := by decide +kernel
theorem d_Mo_cell_9 : decode prog_10_method_30_code 9 = .ok (.iadd, 1) := by decide +kernel
theorem d_Mo_cell_10 : decode prog_10_method_30_code 10 = .ok (.iload_n 2, 1) := by decide +kernel
theorem d_Mo_cell_11 : decode prog_10_method_30_code 11 = .ok (.iadd, 1) := by decide +kernel
theorem d_Mo_cell_12 : decode prog_10_method_30_code 12 = .ok (.ireturn, 1) := by decide +kernel
theorem d_Mo_emitsLeft_0 : decode prog_10_method_31_code 0 = .ok (.iload_n 0, 1) := by decide +kernel
theorem d_Mo_emitsLeft_1 : decode prog_10_method_31_code 1 = .ok (.iconst 1, 1) := by decide +kernel
theorem d_Mo_emitsLeft_2 : decode prog_10_method_31_code 2 = .ok (.if_icmp .eq (13), 3) := by decide +kernel
theorem d_Mo_emitsLeft_5 : decode prog_10_method_31_code 5 = .ok (.iload_n 0, 1) := by decide +kernel
theorem d_Mo_emitsLeft_6 : decode prog_10_method_31_code 6 = .ok (.iconst 2, 1) := by decide +kernel
theorem d_Mo_emitsLeft_7 : decode prog_10_method_31_code 7 = .ok (.if_icmp .eq (8), 3) := by decide +kernel
theorem d_Mo_emitsLeft_10 : decode prog_10_method_31_code 10 = .ok (.iload_n 0, 1) := by decide +kernel
theorem d_Mo_emitsLeft_11 : decode prog_10_method_31_code 11 = .ok (.iconst 5, 1) := by decide +kernel
theorem d_Mo_emitsLeft_12 : decode prog_10_method_31_code 12 = .ok (.if_icmp .ne (7), 3) := by decide +kernel
theorem d_Mo_emitsLeft_15 : decode prog_10_method_31_code 15 = .ok (.iconst 1, 1) := by decide +kernel
theorem d_Mo_emitsLeft_16 : decode prog_10_method_31_code 16 = .ok (.goto (4), 3) := by decide +kernel
theorem d_Mo_emitsLeft_19 : decode prog_10_method_31_code 19 = .ok (.iconst 0, 1) := by decide +kernel
theorem d_Mo_emitsLeft_20 : decode prog_10_method_31_code 20 = .ok (.ireturn, 1) := by decide +kernel
theorem d_Mo_emitsRight_0 : decode prog_10_method_32_code 0 = .ok (.iload_n 0, 1) := by decide +kernel
theorem d_Mo_emitsRight_1 : decode prog_10_method_32_code 1 = .ok (.iconst 1, 1) := by decide +kernel
theorem d_Mo_emitsRight_2 : decode prog_10_method_32_code 2 = .ok (.if_icmp .eq (14), 3) := by decide +kernel
theorem d_Mo_emitsRight_5 : decode prog_10_method_32_code 5 = .ok (.iload_n 0, 1) := by decide +kernel
theorem d_Mo_emitsRight_6 : decode prog_10_method_32_code 6 = .ok (.iconst 3, 1) := by decide +kernel
theorem d_Mo_emitsRight_7 : decode prog_10_method_32_code 7 = .ok (.if_icmp .eq (9), 3) := by decide +kernel
theorem d_Mo_emitsRight_10 : decode prog_10_method_32_code 10 = .ok (.iload_n 0, 1) := by decide +kernel
theorem d_Mo_emitsRight_11 : decode prog_10_method_32_code 11 = .ok (.bipush (6), 2) := by decide +kernel
theorem d_Mo_emitsRight_13 : decode prog_10_method_32_code 13 = .ok (.if_icmp .ne (7), 3) := by decide +kernel
theorem d_Mo_emitsRight_16 : decode prog_10_method_32_code 16 = .ok (.iconst 1, 1) := by decide +kernel
theorem d_Mo_emitsRight_17 : decode prog_10_method_32_code 17 = .ok (.goto (4), 3) := by decide +kernel
theorem d_Mo_emitsRight_20 : decode prog_10_method_32_code 20 = .ok (.iconst 0, 1) := by decide +kernel
theorem d_Mo_emitsRight_21 : decode prog_10_method_32_code 21 = .ok (.ireturn, 1) := by decide +kernel
theorem d_Mo_letterScore_0 : decode prog_10_method_33_code 0 = .ok (.aload_n 0, 1) := by decide +kernel
theorem d_Mo_letterScore_1 : decode prog_10_method_33_code 1 = .ok (.getfield 34, 3) := by decide +kernel
theorem d_Mo_letterScore_4 : decode prog_10_method_33_code 4 = .ok (.iload_n 1, 1) := by decide +kernel
theorem d_Mo_letterScore_5 : decode prog_10_method_33_code 5 = .ok (.iaload, 1) := by decide +kernel
theorem d_Mo_letterScore_6 : decode prog_10_method_33_code 6 = .ok (.istore 4, 2) := by decide +kernel
theorem d_Mo_letterScore_8 : decode prog_10_method_33_code 8 = .ok (.iload 4, 2) := by decide +kernel
theorem d_Mo_letterScore_10 : decode prog_10_method_33_code 10 = .ok (.invokestatic 162, 3) := by decide +kernel
theorem d_Mo_letterScore_13 : decode prog_10_method_33_code 13 = .ok (.ifCond .eq (12), 3) := by decide +kernel
theorem d_Mo_letterScore_16 : decode prog_10_method_33_code 16 = .ok (.aload_n 0, 1) := by decide +kernel
theorem d_Mo_letterScore_17 : decode prog_10_method_33_code 17 = .ok (.getfield 46, 3) := by decide +kernel
theorem d_Mo_letterScore_20 : decode prog_10_method_33_code 20 = .ok (.iload_n 2, 1) := by decide +kernel
theorem d_Mo_letterScore_21 : decode prog_10_method_33_code 21 = .ok (.iaload, 1) := by decide +kernel
theorem d_Mo_letterScore_22 : decode prog_10_method_33_code 22 = .ok (.goto (25), 3) := by decide +kernel
theorem d_Mo_letterScore_25 : decode prog_10_method_33_code 25 = .ok (.iload 4, 2) := by decide +kernel
theorem d_Mo_letterScore_27 : decode prog_10_method_33_code 27 = .ok (.invokestatic 165, 3) := by decide +kernel
theorem d_Mo_letterScore_30 : decode prog_10_method_33_code 30 = .ok (.ifCond .eq (16), 3) := by decide +kernel
theorem d_Mo_letterScore_33 : decode prog_10_method_33_code 33 = .ok (.aload_n 0, 1) := by decide +kernel
theorem d_Mo_letterScore_34 : decode prog_10_method_33_code 34 = .ok (.getfield 46, 3) := by decide +kernel
theorem d_Mo_letterScore_37 : decode prog_10_method_33_code 37 = .ok (.iload_n 2, 1) := by decide +kernel
theorem d_Mo_letterScore_38 : decode prog_10_method_33_code 38 = .ok (.iload_n 3, 1) := by decide +kernel
theorem d_Mo_letterScore_39 : decode prog_10_method_33_code 39 = .ok (.iadd, 1) := by decide +kernel
theorem d_Mo_letterScore_40 : decode prog_10_method_33_code 40 = .ok (.iconst 1, 1) := by decide +kernel
theorem d_Mo_letterScore_41 : decode prog_10_method_33_code 41 = .ok (.isub, 1) := by decide +kernel
theorem d_Mo_letterScore_42 : decode prog_10_method_33_code 42 = .ok (.iaload, 1) := by decide +kernel
theorem d_Mo_letterScore_43 : decode prog_10_method_33_code 43 = .ok (.goto (4), 3) := by decide +kernel
theorem d_Mo_letterScore_46 : decode prog_10_method_33_code 46 = .ok (.iconst 0, 1) := by decide +kernel
theorem d_Mo_letterScore_47 : decode prog_10_method_33_code 47 = .ok (.istore 5, 2) := by decide +kernel
theorem d_Mo_letterScore_49 : decode prog_10_method_33_code 49 = .ok (.iload 4, 2) := by decide +kernel
theorem d_Mo_letterScore_51 : decode prog_10_method_33_code 51 = .ok (.invokestatic 162, 3) := by decide +kernel
theorem d_Mo_letterScore_54 : decode prog_10_method_33_code 54 = .ok (.ifCond .ne (11), 3) := by decide +kernel
theorem d_Mo_letterScore_57 : decode prog_10_method_33_code 57 = .ok (.iload 4, 2) := by decide +kernel
theorem d_Mo_letterScore_59 : decode prog_10_method_33_code 59 = .ok (.invokestatic 165, 3) := by decide +kernel
theorem d_Mo_letterScore_62 : decode prog_10_method_33_code 62 = .ok (.ifCond .eq (41), 3) := by decide +kernel
theorem d_Mo_letterScore_65 : decode prog_10_method_33_code 65 = .ok (.aload_n 0, 1) := by decide +kernel
theorem d_Mo_letterScore_66 : decode prog_10_method_33_code 66 = .ok (.getfield 43, 3) := by decide +kernel
theorem d_Mo_letterScore_69 : decode prog_10_method_33_code 69 = .ok (.bipush (16), 2) := by decide +kernel
theorem d_Mo_letterScore_71 : decode prog_10_method_33_code 71 = .ok (.iload_n 1, 1) := by decide +kernel
theorem d_Mo_letterScore_72 : decode prog_10_method_33_code 72 = .ok (.imul, 1) := by decide +kernel
theorem d_Mo_letterScore_73 : decode prog_10_method_33_code 73 = .ok (.iconst 4, 1) := by decide +kernel
theorem d_Mo_letterScore_74 : decode prog_10_method_33_code 74 = .ok (.iload 5, 2) := by decide +kernel
theorem d_Mo_letterScore_76 : decode prog_10_method_33_code 76 = .ok (.imul, 1) := by decide +kernel
theorem d_Mo_letterScore_77 : decode prog_10_method_33_code 77 = .ok (.iadd, 1) := by decide +kernel
theorem d_Mo_letterScore_78 : decode prog_10_method_33_code 78 = .ok (.iload 4, 2) := by decide +kernel
theorem d_Mo_letterScore_80 : decode prog_10_method_33_code 80 = .ok (.iconst 1, 1) := by decide +kernel
theorem d_Mo_letterScore_81 : decode prog_10_method_33_code 81 = .ok (.if_icmp .ne (16), 3) := by decide +kernel
theorem d_Mo_letterScore_84 : decode prog_10_method_33_code 84 = .ok (.aload_n 0, 1) := by decide +kernel
theorem d_Mo_letterScore_85 : decode prog_10_method_33_code 85 = .ok (.getfield 46, 3) := by decide +kernel
theorem d_Mo_letterScore_88 : decode prog_10_method_33_code 88 = .ok (.iload_n 2, 1) := by decide +kernel
theorem d_Mo_letterScore_89 : decode prog_10_method_33_code 89 = .ok (.iload_n 3, 1) := by decide +kernel
theorem d_Mo_letterScore_90 : decode prog_10_method_33_code 90 = .ok (.iadd, 1) := by decide +kernel
theorem d_Mo_letterScore_91 : decode prog_10_method_33_code 91 = .ok (.iconst 1, 1) := by decide +kernel
theorem d_Mo_letterScore_92 : decode prog_10_method_33_code 92 = .ok (.isub, 1) := by decide +kernel
theorem d_Mo_letterScore_93 : decode prog_10_method_33_code 93 = .ok (.iaload, 1) := by decide +kernel
theorem d_Mo_letterScore_94 : decode prog_10_method_33_code 94 = .ok (.goto (4), 3) := by decide +kernel
theorem d_Mo_letterScore_97 : decode prog_10_method_33_code 97 = .ok (.iconst 0, 1) := by decide +kernel
theorem d_Mo_letterScore_98 : decode prog_10_method_33_code 98 = .ok (.iadd, 1) := by decide +kernel
theorem d_Mo_letterScore_99 : decode prog_10_method_33_code 99 = .ok (.iaload, 1) := by decide +kernel
theorem d_Mo_letterScore_100 : decode prog_10_method_33_code 100 = .ok (.goto (4), 3) := by decide +kernel
theorem d_Mo_letterScore_103 : decode prog_10_method_33_code 103 = .ok (.iconst 0, 1) := by decide +kernel
theorem d_Mo_letterScore_104 : decode prog_10_method_33_code 104 = .ok (.ireturn, 1) := by decide +kernel
theorem d_Mo_by_0 : decode prog_10_method_34_code 0 = .ok (.aload_n 0, 1) := by decide +kernel
theorem d_Mo_by_1 : decode prog_10_method_34_code 1 = .ok (.getfield 34, 3) := by decide +kernel
theorem d_Mo_by_4 : decode prog_10_method_34_code 4 = .ok (.iload_n 1, 1) := by decide +kernel
theorem d_Mo_by_5 : decode prog_10_method_34_code 5 = .ok (.iaload, 1) := by decide +kernel
theorem d_Mo_by_6 : decode prog_10_method_34_code 6 = .ok (.istore 5, 2) := by decide +kernel
theorem d_Mo_by_8 : decode prog_10_method_34_code 8 = .ok (.iload 5, 2) := by decide +kernel
theorem d_Mo_by_10 : decode prog_10_method_34_code 10 = .ok (.invokestatic 162, 3) := by decide +kernel
theorem d_Mo_by_13 : decode prog_10_method_34_code 13 = .ok (.ifCond .eq (7), 3) := by decide +kernel
theorem d_Mo_by_16 : decode prog_10_method_34_code 16 = .ok (.iconst 1, 1) := by decide +kernel
theorem d_Mo_by_17 : decode prog_10_method_34_code 17 = .ok (.goto (4), 3) := by decide +kernel
theorem d_Mo_by_20 : decode prog_10_method_34_code 20 = .ok (.iconst 0, 1) := by decide +kernel
theorem d_Mo_by_21 : decode prog_10_method_34_code 21 = .ok (.istore 6, 2) := by decide +kernel
theorem d_Mo_by_23 : decode prog_10_method_34_code 23 = .ok (.iload 5, 2) := by decide +kernel
theorem d_Mo_by_25 : decode prog_10_method_34_code 25 = .ok (.invokestatic 165, 3) := by decide +kernel
theorem d_Mo_by_28 : decode prog_10_method_34_code 28 = .ok (.ifCond .eq (7), 3) := by decide +kernel
theorem d_Mo_by_31 : decode prog_10_method_34_code 31 = .ok (.iconst 1, 1) := by decide +kernel
theorem d_Mo_by_32 : decode prog_10_method_34_code 32 = .ok (.goto (4), 3) := by decide +kernel
theorem d_Mo_by_35 : decode prog_10_method_34_code 35 = .ok (.iconst 0, 1) := by decide +kernel
theorem d_Mo_by_36 : decode prog_10_method_34_code 36 = .ok (.istore 7, 2) := by decide +kernel
theorem d_Mo_by_38 : decode prog_10_method_34_code 38 = .ok (.aload_n 0, 1) := by decide +kernel
theorem d_Mo_by_39 : decode prog_10_method_34_code 39 = .ok (.iload_n 1, 1) := by decide +kernel
theorem d_Mo_by_40 : decode prog_10_method_34_code 40 = .ok (.iload_n 2, 1) := by decide +kernel
theorem d_Mo_by_41 : decode prog_10_method_34_code 41 = .ok (.invokevirtual 119, 3) := by decide +kernel
theorem d_Mo_by_44 : decode prog_10_method_34_code 44 = .ok (.istore 8, 2) := by decide +kernel
theorem d_Mo_by_46 : decode prog_10_method_34_code 46 = .ok (.iload 8, 2) := by decide +kernel
theorem d_Mo_by_48 : decode prog_10_method_34_code 48 = .ok (.ifCond .lt (13), 3) := by decide +kernel
theorem d_Mo_by_51 : decode prog_10_method_34_code 51 = .ok (.iload 4, 2) := by decide +kernel
theorem d_Mo_by_53 : decode prog_10_method_34_code 53 = .ok (.iload 6, 2) := by decide +kernel
theorem d_Mo_by_55 : decode prog_10_method_34_code 55 = .ok (.iload 7, 2) := by decide +kernel
theorem d_Mo_by_57 : decode prog_10_method_34_code 57 = .ok (.iadd, 1) := by decide +kernel
theorem d_Mo_by_58 : decode prog_10_method_34_code 58 = .ok (.if_icmp .ge (6), 3) := by decide +kernel
theorem d_Mo_by_61 : decode prog_10_method_34_code 61 = .ok (.ldc 136, 2) := by decide +kernel
theorem d_Mo_by_63 : decode prog_10_method_34_code 63 = .ok (.ireturn, 1) := by decide +kernel
theorem d_Mo_by_64 : decode prog_10_method_34_code 64 = .ok (.aload_n 0, 1) := by decide +kernel
theorem d_Mo_by_65 : decode prog_10_method_34_code 65 = .ok (.getfield 49, 3) := by decide +kernel
theorem d_Mo_by_68 : decode prog_10_method_34_code 68 = .ok (.iload 8, 2) := by decide +kernel
theorem d_Mo_by_70 : decode prog_10_method_34_code 70 = .ok (.iload_n 3, 1) := by decide +kernel
theorem d_Mo_by_71 : decode prog_10_method_34_code 71 = .ok (.iload 6, 2) := by decide +kernel
theorem d_Mo_by_73 : decode prog_10_method_34_code 73 = .ok (.iadd, 1) := by decide +kernel
theorem d_Mo_by_74 : decode prog_10_method_34_code 74 = .ok (.iload 4, 2) := by decide +kernel
theorem d_Mo_by_76 : decode prog_10_method_34_code 76 = .ok (.iload 6, 2) := by decide +kernel
theorem d_Mo_by_78 : decode prog_10_method_34_code 78 = .ok (.isub, 1) := by decide +kernel
theorem d_Mo_by_79 : decode prog_10_method_34_code 79 = .ok (.iload 7, 2) := by decide +kernel
theorem d_Mo_by_81 : decode prog_10_method_34_code 81 = .ok (.isub, 1) := by decide +kernel
theorem d_Mo_by_82 : decode prog_10_method_34_code 82 = .ok (.invokestatic 168, 3) := by decide +kernel
theorem d_Mo_by_85 : decode prog_10_method_34_code 85 = .ok (.iaload, 1) := by decide +kernel
theorem d_Mo_by_86 : decode prog_10_method_34_code 86 = .ok (.istore 9, 2) := by decide +kernel
theorem d_Mo_by_88 : decode prog_10_method_34_code 88 = .ok (.iload 9, 2) := by decide +kernel
theorem d_Mo_by_90 : decode prog_10_method_34_code 90 = .ok (.ldc 136, 2) := by decide +kernel
theorem d_Mo_by_92 : decode prog_10_method_34_code 92 = .ok (.if_icmp .ne (8), 3) := by decide +kernel
theorem d_Mo_by_95 : decode prog_10_method_34_code 95 = .ok (.ldc 136, 2) := by decide +kernel
theorem d_Mo_by_97 : decode prog_10_method_34_code 97 = .ok (.goto (26), 3) := by decide +kernel
theorem d_Mo_by_100 : decode prog_10_method_34_code 100 = .ok (.aload_n 0, 1) := by decide +kernel
theorem d_Mo_by_101 : decode prog_10_method_34_code 101 = .ok (.iload_n 1, 1) := by decide +kernel
theorem d_Mo_by_102 : decode prog_10_method_34_code 102 = .ok (.iload_n 3, 1) := by decide +kernel
theorem d_Mo_by_103 : decode prog_10_method_34_code 103 = .ok (.iload 4, 2) := by decide +kernel
theorem d_Mo_by_105 : decode prog_10_method_34_code 105 = .ok (.invokevirtual 171, 3) := by decide +kernel
theorem d_Mo_by_108 : decode prog_10_method_34_code 108 = .ok (.aload_n 0, 1) := by decide +kernel
theorem d_Mo_by_109 : decode prog_10_method_34_code 109 = .ok (.getfield 40, 3) := by decide +kernel
theorem d_Mo_by_112 : decode prog_10_method_34_code 112 = .ok (.bipush (8), 2) := by decide +kernel
theorem d_Mo_by_114 : decode prog_10_method_34_code 114 = .ok (.iload_n 1, 1) := by decide +kernel
theorem d_Mo_by_115 : decode prog_10_method_34_code 115 = .ok (.imul, 1) := by decide +kernel
theorem d_Mo_by_116 : decode prog_10_method_34_code 116 = .ok (.iload_n 2, 1) := by decide +kernel
theorem d_Mo_by_117 : decode prog_10_method_34_code 117 = .ok (.iadd, 1) := by decide +kernel
theorem d_Mo_by_118 : decode prog_10_method_34_code 118 = .ok (.iaload, 1) := by decide +kernel
theorem d_Mo_by_119 : decode prog_10_method_34_code 119 = .ok (.iadd, 1) := by decide +kernel
theorem d_Mo_by_120 : decode prog_10_method_34_code 120 = .ok (.iload 9, 2) := by decide +kernel
theorem d_Mo_by_122 : decode prog_10_method_34_code 122 = .ok (.iadd, 1) := by decide +kernel
theorem d_Mo_by_123 : decode prog_10_method_34_code 123 = .ok (.ireturn, 1) := by decide +kernel
theorem d_Mo_bySplit_0 : decode prog_10_method_35_code 0 = .ok (.aload_n 0, 1) := by decide +kernel
theorem d_Mo_bySplit_1 : decode prog_10_method_35_code 1 = .ok (.getfield 49, 3) := by decide +kernel
theorem d_Mo_bySplit_4 : decode prog_10_method_35_code 4 = .ok (.aload_n 0, 1) := by decide +kernel
theorem d_Mo_bySplit_5 : decode prog_10_method_35_code 5 = .ok (.iload_n 1, 1) := by decide +kernel
theorem d_Mo_bySplit_6 : decode prog_10_method_35_code 6 = .ok (.iconst 0, 1) := by decide +kernel
theorem d_Mo_bySplit_7 : decode prog_10_method_35_code 7 = .ok (.invokevirtual 119, 3) := by decide +kernel
theorem d_Mo_bySplit_10 : decode prog_10_method_35_code 10 = .ok (.iload_n 3, 1) := by decide +kernel
theorem d_Mo_bySplit_11 : decode prog_10_method_35_code 11 = .ok (.iload_n 2, 1) := by decide +kernel
theorem d_Mo_bySplit_12 : decode prog_10_method_35_code 12 = .ok (.invokestatic 168, 3) := by decide +kernel
theorem d_Mo_bySplit_15 : decode prog_10_method_35_code 15 = .ok (.iaload, 1) := by decide +kernel
theorem d_Mo_bySplit_16 : decode prog_10_method_35_code 16 = .ok (.istore 5, 2) := by decide +kernel
theorem d_Mo_bySplit_18 : decode prog_10_method_35_code 18 = .ok (.aload_n 0, 1) := by decide +kernel
theorem d_Mo_bySplit_19 : decode prog_10_method_35_code 19 = .ok (.getfield 49, 3) := by decide +kernel
theorem d_Mo_bySplit_22 : decode prog_10_method_35_code 22 = .ok (.aload_n 0, 1) := by decide +kernel
theorem d_Mo_bySplit_23 : decode prog_10_method_35_code 23 = .ok (.iload_n 1, 1) := by decide +kernel
theorem d_Mo_bySplit_24 : decode prog_10_method_35_code 24 = .ok (.iconst 1, 1) := by decide +kernel
theorem d_Mo_bySplit_25 : decode prog_10_method_35_code 25 = .ok (.invokevirtual 119, 3) := by decide +kernel
theorem d_Mo_bySplit_28 : decode prog_10_method_35_code 28 = .ok (.iload_n 3, 1) := by decide +kernel
theorem d_Mo_bySplit_29 : decode prog_10_method_35_code 29 = .ok (.iload_n 2, 1) := by decide +kernel
theorem d_Mo_bySplit_30 : decode prog_10_method_35_code 30 = .ok (.iadd, 1) := by decide +kernel
theorem d_Mo_bySplit_31 : decode prog_10_method_35_code 31 = .ok (.iload 4, 2) := by decide +kernel
theorem d_Mo_bySplit_33 : decode prog_10_method_35_code 33 = .ok (.iload_n 2, 1) := by decide +kernel
theorem d_Mo_bySplit_34 : decode prog_10_method_35_code 34 = .ok (.isub, 1) := by decide +kernel
theorem d_Mo_bySplit_35 : decode prog_10_method_35_code 35 = .ok (.invokestatic 168, 3) := by decide +kernel
theorem d_Mo_bySplit_38 : decode prog_10_method_35_code 38 = .ok (.iaload, 1) := by decide +kernel
theorem d_Mo_bySplit_39 : decode prog_10_method_35_code 39 = .ok (.istore 6, 2) := by decide +kernel
theorem d_Mo_bySplit_41 : decode prog_10_method_35_code 41 = .ok (.iload 5, 2) := by decide +kernel
theorem d_Mo_bySplit_43 : decode prog_10_method_35_code 43 = .ok (.ldc 136, 2) := by decide +kernel
theorem d_Mo_bySplit_45 : decode prog_10_method_35_code 45 = .ok (.if_icmp .eq (10), 3) := by decide +kernel
theorem d_Mo_bySplit_48 : decode prog_10_method_35_code 48 = .ok (.iload 6, 2) := by decide +kernel
theorem d_Mo_bySplit_50 : decode prog_10_method_35_code 50 = .ok (.ldc 136, 2) := by decide +kernel
theorem d_Mo_bySplit_52 : decode prog_10_method_35_code 52 = .ok (.if_icmp .ne (8), 3) := by decide +kernel
theorem d_Mo_bySplit_55 : decode prog_10_method_35_code 55 = .ok (.ldc 136, 2) := by decide +kernel
theorem d_Mo_bySplit_57 : decode prog_10_method_35_code 57 = .ok (.goto (8), 3) := by decide +kernel
theorem d_Mo_bySplit_60 : decode prog_10_method_35_code 60 = .ok (.iload 5, 2) := by decide +kernel
theorem d_Mo_bySplit_62 : decode prog_10_method_35_code 62 = .ok (.iload 6, 2) := by decide +kernel
theorem d_Mo_bySplit_64 : decode prog_10_method_35_code 64 = .ok (.iadd, 1) := by decide +kernel
theorem d_Mo_bySplit_65 : decode prog_10_method_35_code 65 = .ok (.ireturn, 1) := by decide +kernel
theorem d_Mo_better_0 : decode prog_10_method_36_code 0 = .ok (.aload_n 0, 1) := by decide +kernel
theorem d_Mo_better_1 : decode prog_10_method_36_code 1 = .ok (.getfield 34, 3) := by decide +kernel
theorem d_Mo_better_4 : decode prog_10_method_36_code 4 = .ok (.iload_n 1, 1) := by decide +kernel
theorem d_Mo_better_5 : decode prog_10_method_36_code 5 = .ok (.iaload, 1) := by decide +kernel
theorem d_Mo_better_6 : decode prog_10_method_36_code 6 = .ok (.bipush (8), 2) := by decide +kernel
theorem d_Mo_better_8 : decode prog_10_method_36_code 8 = .ok (.if_icmp .ne (14), 3) := by decide +kernel
theorem d_Mo_better_11 : decode prog_10_method_36_code 11 = .ok (.iload_n 3, 1) := by decide +kernel
theorem d_Mo_better_12 : decode prog_10_method_36_code 12 = .ok (.ifCond .ne (7), 3) := by decide +kernel
theorem d_Mo_better_15 : decode prog_10_method_36_code 15 = .ok (.iconst 0, 1) := by decide +kernel
theorem d_Mo_better_16 : decode prog_10_method_36_code 16 = .ok (.goto (5), 3) := by decide +kernel
theorem d_Mo_better_19 : decode prog_10_method_36_code 19 = .ok (.ldc 136, 2) := by decide +kernel
theorem d_Mo_better_21 : decode prog_10_method_36_code 21 = .ok (.ireturn, 1) := by decide +kernel
theorem d_Mo_better_22 : decode prog_10_method_36_code 22 = .ok (.ldc 136, 2) := by decide +kernel
theorem d_Mo_better_24 : decode prog_10_method_36_code 24 = .ok (.istore 4, 2) := by decide +kernel
theorem d_Mo_better_26 : decode prog_10_method_36_code 26 = .ok (.iconst 0, 1) := by decide +kernel
theorem d_Mo_better_27 : decode prog_10_method_36_code 27 = .ok (.istore 5, 2) := by decide +kernel
theorem d_Mo_better_29 : decode prog_10_method_36_code 29 = .ok (.iload 5, 2) := by decide +kernel
theorem d_Mo_better_31 : decode prog_10_method_36_code 31 = .ok (.bipush (8), 2) := by decide +kernel
theorem d_Mo_better_33 : decode prog_10_method_36_code 33 = .ok (.if_icmp .ge (47), 3) := by decide +kernel
theorem d_Mo_better_36 : decode prog_10_method_36_code 36 = .ok (.aload_n 0, 1) := by decide +kernel
theorem d_Mo_better_37 : decode prog_10_method_36_code 37 = .ok (.getfield 34, 3) := by decide +kernel
theorem d_Mo_better_40 : decode prog_10_method_36_code 40 = .ok (.iload_n 1, 1) := by decide +kernel
theorem d_Mo_better_41 : decode prog_10_method_36_code 41 = .ok (.iaload, 1) := by decide +kernel
theorem d_Mo_better_42 : decode prog_10_method_36_code 42 = .ok (.bipush (7), 2) := by decide +kernel
theorem d_Mo_better_44 : decode prog_10_method_36_code 44 = .ok (.if_icmp .eq (36), 3) := by decide +kernel
theorem d_Mo_better_47 : decode prog_10_method_36_code 47 = .ok (.aload_n 0, 1) := by decide +kernel
theorem d_Mo_better_48 : decode prog_10_method_36_code 48 = .ok (.iload_n 1, 1) := by decide +kernel
theorem d_Mo_better_49 : decode prog_10_method_36_code 49 = .ok (.iload 5, 2) := by decide +kernel
theorem d_Mo_better_51 : decode prog_10_method_36_code 51 = .ok (.iload_n 2, 1) := by decide +kernel
theorem d_Mo_better_52 : decode prog_10_method_36_code 52 = .ok (.iload_n 3, 1) := by decide +kernel
theorem d_Mo_better_53 : decode prog_10_method_36_code 53 = .ok (.invokevirtual 174, 3) := by decide +kernel
theorem d_Mo_better_56 : decode prog_10_method_36_code 56 = .ok (.istore 6, 2) := by decide +kernel
theorem d_Mo_better_58 : decode prog_10_method_36_code 58 = .ok (.iload 6, 2) := by decide +kernel
theorem d_Mo_better_60 : decode prog_10_method_36_code 60 = .ok (.iload 4, 2) := by decide +kernel
theorem d_Mo_better_62 : decode prog_10_method_36_code 62 = .ok (.if_icmp .le (8), 3) := by decide +kernel
theorem d_Mo_better_65 : decode prog_10_method_36_code 65 = .ok (.iload 6, 2) := by decide +kernel
theorem d_Mo_better_67 : decode prog_10_method_36_code 67 = .ok (.goto (5), 3) := by decide +kernel
theorem d_Mo_better_70 : decode prog_10_method_36_code 70 = .ok (.iload 4, 2) := by decide +kernel
theorem d_Mo_better_72 : decode prog_10_method_36_code 72 = .ok (.istore 4, 2) := by decide +kernel
theorem d_Mo_better_74 : decode prog_10_method_36_code 74 = .ok (.iinc 5 (1), 3) := by decide +kernel
theorem d_Mo_better_77 : decode prog_10_method_36_code 77 = .ok (.goto (-48), 3) := by decide +kernel
theorem d_Mo_better_80 : decode prog_10_method_36_code 80 = .ok (.iconst 0, 1) := by decide +kernel
theorem d_Mo_better_81 : decode prog_10_method_36_code 81 = .ok (.istore 5, 2) := by decide +kernel
theorem d_Mo_better_83 : decode prog_10_method_36_code 83 = .ok (.iload 5, 2) := by decide +kernel
theorem d_Mo_better_85 : decode prog_10_method_36_code 85 = .ok (.iload_n 3, 1) := by decide +kernel
theorem d_Mo_better_86 : decode prog_10_method_36_code 86 = .ok (.if_icmp .gt (47), 3) := by decide +kernel
theorem d_Mo_better_89 : decode prog_10_method_36_code 89 = .ok (.aload_n 0, 1) := by decide +kernel
theorem d_Mo_better_90 : decode prog_10_method_36_code 90 = .ok (.getfield 34, 3) := by decide +kernel
theorem d_Mo_better_93 : decode prog_10_method_36_code 93 = .ok (.iload_n 1, 1) := by decide +kernel
theorem d_Mo_better_94 : decode prog_10_method_36_code 94 = .ok (.iaload, 1) := by decide +kernel
theorem d_Mo_better_95 : decode prog_10_method_36_code 95 = .ok (.bipush (7), 2) := by decide +kernel
theorem d_Mo_better_97 : decode prog_10_method_36_code 97 = .ok (.if_icmp .ne (36), 3) := by decide +kernel
theorem d_Mo_better_100 : decode prog_10_method_36_code 100 = .ok (.aload_n 0, 1) := by decide +kernel
theorem d_Mo_better_101 : decode prog_10_method_36_code 101 = .ok (.iload_n 1, 1) := by decide +kernel
theorem d_Mo_better_102 : decode prog_10_method_36_code 102 = .ok (.iload 5, 2) := by decide +kernel
theorem d_Mo_better_104 : decode prog_10_method_36_code 104 = .ok (.iload_n 2, 1) := by decide +kernel
theorem d_Mo_better_105 : decode prog_10_method_36_code 105 = .ok (.iload_n 3, 1) := by decide +kernel
theorem d_Mo_better_106 : decode prog_10_method_36_code 106 = .ok (.invokevirtual 177, 3) := by decide +kernel
theorem d_Mo_better_109 : decode prog_10_method_36_code 109 = .ok (.istore 6, 2) := by decide +kernel
theorem d_Mo_better_111 : decode prog_10_method_36_code 111 = .ok (.iload 6, 2) := by decide +kernel
theorem d_Mo_better_113 : decode prog_10_method_36_code 113 = .ok (.iload 4, 2) := by decide +kernel
theorem d_Mo_better_115 : decode prog_10_method_36_code 115 = .ok (.if_icmp .le (8), 3) := by decide +kernel
theorem d_Mo_better_118 : decode prog_10_method_36_code 118 = .ok (.iload 6, 2) := by decide +kernel
theorem d_Mo_better_120 : decode prog_10_method_36_code 120 = .ok (.goto (5), 3) := by decide +kernel
theorem d_Mo_better_123 : decode prog_10_method_36_code 123 = .ok (.iload 4, 2) := by decide +kernel
theorem d_Mo_better_125 : decode prog_10_method_36_code 125 = .ok (.istore 4, 2) := by decide +kernel
theorem d_Mo_better_127 : decode prog_10_method_36_code 127 = .ok (.iinc 5 (1), 3) := by decide +kernel
theorem d_Mo_better_130 : decode prog_10_method_36_code 130 = .ok (.goto (-47), 3) := by decide +kernel
theorem d_Mo_better_133 : decode prog_10_method_36_code 133 = .ok (.iload 4, 2) := by decide +kernel
theorem d_Mo_better_135 : decode prog_10_method_36_code 135 = .ok (.ireturn, 1) := by decide +kernel
theorem d_Mo_work_0 : decode prog_10_method_37_code 0 = .ok (.aload_n 0, 1) := by decide +kernel
theorem d_Mo_work_1 : decode prog_10_method_37_code 1 = .ok (.getfield 150, 3) := by decide +kernel
theorem d_Mo_work_4 : decode prog_10_method_37_code 4 = .ok (.ifCond .eq (4), 3) := by decide +kernel
theorem d_Mo_work_7 : decode prog_10_method_37_code 7 = .ok (.return_, 1) := by decide +kernel
theorem d_Mo_work_8 : decode prog_10_method_37_code 8 = .ok (.iconst 0, 1) := by decide +kernel
theorem d_Mo_work_9 : decode prog_10_method_37_code 9 = .ok (.istore_n 1, 1) := by decide +kernel
theorem d_Mo_work_10 : decode prog_10_method_37_code 10 = .ok (.iload_n 1, 1) := by decide +kernel
theorem d_Mo_work_11 : decode prog_10_method_37_code 11 = .ok (.sipush (15600), 3) := by decide +kernel
theorem d_Mo_work_14 : decode prog_10_method_37_code 14 = .ok (.if_icmp .ge (17), 3) := by decide +kernel
theorem d_Mo_work_17 : decode prog_10_method_37_code 17 = .ok (.aload_n 0, 1) := by decide +kernel
theorem d_Mo_work_18 : decode prog_10_method_37_code 18 = .ok (.getfield 49, 3) := by decide +kernel
theorem d_Mo_work_21 : decode prog_10_method_37_code 21 = .ok (.iload_n 1, 1) := by decide +kernel
theorem d_Mo_work_22 : decode prog_10_method_37_code 22 = .ok (.ldc 136, 2) := by decide +kernel
theorem d_Mo_work_24 : decode prog_10_method_37_code 24 = .ok (.iastore, 1) := by decide +kernel
theorem d_Mo_work_25 : decode prog_10_method_37_code 25 = .ok (.iinc 1 (1), 3) := by decide +kernel
theorem d_Mo_work_28 : decode prog_10_method_37_code 28 = .ok (.goto (-18), 3) := by decide +kernel
theorem d_Mo_work_31 : decode prog_10_method_37_code 31 = .ok (.iconst 1, 1) := by decide +kernel
theorem d_Mo_work_32 : decode prog_10_method_37_code 32 = .ok (.istore_n 1, 1) := by decide +kernel
theorem d_Mo_work_33 : decode prog_10_method_37_code 33 = .ok (.iload_n 1, 1) := by decide +kernel
theorem d_Mo_work_34 : decode prog_10_method_37_code 34 = .ok (.ifCond .eq (119), 3) := by decide +kernel
theorem d_Mo_work_37 : decode prog_10_method_37_code 37 = .ok (.iconst 0, 1) := by decide +kernel
theorem d_Mo_work_38 : decode prog_10_method_37_code 38 = .ok (.istore_n 1, 1) := by decide +kernel
theorem d_Mo_work_39 : decode prog_10_method_37_code 39 = .ok (.aload_n 0, 1) := by decide +kernel
theorem d_Mo_work_40 : decode prog_10_method_37_code 40 = .ok (.getfield 98, 3) := by decide +kernel
theorem d_Mo_work_43 : decode prog_10_method_37_code 43 = .ok (.iconst 1, 1) := by decide +kernel
theorem d_Mo_work_44 : decode prog_10_method_37_code 44 = .ok (.isub, 1) := by decide +kernel
theorem d_Mo_work_45 : decode prog_10_method_37_code 45 = .ok (.istore_n 2, 1) := by decide +kernel
theorem d_Mo_work_46 : decode prog_10_method_37_code 46 = .ok (.iload_n 2, 1) := by decide +kernel
theorem d_Mo_work_47 : decode prog_10_method_37_code 47 = .ok (.ifCond .lt (103), 3) := by decide +kernel
theorem d_Mo_work_50 : decode prog_10_method_37_code 50 = .ok (.iconst 0, 1) := by decide +kernel
theorem d_Mo_work_51 : decode prog_10_method_37_code 51 = .ok (.istore_n 3, 1) := by decide +kernel
theorem d_Mo_work_52 : decode prog_10_method_37_code 52 = .ok (.iload_n 3, 1) := by decide +kernel
theorem d_Mo_work_53 : decode prog_10_method_37_code 53 = .ok (.aload_n 0, 1) := by decide +kernel
theorem d_Mo_work_54 : decode prog_10_method_37_code 54 = .ok (.getfield 159, 3) := by decide +kernel
theorem d_Mo_work_57 : decode prog_10_method_37_code 57 = .ok (.if_icmp .gt (87), 3) := by decide +kernel
theorem d_Mo_work_60 : decode prog_10_method_37_code 60 = .ok (.iconst 0, 1) := by decide +kernel
theorem d_Mo_work_61 : decode prog_10_method_37_code 61 = .ok (.istore 4, 2) := by decide +kernel
theorem d_Mo_work_63 : decode prog_10_method_37_code 63 = .ok (.iload 4, 2) := by decide +kernel
theorem d_Mo_work_65 : decode prog_10_method_37_code 65 = .ok (.bipush (12), 2) := by decide +kernel
theorem d_Mo_work_67 : decode prog_10_method_37_code 67 = .ok (.if_icmp .gt (71), 3) := by decide +kernel
theorem d_Mo_work_70 : decode prog_10_method_37_code 70 = .ok (.iload_n 3, 1) := by decide +kernel
theorem d_Mo_work_71 : decode prog_10_method_37_code 71 = .ok (.iload 4, 2) := by decide +kernel
theorem d_Mo_work_73 : decode prog_10_method_37_code 73 = .ok (.iadd, 1) := by decide +kernel
theorem d_Mo_work_74 : decode prog_10_method_37_code 74 = .ok (.aload_n 0, 1) := by decide +kernel
theorem d_Mo_work_75 : decode prog_10_method_37_code 75 = .ok (.getfield 159, 3) := by decide +kernel
theorem d_Mo_work_78 : decode prog_10_method_37_code 78 = .ok (.if_icmp .gt (60), 3) := by decide +kernel
theorem d_Mo_work_81 : decode prog_10_method_37_code 81 = .ok (.aload_n 0, 1) := by decide +kernel
theorem d_Mo_work_82 : decode prog_10_method_37_code 82 = .ok (.iload_n 2, 1) := by decide +kernel
theorem d_Mo_work_83 : decode prog_10_method_37_code 83 = .ok (.iload_n 3, 1) := by decide +kernel
theorem d_Mo_work_84 : decode prog_10_method_37_code 84 = .ok (.iload 4, 2) := by decide +kernel
theorem d_Mo_work_86 : decode prog_10_method_37_code 86 = .ok (.invokevirtual 180, 3) := by decide +kernel
theorem d_Mo_work_89 : decode prog_10_method_37_code 89 = .ok (.istore 5, 2) := by decide +kernel
theorem d_Mo_work_91 : decode prog_10_method_37_code 91 = .ok (.iload_n 1, 1) := by decide +kernel
theorem d_Mo_work_92 : decode prog_10_method_37_code 92 = .ok (.ifCond .ne (20), 3) := by decide +kernel
theorem d_Mo_work_95 : decode prog_10_method_37_code 95 = .ok (.iload 5, 2) := by decide +kernel
theorem d_Mo_work_97 : decode prog_10_method_37_code 97 = .ok (.aload_n 0, 1) := by decide +kernel
theorem d_Mo_work_98 : decode prog_10_method_37_code 98 = .ok (.getfield 49, 3) := by decide +kernel
theorem d_Mo_work_101 : decode prog_10_method_37_code 101 = .ok (.iload_n 2, 1) := by decide +kernel
theorem d_Mo_work_102 : decode prog_10_method_37_code 102 = .ok (.iload_n 3, 1) := by decide +kernel
theorem d_Mo_work_103 : decode prog_10_method_37_code 103 = .ok (.iload 4, 2) := by decide +kernel
theorem d_Mo_work_105 : decode prog_10_method_37_code 105 = .ok (.invokestatic 168, 3) := by decide +kernel
theorem d_Mo_work_108 : decode prog_10_method_37_code 108 = .ok (.iaload, 1) := by decide +kernel
theorem d_Mo_work_109 : decode prog_10_method_37_code 109 = .ok (.if_icmp .le (7), 3) := by decide +kernel
theorem d_Mo_work_112 : decode prog_10_method_37_code 112 = .ok (.iconst 1, 1) := by decide +kernel
theorem d_Mo_work_113 : decode prog_10_method_37_code 113 = .ok (.goto (4), 3) := by decide +kernel
theorem d_Mo_work_116 : decode prog_10_method_37_code 116 = .ok (.iconst 0, 1) := by decide +kernel
theorem d_Mo_work_117 : decode prog_10_method_37_code 117 = .ok (.istore_n 1, 1) := by decide +kernel
theorem d_Mo_work_118 : decode prog_10_method_37_code 118 = .ok (.aload_n 0, 1) := by decide +kernel
theorem d_Mo_work_119 : decode prog_10_method_37_code 119 = .ok (.getfield 49, 3) := by decide +kernel
theorem d_Mo_work_122 : decode prog_10_method_37_code 122 = .ok (.iload_n 2, 1) := by decide +kernel
theorem d_Mo_work_123 : decode prog_10_method_37_code 123 = .ok (.iload_n 3, 1) := by decide +kernel
theorem d_Mo_work_124 : decode prog_10_method_37_code 124 = .ok (.iload 4, 2) := by decide +kernel
theorem d_Mo_work_126 : decode prog_10_method_37_code 126 = .ok (.invokestatic 168, 3) := by decide +kernel
theorem d_Mo_work_129 : decode prog_10_method_37_code 129 = .ok (.iload 5, 2) := by decide +kernel
theorem d_Mo_work_131 : decode prog_10_method_37_code 131 = .ok (.iastore, 1) := by decide +kernel
theorem d_Mo_work_132 : decode prog_10_method_37_code 132 = .ok (.iinc 4 (1), 3) := by decide +kernel
theorem d_Mo_work_135 : decode prog_10_method_37_code 135 = .ok (.goto (-72), 3) := by decide +kernel
theorem d_Mo_work_138 : decode prog_10_method_37_code 138 = .ok (.iinc 3 (1), 3) := by decide +kernel
theorem d_Mo_work_141 : decode prog_10_method_37_code 141 = .ok (.goto (-89), 3) := by decide +kernel
theorem d_Mo_work_144 : decode prog_10_method_37_code 144 = .ok (.iinc 2 (-1), 3) := by decide +kernel
theorem d_Mo_work_147 : decode prog_10_method_37_code 147 = .ok (.goto (-101), 3) := by decide +kernel
theorem d_Mo_work_150 : decode prog_10_method_37_code 150 = .ok (.goto (-117), 3) := by decide +kernel
theorem d_Mo_work_153 : decode prog_10_method_37_code 153 = .ok (.aload_n 0, 1) := by decide +kernel
theorem d_Mo_work_154 : decode prog_10_method_37_code 154 = .ok (.iconst 1, 1) := by decide +kernel
theorem d_Mo_work_155 : decode prog_10_method_37_code 155 = .ok (.putfield 150, 3) := by decide +kernel
theorem d_Mo_work_158 : decode prog_10_method_37_code 158 = .ok (.return_, 1) := by decide +kernel
theorem d_Mo_value_0 : decode prog_10_method_38_code 0 = .ok (.aload_n 0, 1) := by decide +kernel
theorem d_Mo_value_1 : decode prog_10_method_38_code 1 = .ok (.iload_n 1, 1) := by decide +kernel
theorem d_Mo_value_2 : decode prog_10_method_38_code 2 = .ok (.invokevirtual 153, 3) := by decide +kernel
theorem d_Mo_value_5 : decode prog_10_method_38_code 5 = .ok (.ifCond .eq (35), 3) := by decide +kernel
theorem d_Mo_value_8 : decode prog_10_method_38_code 8 = .ok (.iload_n 2, 1) := by decide +kernel
theorem d_Mo_value_9 : decode prog_10_method_38_code 9 = .ok (.ifCond .lt (31), 3) := by decide +kernel
theorem d_Mo_value_12 : decode prog_10_method_38_code 12 = .ok (.iload_n 3, 1) := by decide +kernel
theorem d_Mo_value_13 : decode prog_10_method_38_code 13 = .ok (.ifCond .lt (27), 3) := by decide +kernel
theorem d_Mo_value_16 : decode prog_10_method_38_code 16 = .ok (.iload_n 3, 1) := by decide +kernel
theorem d_Mo_value_17 : decode prog_10_method_38_code 17 = .ok (.bipush (12), 2) := by decide +kernel
theorem d_Mo_value_19 : decode prog_10_method_38_code 19 = .ok (.if_icmp .gt (21), 3) := by decide +kernel
theorem d_Mo_value_22 : decode prog_10_method_38_code 22 = .ok (.iload_n 2, 1) := by decide +kernel
theorem d_Mo_value_23 : decode prog_10_method_38_code 23 = .ok (.aload_n 0, 1) := by decide +kernel
theorem d_Mo_value_24 : decode prog_10_method_38_code 24 = .ok (.getfield 159, 3) := by decide +kernel
theorem d_Mo_value_27 : decode prog_10_method_38_code 27 = .ok (.if_icmp .gt (13), 3) := by decide +kernel
theorem d_Mo_value_30 : decode prog_10_method_38_code 30 = .ok (.iload_n 2, 1) := by decide +kernel
theorem d_Mo_value_31 : decode prog_10_method_38_code 31 = .ok (.iload_n 3, 1) := by decide +kernel
theorem d_Mo_value_32 : decode prog_10_method_38_code 32 = .ok (.iadd, 1) := by decide +kernel
theorem d_Mo_value_33 : decode prog_10_method_38_code 33 = .ok (.aload_n 0, 1) := by decide +kernel
theorem d_Mo_value_34 : decode prog_10_method_38_code 34 = .ok (.getfield 159, 3) := by decide +kernel
theorem d_Mo_value_37 : decode prog_10_method_38_code 37 = .ok (.if_icmp .le (6), 3) := by decide +kernel
theorem d_Mo_value_40 : decode prog_10_method_38_code 40 = .ok (.ldc 136, 2) := by decide +kernel
theorem d_Mo_value_42 : decode prog_10_method_38_code 42 = .ok (.ireturn, 1) := by decide +kernel
theorem d_Mo_value_43 : decode prog_10_method_38_code 43 = .ok (.aload_n 0, 1) := by decide +kernel
theorem d_Mo_value_44 : decode prog_10_method_38_code 44 = .ok (.invokevirtual 183, 3) := by decide +kernel
theorem d_Mo_value_47 : decode prog_10_method_38_code 47 = .ok (.aload_n 0, 1) := by decide +kernel
theorem d_Mo_value_48 : decode prog_10_method_38_code 48 = .ok (.getfield 49, 3) := by decide +kernel
theorem d_Mo_value_51 : decode prog_10_method_38_code 51 = .ok (.iload_n 1, 1) := by decide +kernel
theorem d_Mo_value_52 : decode prog_10_method_38_code 52 = .ok (.iload_n 2, 1) := by decide +kernel
theorem d_Mo_value_53 : decode prog_10_method_38_code 53 = .ok (.iload_n 3, 1) := by decide +kernel
theorem d_Mo_value_54 : decode prog_10_method_38_code 54 = .ok (.invokestatic 168, 3) := by decide +kernel
theorem d_Mo_value_57 : decode prog_10_method_38_code 57 = .ok (.iaload, 1) := by decide +kernel
theorem d_Mo_value_58 : decode prog_10_method_38_code 58 = .ok (.ireturn, 1) := by decide +kernel
theorem d_Mo_free_0 : decode prog_10_method_39_code 0 = .ok (.iconst 1, 1) := by decide +kernel
theorem d_Mo_free_1 : decode prog_10_method_39_code 1 = .ok (.istore_n 3, 1) := by decide +kernel
theorem d_Mo_free_2 : decode prog_10_method_39_code 2 = .ok (.iconst 0, 1) := by decide +kernel
theorem d_Mo_free_3 : decode prog_10_method_39_code 3 = .ok (.istore 4, 2) := by decide +kernel
theorem d_Mo_free_5 : decode prog_10_method_39_code 5 = .ok (.iload 4, 2) := by decide +kernel
theorem d_Mo_free_7 : decode prog_10_method_39_code 7 = .ok (.aload_n 0, 1) := by decide +kernel
theorem d_Mo_free_8 : decode prog_10_method_39_code 8 = .ok (.getfield 78, 3) := by decide +kernel
theorem d_Mo_free_11 : decode prog_10_method_39_code 11 = .ok (.if_icmp .ge (51), 3) := by decide +kernel
theorem d_Mo_free_14 : decode prog_10_method_39_code 14 = .ok (.iload_n 3, 1) := by decide +kernel
theorem d_Mo_free_15 : decode prog_10_method_39_code 15 = .ok (.ifCond .eq (39), 3) := by decide +kernel
theorem d_Mo_free_18 : decode prog_10_method_39_code 18 = .ok (.iload_n 1, 1) := by decide +kernel
theorem d_Mo_free_19 : decode prog_10_method_39_code 19 = .ok (.iload_n 2, 1) := by decide +kernel
theorem d_Mo_free_20 : decode prog_10_method_39_code 20 = .ok (.iadd, 1) := by decide +kernel
theorem d_Mo_free_21 : decode prog_10_method_39_code 21 = .ok (.aload_n 0, 1) := by decide +kernel
theorem d_Mo_free_22 : decode prog_10_method_39_code 22 = .ok (.getfield 52, 3) := by decide +kernel
theorem d_Mo_free_25 : decode prog_10_method_39_code 25 = .ok (.iload 4, 2) := by decide +kernel
theorem d_Mo_free_27 : decode prog_10_method_39_code 27 = .ok (.iaload, 1) := by decide +kernel
theorem d_Mo_free_28 : decode prog_10_method_39_code 28 = .ok (.if_icmp .le (22), 3) := by decide +kernel
theorem d_Mo_free_31 : decode prog_10_method_39_code 31 = .ok (.aload_n 0, 1) := by decide +kernel
theorem d_Mo_free_32 : decode prog_10_method_39_code 32 = .ok (.getfield 52, 3) := by decide +kernel
theorem d_Mo_free_35 : decode prog_10_method_39_code 35 = .ok (.iload 4, 2) := by decide +kernel
theorem d_Mo_free_37 : decode prog_10_method_39_code 37 = .ok (.iaload, 1) := by decide +kernel
theorem d_Mo_free_38 : decode prog_10_method_39_code 38 = .ok (.aload_n 0, 1) := by decide +kernel
theorem d_Mo_free_39 : decode prog_10_method_39_code 39 = .ok (.getfield 55, 3) := by decide +kernel
theorem d_Mo_free_42 : decode prog_10_method_39_code 42 = .ok (.iload 4, 2) := by decide +kernel
theorem d_Mo_free_44 : decode prog_10_method_39_code 44 = .ok (.iaload, 1) := by decide +kernel
theorem d_Mo_free_45 : decode prog_10_method_39_code 45 = .ok (.iadd, 1) := by decide +kernel
theorem d_Mo_free_46 : decode prog_10_method_39_code 46 = .ok (.iload_n 1, 1) := by decide +kernel
theorem d_Mo_free_47 : decode prog_10_method_39_code 47 = .ok (.if_icmp .gt (7), 3) := by decide +kernel
theorem d_Mo_free_50 : decode prog_10_method_39_code 50 = .ok (.iconst 1, 1) := by decide +kernel
theorem d_Mo_free_51 : decode prog_10_method_39_code 51 = .ok (.goto (4), 3) := by decide +kernel
theorem d_Mo_free_54 : decode prog_10_method_39_code 54 = .ok (.iconst 0, 1) := by decide +kernel
theorem d_Mo_free_55 : decode prog_10_method_39_code 55 = .ok (.istore_n 3, 1) := by decide +kernel
theorem d_Mo_free_56 : decode prog_10_method_39_code 56 = .ok (.iinc 4 (1), 3) := by decide +kernel
theorem d_Mo_free_59 : decode prog_10_method_39_code 59 = .ok (.goto (-54), 3) := by decide +kernel
theorem d_Mo_free_62 : decode prog_10_method_39_code 62 = .ok (.iload_n 3, 1) := by decide +kernel
theorem d_Mo_free_63 : decode prog_10_method_39_code 63 = .ok (.ireturn, 1) := by decide +kernel
theorem d_Mo_scan_0 : decode prog_10_method_40_code 0 = .ok (.aload_n 0, 1) := by decide +kernel
theorem d_Mo_scan_1 : decode prog_10_method_40_code 1 = .ok (.getfield 74, 3) := by decide +kernel
theorem d_Mo_scan_4 : decode prog_10_method_40_code 4 = .ok (.ifCond .eq (14), 3) := by decide +kernel
theorem d_Mo_scan_7 : decode prog_10_method_40_code 7 = .ok (.iload_n 1, 1) := by decide +kernel
theorem d_Mo_scan_8 : decode prog_10_method_40_code 8 = .ok (.iconst 1, 1) := by decide +kernel
theorem d_Mo_scan_9 : decode prog_10_method_40_code 9 = .ok (.if_icmp .lt (9), 3) := by decide +kernel
theorem d_Mo_scan_12 : decode prog_10_method_40_code 12 = .ok (.iload_n 1, 1) := by decide +kernel
theorem d_Mo_scan_13 : decode prog_10_method_40_code 13 = .ok (.bipush (12), 2) := by decide +kernel
theorem d_Mo_scan_15 : decode prog_10_method_40_code 15 = .ok (.if_icmp .le (6), 3) := by decide +kernel
theorem d_Mo_scan_18 : decode prog_10_method_40_code 18 = .ok (.ldc 136, 2) := by decide +kernel
theorem d_Mo_scan_20 : decode prog_10_method_40_code 20 = .ok (.ireturn, 1) := by decide +kernel
theorem d_Mo_scan_21 : decode prog_10_method_40_code 21 = .ok (.aload_n 0, 1) := by decide +kernel
theorem d_Mo_scan_22 : decode prog_10_method_40_code 22 = .ok (.invokevirtual 183, 3) := by decide +kernel
theorem d_Mo_scan_25 : decode prog_10_method_40_code 25 = .ok (.aload_n 0, 1) := by decide +kernel
theorem d_Mo_scan_26 : decode prog_10_method_40_code 26 = .ok (.iconst 0, 1) := by decide +kernel
theorem d_Mo_scan_27 : decode prog_10_method_40_code 27 = .ok (.putfield 78, 3) := by decide +kernel
theorem d_Mo_scan_30 : decode prog_10_method_40_code 30 = .ok (.iconst 1, 1) := by decide +kernel
theorem d_Mo_scan_31 : decode prog_10_method_40_code 31 = .ok (.istore_n 3, 1) := by decide +kernel
theorem d_Mo_scan_32 : decode prog_10_method_40_code 32 = .ok (.iload_n 3, 1) := by decide +kernel
theorem d_Mo_scan_33 : decode prog_10_method_40_code 33 = .ok (.ifCond .eq (171), 3) := by decide +kernel
theorem d_Mo_scan_36 : decode prog_10_method_40_code 36 = .ok (.iconst (-1), 1) := by decide +kernel
theorem d_Mo_scan_37 : decode prog_10_method_40_code 37 = .ok (.istore 4, 2) := by decide +kernel
theorem d_Mo_scan_39 : decode prog_10_method_40_code 39 = .ok (.iconst 0, 1) := by decide +kernel
theorem d_Mo_scan_40 : decode prog_10_method_40_code 40 = .ok (.istore 5, 2) := by decide +kernel
theorem d_Mo_scan_42 : decode prog_10_method_40_code 42 = .ok (.ldc 136, 2) := by decide +kernel
theorem d_Mo_scan_44 : decode prog_10_method_40_code 44 = .ok (.istore 6, 2) := by decide +kernel
theorem d_Mo_scan_46 : decode prog_10_method_40_code 46 = .ok (.iconst 0, 1) := by decide +kernel
theorem d_Mo_scan_47 : decode prog_10_method_40_code 47 = .ok (.istore 7, 2) := by decide +kernel
theorem d_Mo_scan_49 : decode prog_10_method_40_code 49 = .ok (.iload 7, 2) := by decide +kernel
theorem d_Mo_scan_51 : decode prog_10_method_40_code 51 = .ok (.aload_n 0, 1) := by decide +kernel
theorem d_Mo_scan_52 : decode prog_10_method_40_code 52 = .ok (.getfield 159, 3) := by decide +kernel
theorem d_Mo_scan_55 : decode prog_10_method_40_code 55 = .ok (.if_icmp .ge (99), 3) := by decide +kernel
theorem d_Mo_scan_58 : decode prog_10_method_40_code 58 = .ok (.iconst 1, 1) := by decide +kernel
theorem d_Mo_scan_59 : decode prog_10_method_40_code 59 = .ok (.istore 8, 2) := by decide +kernel
theorem d_Mo_scan_61 : decode prog_10_method_40_code 61 = .ok (.iload 8, 2) := by decide +kernel
theorem d_Mo_scan_63 : decode prog_10_method_40_code 63 = .ok (.iload_n 1, 1) := by decide +kernel
theorem d_Mo_scan_64 : decode prog_10_method_40_code 64 = .ok (.if_icmp .gt (84), 3) := by decide +kernel
theorem d_Mo_scan_67 : decode prog_10_method_40_code 67 = .ok (.iload 7, 2) := by decide +kernel
theorem d_Mo_scan_69 : decode prog_10_method_40_code 69 = .ok (.iload 8, 2) := by decide +kernel
theorem d_Mo_scan_71 : decode prog_10_method_40_code 71 = .ok (.iadd, 1) := by decide +kernel
theorem d_Mo_scan_72 : decode prog_10_method_40_code 72 = .ok (.aload_n 0, 1) := by decide +kernel
theorem d_Mo_scan_73 : decode prog_10_method_40_code 73 = .ok (.getfield 159, 3) := by decide +kernel
theorem d_Mo_scan_76 : decode prog_10_method_40_code 76 = .ok (.if_icmp .gt (72), 3) := by decide +kernel
theorem d_Mo_scan_79 : decode prog_10_method_40_code 79 = .ok (.aload_n 0, 1) := by decide +kernel
theorem d_Mo_scan_80 : decode prog_10_method_40_code 80 = .ok (.getfield 49, 3) := by decide +kernel
theorem d_Mo_scan_83 : decode prog_10_method_40_code 83 = .ok (.iconst 0, 1) := by decide +kernel
theorem d_Mo_scan_84 : decode prog_10_method_40_code 84 = .ok (.iload 7, 2) := by decide +kernel
theorem d_Mo_scan_86 : decode prog_10_method_40_code 86 = .ok (.iload 8, 2) := by decide +kernel
theorem d_Mo_scan_88 : decode prog_10_method_40_code 88 = .ok (.invokestatic 168, 3) := by decide +kernel
theorem d_Mo_scan_91 : decode prog_10_method_40_code 91 = .ok (.iaload, 1) := by decide +kernel
theorem d_Mo_scan_92 : decode prog_10_method_40_code 92 = .ok (.istore 9, 2) := by decide +kernel
theorem d_Mo_scan_94 : decode prog_10_method_40_code 94 = .ok (.iload 9, 2) := by decide +kernel
theorem d_Mo_scan_96 : decode prog_10_method_40_code 96 = .ok (.ldc 136, 2) := by decide +kernel
theorem d_Mo_scan_98 : decode prog_10_method_40_code 98 = .ok (.if_icmp .eq (44), 3) := by decide +kernel
theorem d_Mo_scan_101 : decode prog_10_method_40_code 101 = .ok (.iload 9, 2) := by decide +kernel
theorem d_Mo_scan_103 : decode prog_10_method_40_code 103 = .ok (.iload_n 2, 1) := by decide +kernel
theorem d_Mo_scan_104 : decode prog_10_method_40_code 104 = .ok (.if_icmp .lt (38), 3) := by decide +kernel
theorem d_Mo_scan_107 : decode prog_10_method_40_code 107 = .ok (.iload 4, 2) := by decide +kernel
theorem d_Mo_scan_109 : decode prog_10_method_40_code 109 = .ok (.ifCond .lt (10), 3) := by decide +kernel
theorem d_Mo_scan_112 : decode prog_10_method_40_code 112 = .ok (.iload 9, 2) := by decide +kernel
theorem d_Mo_scan_114 : decode prog_10_method_40_code 114 = .ok (.iload 6, 2) := by decide +kernel
theorem d_Mo_scan_116 : decode prog_10_method_40_code 116 = .ok (.if_icmp .le (26), 3) := by decide +kernel
theorem d_Mo_scan_119 : decode prog_10_method_40_code 119 = .ok (.aload_n 0, 1) := by decide +kernel
theorem d_Mo_scan_120 : decode prog_10_method_40_code 120 = .ok (.iload 7, 2) := by decide +kernel
theorem d_Mo_scan_122 : decode prog_10_method_40_code 122 = .ok (.iload 8, 2) := by decide +kernel
theorem d_Mo_scan_124 : decode prog_10_method_40_code 124 = .ok (.invokevirtual 186, 3) := by decide +kernel
theorem d_Mo_scan_127 : decode prog_10_method_40_code 127 = .ok (.ifCond .eq (15), 3) := by decide +kernel
theorem d_Mo_scan_130 : decode prog_10_method_40_code 130 = .ok (.iload 7, 2) := by decide +kernel
theorem d_Mo_scan_132 : decode prog_10_method_40_code 132 = .ok (.istore 4, 2) := by decide +kernel
theorem d_Mo_scan_134 : decode prog_10_method_40_code 134 = .ok (.iload 8, 2) := by decide +kernel
theorem d_Mo_scan_136 : decode prog_10_method_40_code 136 = .ok (.istore 5, 2) := by decide +kernel
theorem d_Mo_scan_138 : decode prog_10_method_40_code 138 = .ok (.iload 9, 2) := by decide +kernel
theorem d_Mo_scan_140 : decode prog_10_method_40_code 140 = .ok (.istore 6, 2) := by decide +kernel
theorem d_Mo_scan_142 : decode prog_10_method_40_code 142 = .ok (.iinc 8 (1), 3) := by decide +kernel
theorem d_Mo_scan_145 : decode prog_10_method_40_code 145 = .ok (.goto (-84), 3) := by decide +kernel
theorem d_Mo_scan_148 : decode prog_10_method_40_code 148 = .ok (.iinc 7 (1), 3) := by decide +kernel
theorem d_Mo_scan_151 : decode prog_10_method_40_code 151 = .ok (.goto (-102), 3) := by decide +kernel
theorem d_Mo_scan_154 : decode prog_10_method_40_code 154 = .ok (.iload 4, 2) := by decide +kernel
theorem d_Mo_scan_156 : decode prog_10_method_40_code 156 = .ok (.ifCond .lt (7), 3) := by decide +kernel
theorem d_Mo_scan_159 : decode prog_10_method_40_code 159 = .ok (.iconst 1, 1) := by decide +kernel
theorem d_Mo_scan_160 : decode prog_10_method_40_code 160 = .ok (.goto (4), 3) := by decide +kernel
theorem d_Mo_scan_163 : decode prog_10_method_40_code 163 = .ok (.iconst 0, 1) := by decide +kernel
theorem d_Mo_scan_164 : decode prog_10_method_40_code 164 = .ok (.istore_n 3, 1) := by decide +kernel
theorem d_Mo_scan_165 : decode prog_10_method_40_code 165 = .ok (.iload_n 3, 1) := by decide +kernel
theorem d_Mo_scan_166 : decode prog_10_method_40_code 166 = .ok (.ifCond .eq (35), 3) := by decide +kernel
theorem d_Mo_scan_169 : decode prog_10_method_40_code 169 = .ok (.aload_n 0, 1) := by decide +kernel
theorem d_Mo_scan_170 : decode prog_10_method_40_code 170 = .ok (.getfield 52, 3) := by decide +kernel
theorem d_Mo_scan_173 : decode prog_10_method_40_code 173 = .ok (.aload_n 0, 1) := by decide +kernel
theorem d_Mo_scan_174 : decode prog_10_method_40_code 174 = .ok (.getfield 78, 3) := by decide +kernel
theorem d_Mo_scan_177 : decode prog_10_method_40_code 177 = .ok (.iload 4, 2) := by decide +kernel
theorem d_Mo_scan_179 : decode prog_10_method_40_code 179 = .ok (.iastore, 1) := by decide +kernel
theorem d_Mo_scan_180 : decode prog_10_method_40_code 180 = .ok (.aload_n 0, 1) := by decide +kernel
theorem d_Mo_scan_181 : decode prog_10_method_40_code 181 = .ok (.getfield 55, 3) := by decide +kernel
theorem d_Mo_scan_184 : decode prog_10_method_40_code 184 = .ok (.aload_n 0, 1) := by decide +kernel
theorem d_Mo_scan_185 : decode prog_10_method_40_code 185 = .ok (.getfield 78, 3) := by decide +kernel
theorem d_Mo_scan_188 : decode prog_10_method_40_code 188 = .ok (.iload 5, 2) := by decide +kernel
theorem d_Mo_scan_190 : decode prog_10_method_40_code 190 = .ok (.iastore, 1) := by decide +kernel
theorem d_Mo_scan_191 : decode prog_10_method_40_code 191 = .ok (.aload_n 0, 1) := by decide +kernel
theorem d_Mo_scan_192 : decode prog_10_method_40_code 192 = .ok (.aload_n 0, 1) := by decide +kernel
theorem d_Mo_scan_193 : decode prog_10_method_40_code 193 = .ok (.getfield 78, 3) := by decide +kernel
theorem d_Mo_scan_196 : decode prog_10_method_40_code 196 = .ok (.iconst 1, 1) := by decide +kernel
theorem d_Mo_scan_197 : decode prog_10_method_40_code 197 = .ok (.iadd, 1) := by decide +kernel
theorem d_Mo_scan_198 : decode prog_10_method_40_code 198 = .ok (.putfield 78, 3) := by decide +kernel
theorem d_Mo_scan_201 : decode prog_10_method_40_code 201 = .ok (.goto (-169), 3) := by decide +kernel
theorem d_Mo_scan_204 : decode prog_10_method_40_code 204 = .ok (.aload_n 0, 1) := by decide +kernel
theorem d_Mo_scan_205 : decode prog_10_method_40_code 205 = .ok (.getfield 78, 3) := by decide +kernel
theorem d_Mo_scan_208 : decode prog_10_method_40_code 208 = .ok (.ireturn, 1) := by decide +kernel
theorem d_Mo_write_0 : decode prog_10_method_41_code 0 = .ok (.aload_n 0, 1) := by decide +kernel
theorem d_Mo_write_1 : decode prog_10_method_41_code 1 = .ok (.iconst 0, 1) := by decide +kernel
theorem d_Mo_write_2 : decode prog_10_method_41_code 2 = .ok (.putfield 190, 3) := by decide +kernel
theorem d_Mo_write_5 : decode prog_10_method_41_code 5 = .ok (.aload_n 0, 1) := by decide +kernel
theorem d_Mo_write_6 : decode prog_10_method_41_code 6 = .ok (.iconst 0, 1) := by decide +kernel
theorem d_Mo_write_7 : decode prog_10_method_41_code 7 = .ok (.iconst 0, 1) := by decide +kernel
theorem d_Mo_write_8 : decode prog_10_method_41_code 8 = .ok (.aload_n 0, 1) := by decide +kernel
theorem d_Mo_write_9 : decode prog_10_method_41_code 9 = .ok (.getfield 52, 3) := by decide +kernel
theorem d_Mo_write_12 : decode prog_10_method_41_code 12 = .ok (.iload_n 1, 1) := by decide +kernel
theorem d_Mo_write_13 : decode prog_10_method_41_code 13 = .ok (.iaload, 1) := by decide +kernel
theorem d_Mo_write_14 : decode prog_10_method_41_code 14 = .ok (.aload_n 0, 1) := by decide +kernel
theorem d_Mo_write_15 : decode prog_10_method_41_code 15 = .ok (.getfield 55, 3) := by decide +kernel
theorem d_Mo_write_18 : decode prog_10_method_41_code 18 = .ok (.iload_n 1, 1) := by decide +kernel
theorem d_Mo_write_19 : decode prog_10_method_41_code 19 = .ok (.iaload, 1) := by decide +kernel
theorem d_Mo_write_20 : decode prog_10_method_41_code 20 = .ok (.invokevirtual 94, 3) := by decide +kernel
theorem d_Mo_write_23 : decode prog_10_method_41_code 23 = .ok (.istore_n 2, 1) := by decide +kernel
theorem d_Mo_write_24 : decode prog_10_method_41_code 24 = .ok (.iload_n 2, 1) := by decide +kernel
theorem d_Mo_write_25 : decode prog_10_method_41_code 25 = .ok (.ifCond .le (291), 3) := by decide +kernel
theorem d_Mo_write_28 : decode prog_10_method_41_code 28 = .ok (.iload_n 2, 1) := by decide +kernel
theorem d_Mo_write_29 : decode prog_10_method_41_code 29 = .ok (.iconst 3, 1) := by decide +kernel
theorem d_Mo_write_30 : decode prog_10_method_41_code 30 = .ok (.isub, 1) := by decide +kernel
theorem d_Mo_write_31 : decode prog_10_method_41_code 31 = .ok (.istore_n 2, 1) := by decide +kernel
theorem d_Mo_write_32 : decode prog_10_method_41_code 32 = .ok (.aload_n 0, 1) := by decide +kernel
theorem d_Mo_write_33 : decode prog_10_method_41_code 33 = .ok (.getfield 67, 3) := by decide +kernel
theorem d_Mo_write_36 : decode prog_10_method_41_code 36 = .ok (.iload_n 2, 1) := by decide +kernel
theorem d_Mo_write_37 : decode prog_10_method_41_code 37 = .ok (.iaload, 1) := by decide +kernel
theorem d_Mo_write_38 : decode prog_10_method_41_code 38 = .ok (.istore_n 3, 1) := by decide +kernel
theorem d_Mo_write_39 : decode prog_10_method_41_code 39 = .ok (.aload_n 0, 1) := by decide +kernel
theorem d_Mo_write_40 : decode prog_10_method_41_code 40 = .ok (.getfield 67, 3) := by decide +kernel
theorem d_Mo_write_43 : decode prog_10_method_41_code 43 = .ok (.iload_n 2, 1) := by decide +kernel
theorem d_Mo_write_44 : decode prog_10_method_41_code 44 = .ok (.iconst 1, 1) := by decide +kernel
theorem d_Mo_write_45 : decode prog_10_method_41_code 45 = .ok (.iadd, 1) := by decide +kernel
theorem d_Mo_write_46 : decode prog_10_method_41_code 46 = .ok (.iaload, 1) := by decide +kernel
theorem d_Mo_write_47 : decode prog_10_method_41_code 47 = .ok (.istore 4, 2) := by decide +kernel
theorem d_Mo_write_49 : decode prog_10_method_41_code 49 = .ok (.aload_n 0, 1) := by decide +kernel
theorem d_Mo_write_50 : decode prog_10_method_41_code 50 = .ok (.getfield 67, 3) := by decide +kernel
theorem d_Mo_write_53 : decode prog_10_method_41_code 53 = .ok (.iload_n 2, 1) := by decide +kernel
theorem d_Mo_write_54 : decode prog_10_method_41_code 54 = .ok (.iconst 2, 1) := by decide +kernel
theorem d_Mo_write_55 : decode prog_10_method_41_code 55 = .ok (.iadd, 1) := by decide +kernel
theorem d_Mo_write_56 : decode prog_10_method_41_code 56 = .ok (.iaload, 1) := by decide +kernel
theorem d_Mo_write_57 : decode prog_10_method_41_code 57 = .ok (.istore 5, 2) := by decide +kernel
theorem d_Mo_write_59 : decode prog_10_method_41_code 59 = .ok (.aload_n 0, 1) := by decide +kernel
theorem d_Mo_write_60 : decode prog_10_method_41_code 60 = .ok (.getfield 58, 3) := by decide +kernel
theorem d_Mo_write_63 : decode prog_10_method_41_code 63 = .ok (.aload_n 0, 1) := by decide +kernel
theorem d_Mo_write_64 : decode prog_10_method_41_code 64 = .ok (.getfield 190, 3) := by decide +kernel
theorem d_Mo_write_67 : decode prog_10_method_41_code 67 = .ok (.iload_n 3, 1) := by decide +kernel
theorem d_Mo_write_68 : decode prog_10_method_41_code 68 = .ok (.iastore, 1) := by decide +kernel
theorem d_Mo_write_69 : decode prog_10_method_41_code 69 = .ok (.aload_n 0, 1) := by decide +kernel
theorem d_Mo_write_70 : decode prog_10_method_41_code 70 = .ok (.getfield 61, 3) := by decide +kernel
theorem d_Mo_write_73 : decode prog_10_method_41_code 73 = .ok (.aload_n 0, 1) := by decide +kernel
theorem d_Mo_write_74 : decode prog_10_method_41_code 74 = .ok (.getfield 190, 3) := by decide +kernel
theorem d_Mo_write_77 : decode prog_10_method_41_code 77 = .ok (.iload 4, 2) := by decide +kernel
theorem d_Mo_write_79 : decode prog_10_method_41_code 79 = .ok (.iastore, 1) := by decide +kernel
theorem d_Mo_write_80 : decode prog_10_method_41_code 80 = .ok (.aload_n 0, 1) := by decide +kernel
theorem d_Mo_write_81 : decode prog_10_method_41_code 81 = .ok (.getfield 64, 3) := by decide +kernel
theorem d_Mo_write_84 : decode prog_10_method_41_code 84 = .ok (.aload_n 0, 1) := by decide +kernel
theorem d_Mo_write_85 : decode prog_10_method_41_code 85 = .ok (.getfield 190, 3) := by decide +kernel
theorem d_Mo_write_88 : decode prog_10_method_41_code 88 = .ok (.iload 5, 2) := by decide +kernel
theorem d_Mo_write_90 : decode prog_10_method_41_code 90 = .ok (.iastore, 1) := by decide +kernel
theorem d_Mo_write_91 : decode prog_10_method_41_code 91 = .ok (.aload_n 0, 1) := by decide +kernel
theorem d_Mo_write_92 : decode prog_10_method_41_code 92 = .ok (.aload_n 0, 1) := by decide +kernel
theorem d_Mo_write_93 : decode prog_10_method_41_code 93 = .ok (.getfield 190, 3) := by decide +kernel
theorem d_Mo_write_96 : decode prog_10_method_41_code 96 = .ok (.iconst 1, 1) := by decide +kernel
theorem d_Mo_write_97 : decode prog_10_method_41_code 97 = .ok (.iadd, 1) := by decide +kernel
theorem d_Mo_write_98 : decode prog_10_method_41_code 98 = .ok (.putfield 190, 3) := by decide +kernel
theorem d_Mo_write_101 : decode prog_10_method_41_code 101 = .ok (.aload_n 0, 1) := by decide +kernel
theorem d_Mo_write_102 : decode prog_10_method_41_code 102 = .ok (.getfield 49, 3) := by decide +kernel
theorem d_Mo_write_105 : decode prog_10_method_41_code 105 = .ok (.iload_n 3, 1) := by decide +kernel
theorem d_Mo_write_106 : decode prog_10_method_41_code 106 = .ok (.iload 4, 2) := by decide +kernel
theorem d_Mo_write_108 : decode prog_10_method_41_code 108 = .ok (.iload 5, 2) := by decide +kernel
theorem d_Mo_write_110 : decode prog_10_method_41_code 110 = .ok (.invokestatic 168, 3) := by decide +kernel
theorem d_Mo_write_113 : decode prog_10_method_41_code 113 = .ok (.iaload, 1) := by decide +kernel
theorem d_Mo_write_114 : decode prog_10_method_41_code 114 = .ok (.istore 6, 2) := by decide +kernel
theorem d_Mo_write_116 : decode prog_10_method_41_code 116 = .ok (.aload_n 0, 1) := by decide +kernel
theorem d_Mo_write_117 : decode prog_10_method_41_code 117 = .ok (.getfield 34, 3) := by decide +kernel
theorem d_Mo_write_120 : decode prog_10_method_41_code 120 = .ok (.iload_n 3, 1) := by decide +kernel
theorem d_Mo_write_121 : decode prog_10_method_41_code 121 = .ok (.iaload, 1) := by decide +kernel
theorem d_Mo_write_122 : decode prog_10_method_41_code 122 = .ok (.bipush (7), 2) := by decide +kernel
theorem d_Mo_write_124 : decode prog_10_method_41_code 124 = .ok (.if_icmp .ne (79), 3) := by decide +kernel
theorem d_Mo_write_127 : decode prog_10_method_41_code 127 = .ok (.iconst 0, 1) := by decide +kernel
theorem d_Mo_write_128 : decode prog_10_method_41_code 128 = .ok (.istore 7, 2) := by decide +kernel
theorem d_Mo_write_130 : decode prog_10_method_41_code 130 = .ok (.iload 7, 2) := by decide +kernel
theorem d_Mo_write_132 : decode prog_10_method_41_code 132 = .ok (.iload 5, 2) := by decide +kernel
theorem d_Mo_write_134 : decode prog_10_method_41_code 134 = .ok (.if_icmp .ge (28), 3) := by decide +kernel
theorem d_Mo_write_137 : decode prog_10_method_41_code 137 = .ok (.aload_n 0, 1) := by decide +kernel
theorem d_Mo_write_138 : decode prog_10_method_41_code 138 = .ok (.iload_n 3, 1) := by decide +kernel
theorem d_Mo_write_139 : decode prog_10_method_41_code 139 = .ok (.iload 7, 2) := by decide +kernel
theorem d_Mo_write_141 : decode prog_10_method_41_code 141 = .ok (.iload 4, 2) := by decide +kernel
theorem d_Mo_write_143 : decode prog_10_method_41_code 143 = .ok (.iload 5, 2) := by decide +kernel
theorem d_Mo_write_145 : decode prog_10_method_41_code 145 = .ok (.invokevirtual 177, 3) := by decide +kernel
theorem d_Mo_write_148 : decode prog_10_method_41_code 148 = .ok (.iload 6, 2) := by decide +kernel
theorem d_Mo_write_150 : decode prog_10_method_41_code 150 = .ok (.if_icmp .eq (12), 3) := by decide +kernel
