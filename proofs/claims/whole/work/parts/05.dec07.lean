/-! decode rows (written by wip/gen) -/
theorem d_Mo_hit_78 : decode prog_10_method_42_code 78 = .ok (.getfield 55, 3) := by decide +kernel
theorem d_Mo_hit_81 : decode prog_10_method_42_code 81 = .ok (.iload_n 1, 1) := by decide +kernel
theorem d_Mo_hit_82 : decode prog_10_method_42_code 82 = .ok (.iaload, 1) := by decide +kernel
theorem d_Mo_hit_83 : decode prog_10_method_42_code 83 = .ok (.invokestatic 168, 3) := by decide +kernel
theorem d_Mo_hit_86 : decode prog_10_method_42_code 86 = .ok (.iaload, 1) := by decide +kernel
theorem d_Mo_hit_87 : decode prog_10_method_42_code 87 = .ok (.goto (7), 3) := by decide +kernel
theorem d_Mo_hit_90 : decode prog_10_method_42_code 90 = .ok (.aload_n 0, 1) := by decide +kernel
theorem d_Mo_hit_91 : decode prog_10_method_42_code 91 = .ok (.getfield 190, 3) := by decide +kernel
theorem d_Mo_hit_94 : decode prog_10_method_42_code 94 = .ok (.ireturn, 1) := by decide +kernel
theorem d_Mo_derived_0 : decode prog_10_method_43_code 0 = .ok (.iload_n 1, 1) := by decide +kernel
theorem d_Mo_derived_1 : decode prog_10_method_43_code 1 = .ok (.ifCond .lt (20), 3) := by decide +kernel
theorem d_Mo_derived_4 : decode prog_10_method_43_code 4 = .ok (.iload_n 1, 1) := by decide +kernel
theorem d_Mo_derived_5 : decode prog_10_method_43_code 5 = .ok (.aload_n 0, 1) := by decide +kernel
theorem d_Mo_derived_6 : decode prog_10_method_43_code 6 = .ok (.getfield 78, 3) := by decide +kernel
theorem d_Mo_derived_9 : decode prog_10_method_43_code 9 = .ok (.if_icmp .ge (12), 3) := by decide +kernel
theorem d_Mo_derived_12 : decode prog_10_method_43_code 12 = .ok (.iload_n 3, 1) := by decide +kernel
theorem d_Mo_derived_13 : decode prog_10_method_43_code 13 = .ok (.ifCond .lt (8), 3) := by decide +kernel
theorem d_Mo_derived_16 : decode prog_10_method_43_code 16 = .ok (.iload_n 3, 1) := by decide +kernel
theorem d_Mo_derived_17 : decode prog_10_method_43_code 17 = .ok (.iconst 2, 1) := by decide +kernel
theorem d_Mo_derived_18 : decode prog_10_method_43_code 18 = .ok (.if_icmp .le (6), 3) := by decide +kernel
theorem d_Mo_derived_21 : decode prog_10_method_43_code 21 = .ok (.ldc 136, 2) := by decide +kernel
theorem d_Mo_derived_23 : decode prog_10_method_43_code 23 = .ok (.ireturn, 1) := by decide +kernel
theorem d_Mo_derived_24 : decode prog_10_method_43_code 24 = .ok (.aload_n 0, 1) := by decide +kernel
theorem d_Mo_derived_25 : decode prog_10_method_43_code 25 = .ok (.iload_n 1, 1) := by decide +kernel
theorem d_Mo_derived_26 : decode prog_10_method_43_code 26 = .ok (.invokevirtual 193, 3) := by decide +kernel
theorem d_Mo_derived_29 : decode prog_10_method_43_code 29 = .ok (.iload_n 2, 1) := by decide +kernel
theorem d_Mo_derived_30 : decode prog_10_method_43_code 30 = .ok (.ifCond .lt (11), 3) := by decide +kernel
theorem d_Mo_derived_33 : decode prog_10_method_43_code 33 = .ok (.iload_n 2, 1) := by decide +kernel
theorem d_Mo_derived_34 : decode prog_10_method_43_code 34 = .ok (.aload_n 0, 1) := by decide +kernel
theorem d_Mo_derived_35 : decode prog_10_method_43_code 35 = .ok (.getfield 190, 3) := by decide +kernel
theorem d_Mo_derived_38 : decode prog_10_method_43_code 38 = .ok (.if_icmp .lt (6), 3) := by decide +kernel
theorem d_Mo_derived_41 : decode prog_10_method_43_code 41 = .ok (.ldc 136, 2) := by decide +kernel
theorem d_Mo_derived_43 : decode prog_10_method_43_code 43 = .ok (.ireturn, 1) := by decide +kernel
theorem d_Mo_derived_44 : decode prog_10_method_43_code 44 = .ok (.iload_n 3, 1) := by decide +kernel
theorem d_Mo_derived_45 : decode prog_10_method_43_code 45 = .ok (.ifCond .ne (12), 3) := by decide +kernel
theorem d_Mo_derived_48 : decode prog_10_method_43_code 48 = .ok (.aload_n 0, 1) := by decide +kernel
theorem d_Mo_derived_49 : decode prog_10_method_43_code 49 = .ok (.getfield 58, 3) := by decide +kernel
theorem d_Mo_derived_52 : decode prog_10_method_43_code 52 = .ok (.iload_n 2, 1) := by decide +kernel
theorem d_Mo_derived_53 : decode prog_10_method_43_code 53 = .ok (.iaload, 1) := by decide +kernel
theorem d_Mo_derived_54 : decode prog_10_method_43_code 54 = .ok (.goto (23), 3) := by decide +kernel
theorem d_Mo_derived_57 : decode prog_10_method_43_code 57 = .ok (.iload_n 3, 1) := by decide +kernel
theorem d_Mo_derived_58 : decode prog_10_method_43_code 58 = .ok (.iconst 1, 1) := by decide +kernel
theorem d_Mo_derived_59 : decode prog_10_method_43_code 59 = .ok (.if_icmp .ne (12), 3) := by decide +kernel
theorem d_Mo_derived_62 : decode prog_10_method_43_code 62 = .ok (.aload_n 0, 1) := by decide +kernel
theorem d_Mo_derived_63 : decode prog_10_method_43_code 63 = .ok (.getfield 61, 3) := by decide +kernel
theorem d_Mo_derived_66 : decode prog_10_method_43_code 66 = .ok (.iload_n 2, 1) := by decide +kernel
theorem d_Mo_derived_67 : decode prog_10_method_43_code 67 = .ok (.iaload, 1) := by decide +kernel
theorem d_Mo_derived_68 : decode prog_10_method_43_code 68 = .ok (.goto (9), 3) := by decide +kernel
theorem d_Mo_derived_71 : decode prog_10_method_43_code 71 = .ok (.aload_n 0, 1) := by decide +kernel
theorem d_Mo_derived_72 : decode prog_10_method_43_code 72 = .ok (.getfield 64, 3) := by decide +kernel
theorem d_Mo_derived_75 : decode prog_10_method_43_code 75 = .ok (.iload_n 2, 1) := by decide +kernel
theorem d_Mo_derived_76 : decode prog_10_method_43_code 76 = .ok (.iaload, 1) := by decide +kernel
theorem d_Mo_derived_77 : decode prog_10_method_43_code 77 = .ok (.ireturn, 1) := by decide +kernel
