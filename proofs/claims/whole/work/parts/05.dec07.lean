/-! decode rows (written by wip/gen) -/
theorem d_Mo_write_153 : decode prog_10_method_41_code 153 = .ok (.iload 7, 2) := by decide +kernel
theorem d_Mo_write_155 : decode prog_10_method_41_code 155 = .ok (.iconst 1, 1) := by decide +kernel
theorem d_Mo_write_156 : decode prog_10_method_41_code 156 = .ok (.iadd, 1) := by decide +kernel
theorem d_Mo_write_157 : decode prog_10_method_41_code 157 = .ok (.istore 7, 2) := by decide +kernel
theorem d_Mo_write_159 : decode prog_10_method_41_code 159 = .ok (.goto (-29), 3) := by decide +kernel
theorem d_Mo_write_162 : decode prog_10_method_41_code 162 = .ok (.aload_n 0, 1) := by decide +kernel
theorem d_Mo_write_163 : decode prog_10_method_41_code 163 = .ok (.iload_n 2, 1) := by decide +kernel
theorem d_Mo_write_164 : decode prog_10_method_41_code 164 = .ok (.aload_n 0, 1) := by decide +kernel
theorem d_Mo_write_165 : decode prog_10_method_41_code 165 = .ok (.iload_n 3, 1) := by decide +kernel
theorem d_Mo_write_166 : decode prog_10_method_41_code 166 = .ok (.iconst 1, 1) := by decide +kernel
theorem d_Mo_write_167 : decode prog_10_method_41_code 167 = .ok (.invokevirtual 119, 3) := by decide +kernel
theorem d_Mo_write_170 : decode prog_10_method_41_code 170 = .ok (.iload 4, 2) := by decide +kernel
theorem d_Mo_write_172 : decode prog_10_method_41_code 172 = .ok (.iload 7, 2) := by decide +kernel
theorem d_Mo_write_174 : decode prog_10_method_41_code 174 = .ok (.iadd, 1) := by decide +kernel
theorem d_Mo_write_175 : decode prog_10_method_41_code 175 = .ok (.iload 5, 2) := by decide +kernel
theorem d_Mo_write_177 : decode prog_10_method_41_code 177 = .ok (.iload 7, 2) := by decide +kernel
theorem d_Mo_write_179 : decode prog_10_method_41_code 179 = .ok (.isub, 1) := by decide +kernel
theorem d_Mo_write_180 : decode prog_10_method_41_code 180 = .ok (.invokevirtual 94, 3) := by decide +kernel
theorem d_Mo_write_183 : decode prog_10_method_41_code 183 = .ok (.istore_n 2, 1) := by decide +kernel
theorem d_Mo_write_184 : decode prog_10_method_41_code 184 = .ok (.aload_n 0, 1) := by decide +kernel
theorem d_Mo_write_185 : decode prog_10_method_41_code 185 = .ok (.iload_n 2, 1) := by decide +kernel
theorem d_Mo_write_186 : decode prog_10_method_41_code 186 = .ok (.aload_n 0, 1) := by decide +kernel
theorem d_Mo_write_187 : decode prog_10_method_41_code 187 = .ok (.iload_n 3, 1) := by decide +kernel
theorem d_Mo_write_188 : decode prog_10_method_41_code 188 = .ok (.iconst 0, 1) := by decide +kernel
theorem d_Mo_write_189 : decode prog_10_method_41_code 189 = .ok (.invokevirtual 119, 3) := by decide +kernel
theorem d_Mo_write_192 : decode prog_10_method_41_code 192 = .ok (.iload 4, 2) := by decide +kernel
theorem d_Mo_write_194 : decode prog_10_method_41_code 194 = .ok (.iload 7, 2) := by decide +kernel
theorem d_Mo_write_196 : decode prog_10_method_41_code 196 = .ok (.invokevirtual 94, 3) := by decide +kernel
theorem d_Mo_write_199 : decode prog_10_method_41_code 199 = .ok (.istore_n 2, 1) := by decide +kernel
theorem d_Mo_write_200 : decode prog_10_method_41_code 200 = .ok (.goto (113), 3) := by decide +kernel
theorem d_Mo_write_203 : decode prog_10_method_41_code 203 = .ok (.aload_n 0, 1) := by decide +kernel
theorem d_Mo_write_204 : decode prog_10_method_41_code 204 = .ok (.getfield 34, 3) := by decide +kernel
theorem d_Mo_write_207 : decode prog_10_method_41_code 207 = .ok (.iload_n 3, 1) := by decide +kernel
theorem d_Mo_write_208 : decode prog_10_method_41_code 208 = .ok (.iaload, 1) := by decide +kernel
theorem d_Mo_write_209 : decode prog_10_method_41_code 209 = .ok (.bipush (8), 2) := by decide +kernel
theorem d_Mo_write_211 : decode prog_10_method_41_code 211 = .ok (.if_icmp .eq (102), 3) := by decide +kernel
theorem d_Mo_write_214 : decode prog_10_method_41_code 214 = .ok (.iconst 0, 1) := by decide +kernel
theorem d_Mo_write_215 : decode prog_10_method_41_code 215 = .ok (.istore 7, 2) := by decide +kernel
theorem d_Mo_write_217 : decode prog_10_method_41_code 217 = .ok (.iload 7, 2) := by decide +kernel
theorem d_Mo_write_219 : decode prog_10_method_41_code 219 = .ok (.bipush (7), 2) := by decide +kernel
theorem d_Mo_write_221 : decode prog_10_method_41_code 221 = .ok (.if_icmp .ge (28), 3) := by decide +kernel
theorem d_Mo_write_224 : decode prog_10_method_41_code 224 = .ok (.aload_n 0, 1) := by decide +kernel
theorem d_Mo_write_225 : decode prog_10_method_41_code 225 = .ok (.iload_n 3, 1) := by decide +kernel
theorem d_Mo_write_226 : decode prog_10_method_41_code 226 = .ok (.iload 7, 2) := by decide +kernel
theorem d_Mo_write_228 : decode prog_10_method_41_code 228 = .ok (.iload 4, 2) := by decide +kernel
theorem d_Mo_write_230 : decode prog_10_method_41_code 230 = .ok (.iload 5, 2) := by decide +kernel
theorem d_Mo_write_232 : decode prog_10_method_41_code 232 = .ok (.invokevirtual 174, 3) := by decide +kernel
theorem d_Mo_write_235 : decode prog_10_method_41_code 235 = .ok (.iload 6, 2) := by decide +kernel
theorem d_Mo_write_237 : decode prog_10_method_41_code 237 = .ok (.if_icmp .eq (12), 3) := by decide +kernel
theorem d_Mo_write_240 : decode prog_10_method_41_code 240 = .ok (.iload 7, 2) := by decide +kernel
theorem d_Mo_write_242 : decode prog_10_method_41_code 242 = .ok (.iconst 1, 1) := by decide +kernel
theorem d_Mo_write_243 : decode prog_10_method_41_code 243 = .ok (.iadd, 1) := by decide +kernel
theorem d_Mo_write_244 : decode prog_10_method_41_code 244 = .ok (.istore 7, 2) := by decide +kernel
theorem d_Mo_write_246 : decode prog_10_method_41_code 246 = .ok (.goto (-29), 3) := by decide +kernel
theorem d_Mo_write_249 : decode prog_10_method_41_code 249 = .ok (.aload_n 0, 1) := by decide +kernel
theorem d_Mo_write_250 : decode prog_10_method_41_code 250 = .ok (.getfield 34, 3) := by decide +kernel
theorem d_Mo_write_253 : decode prog_10_method_41_code 253 = .ok (.iload_n 3, 1) := by decide +kernel
theorem d_Mo_write_254 : decode prog_10_method_41_code 254 = .ok (.iaload, 1) := by decide +kernel
theorem d_Mo_write_255 : decode prog_10_method_41_code 255 = .ok (.invokestatic 162, 3) := by decide +kernel
theorem d_Mo_write_258 : decode prog_10_method_41_code 258 = .ok (.ifCond .eq (7), 3) := by decide +kernel
theorem d_Mo_write_261 : decode prog_10_method_41_code 261 = .ok (.iconst 1, 1) := by decide +kernel
theorem d_Mo_write_262 : decode prog_10_method_41_code 262 = .ok (.goto (4), 3) := by decide +kernel
theorem d_Mo_write_265 : decode prog_10_method_41_code 265 = .ok (.iconst 0, 1) := by decide +kernel
theorem d_Mo_write_266 : decode prog_10_method_41_code 266 = .ok (.istore 8, 2) := by decide +kernel
theorem d_Mo_write_268 : decode prog_10_method_41_code 268 = .ok (.aload_n 0, 1) := by decide +kernel
theorem d_Mo_write_269 : decode prog_10_method_41_code 269 = .ok (.getfield 34, 3) := by decide +kernel
theorem d_Mo_write_272 : decode prog_10_method_41_code 272 = .ok (.iload_n 3, 1) := by decide +kernel
theorem d_Mo_write_273 : decode prog_10_method_41_code 273 = .ok (.iaload, 1) := by decide +kernel
theorem d_Mo_write_274 : decode prog_10_method_41_code 274 = .ok (.invokestatic 165, 3) := by decide +kernel
theorem d_Mo_write_277 : decode prog_10_method_41_code 277 = .ok (.ifCond .eq (7), 3) := by decide +kernel
theorem d_Mo_write_280 : decode prog_10_method_41_code 280 = .ok (.iconst 1, 1) := by decide +kernel
theorem d_Mo_write_281 : decode prog_10_method_41_code 281 = .ok (.goto (4), 3) := by decide +kernel
theorem d_Mo_write_284 : decode prog_10_method_41_code 284 = .ok (.iconst 0, 1) := by decide +kernel
theorem d_Mo_write_285 : decode prog_10_method_41_code 285 = .ok (.istore 9, 2) := by decide +kernel
theorem d_Mo_write_287 : decode prog_10_method_41_code 287 = .ok (.aload_n 0, 1) := by decide +kernel
theorem d_Mo_write_288 : decode prog_10_method_41_code 288 = .ok (.iload_n 2, 1) := by decide +kernel
theorem d_Mo_write_289 : decode prog_10_method_41_code 289 = .ok (.aload_n 0, 1) := by decide +kernel
theorem d_Mo_write_290 : decode prog_10_method_41_code 290 = .ok (.iload_n 3, 1) := by decide +kernel
theorem d_Mo_write_291 : decode prog_10_method_41_code 291 = .ok (.iload 7, 2) := by decide +kernel
theorem d_Mo_write_293 : decode prog_10_method_41_code 293 = .ok (.invokevirtual 119, 3) := by decide +kernel
theorem d_Mo_write_296 : decode prog_10_method_41_code 296 = .ok (.iload 4, 2) := by decide +kernel
theorem d_Mo_write_298 : decode prog_10_method_41_code 298 = .ok (.iload 8, 2) := by decide +kernel
theorem d_Mo_write_300 : decode prog_10_method_41_code 300 = .ok (.iadd, 1) := by decide +kernel
theorem d_Mo_write_301 : decode prog_10_method_41_code 301 = .ok (.iload 5, 2) := by decide +kernel
theorem d_Mo_write_303 : decode prog_10_method_41_code 303 = .ok (.iload 8, 2) := by decide +kernel
theorem d_Mo_write_305 : decode prog_10_method_41_code 305 = .ok (.isub, 1) := by decide +kernel
theorem d_Mo_write_306 : decode prog_10_method_41_code 306 = .ok (.iload 9, 2) := by decide +kernel
theorem d_Mo_write_308 : decode prog_10_method_41_code 308 = .ok (.isub, 1) := by decide +kernel
theorem d_Mo_write_309 : decode prog_10_method_41_code 309 = .ok (.invokevirtual 94, 3) := by decide +kernel
theorem d_Mo_write_312 : decode prog_10_method_41_code 312 = .ok (.istore_n 2, 1) := by decide +kernel
theorem d_Mo_write_313 : decode prog_10_method_41_code 313 = .ok (.goto (-289), 3) := by decide +kernel
theorem d_Mo_write_316 : decode prog_10_method_41_code 316 = .ok (.return_, 1) := by decide +kernel
theorem d_Mo_hit_0 : decode prog_10_method_42_code 0 = .ok (.iload_n 1, 1) := by decide +kernel
theorem d_Mo_hit_1 : decode prog_10_method_42_code 1 = .ok (.ifCond .lt (20), 3) := by decide +kernel
theorem d_Mo_hit_4 : decode prog_10_method_42_code 4 = .ok (.iload_n 1, 1) := by decide +kernel
theorem d_Mo_hit_5 : decode prog_10_method_42_code 5 = .ok (.aload_n 0, 1) := by decide +kernel
theorem d_Mo_hit_6 : decode prog_10_method_42_code 6 = .ok (.getfield 78, 3) := by decide +kernel
theorem d_Mo_hit_9 : decode prog_10_method_42_code 9 = .ok (.if_icmp .ge (12), 3) := by decide +kernel
theorem d_Mo_hit_12 : decode prog_10_method_42_code 12 = .ok (.iload_n 2, 1) := by decide +kernel
theorem d_Mo_hit_13 : decode prog_10_method_42_code 13 = .ok (.ifCond .lt (8), 3) := by decide +kernel
theorem d_Mo_hit_16 : decode prog_10_method_42_code 16 = .ok (.iload_n 2, 1) := by decide +kernel
theorem d_Mo_hit_17 : decode prog_10_method_42_code 17 = .ok (.iconst 3, 1) := by decide +kernel
theorem d_Mo_hit_18 : decode prog_10_method_42_code 18 = .ok (.if_icmp .le (6), 3) := by decide +kernel
theorem d_Mo_hit_21 : decode prog_10_method_42_code 21 = .ok (.ldc 136, 2) := by decide +kernel
theorem d_Mo_hit_23 : decode prog_10_method_42_code 23 = .ok (.ireturn, 1) := by decide +kernel
theorem d_Mo_hit_24 : decode prog_10_method_42_code 24 = .ok (.iload_n 2, 1) := by decide +kernel
theorem d_Mo_hit_25 : decode prog_10_method_42_code 25 = .ok (.iconst 3, 1) := by decide +kernel
theorem d_Mo_hit_26 : decode prog_10_method_42_code 26 = .ok (.if_icmp .ne (8), 3) := by decide +kernel
theorem d_Mo_hit_29 : decode prog_10_method_42_code 29 = .ok (.aload_n 0, 1) := by decide +kernel
theorem d_Mo_hit_30 : decode prog_10_method_42_code 30 = .ok (.iload_n 1, 1) := by decide +kernel
theorem d_Mo_hit_31 : decode prog_10_method_42_code 31 = .ok (.invokevirtual 193, 3) := by decide +kernel
theorem d_Mo_hit_34 : decode prog_10_method_42_code 34 = .ok (.iload_n 2, 1) := by decide +kernel
theorem d_Mo_hit_35 : decode prog_10_method_42_code 35 = .ok (.ifCond .ne (12), 3) := by decide +kernel
theorem d_Mo_hit_38 : decode prog_10_method_42_code 38 = .ok (.aload_n 0, 1) := by decide +kernel
theorem d_Mo_hit_39 : decode prog_10_method_42_code 39 = .ok (.getfield 52, 3) := by decide +kernel
theorem d_Mo_hit_42 : decode prog_10_method_42_code 42 = .ok (.iload_n 1, 1) := by decide +kernel
theorem d_Mo_hit_43 : decode prog_10_method_42_code 43 = .ok (.iaload, 1) := by decide +kernel
theorem d_Mo_hit_44 : decode prog_10_method_42_code 44 = .ok (.goto (50), 3) := by decide +kernel
theorem d_Mo_hit_47 : decode prog_10_method_42_code 47 = .ok (.iload_n 2, 1) := by decide +kernel
theorem d_Mo_hit_48 : decode prog_10_method_42_code 48 = .ok (.iconst 1, 1) := by decide +kernel
theorem d_Mo_hit_49 : decode prog_10_method_42_code 49 = .ok (.if_icmp .ne (12), 3) := by decide +kernel
theorem d_Mo_hit_52 : decode prog_10_method_42_code 52 = .ok (.aload_n 0, 1) := by decide +kernel
theorem d_Mo_hit_53 : decode prog_10_method_42_code 53 = .ok (.getfield 55, 3) := by decide +kernel
theorem d_Mo_hit_56 : decode prog_10_method_42_code 56 = .ok (.iload_n 1, 1) := by decide +kernel
theorem d_Mo_hit_57 : decode prog_10_method_42_code 57 = .ok (.iaload, 1) := by decide +kernel
theorem d_Mo_hit_58 : decode prog_10_method_42_code 58 = .ok (.goto (36), 3) := by decide +kernel
theorem d_Mo_hit_61 : decode prog_10_method_42_code 61 = .ok (.iload_n 2, 1) := by decide +kernel
theorem d_Mo_hit_62 : decode prog_10_method_42_code 62 = .ok (.iconst 2, 1) := by decide +kernel
theorem d_Mo_hit_63 : decode prog_10_method_42_code 63 = .ok (.if_icmp .ne (27), 3) := by decide +kernel
theorem d_Mo_hit_66 : decode prog_10_method_42_code 66 = .ok (.aload_n 0, 1) := by decide +kernel
theorem d_Mo_hit_67 : decode prog_10_method_42_code 67 = .ok (.getfield 49, 3) := by decide +kernel
theorem d_Mo_hit_70 : decode prog_10_method_42_code 70 = .ok (.iconst 0, 1) := by decide +kernel
theorem d_Mo_hit_71 : decode prog_10_method_42_code 71 = .ok (.aload_n 0, 1) := by decide +kernel
theorem d_Mo_hit_72 : decode prog_10_method_42_code 72 = .ok (.getfield 52, 3) := by decide +kernel
theorem d_Mo_hit_75 : decode prog_10_method_42_code 75 = .ok (.iload_n 1, 1) := by decide +kernel
theorem d_Mo_hit_76 : decode prog_10_method_42_code 76 = .ok (.iaload, 1) := by decide +kernel
theorem d_Mo_hit_77 : decode prog_10_method_42_code 77 = .ok (.aload_n 0, 1) := by decide +kernel
theorem d_Mo_hit_78 : decode prog_10_method_42_code 78 = .ok (.getfield 55, 3) := by decide +kernel
theorem d_Mo_hit_81 : decode prog_10_method_42_code 81 = .ok (.iload_n 1, 1) := by decide +kernel
theorem d_Mo_hit_82 : decode prog_10_method_42_code 82 = .ok (.iaload, 1) := by decide +kernel
theorem d_Mo_hit_83 : decode prog_10_method_42_code 83 = .ok (.invokestatic 168, 3) := by decide +kernel
theorem d_Mo_hit_86 : decode prog_10_method_42_code 86 = .ok (.iaload, 1) := by decide +kernel
theorem d_Mo_hit_87 : decode prog_10_method_42_code 87 = .ok (.goto (7), 3) := by decide +kernel
theorem d_Mo_hit_90 : decode prog_10_method_42_code 90 = .ok (.aload_n 0, 1) := by decide +kernel
theorem d_Mo_hit_91 : decode prog_10_method_42_code 91 = .ok (.getfield 190, 3) := by decide +kernel
theorem d_Mo_hit_94 : decode prog_10_method_42_code 94 = .ok (.ireturn, 1) := by decide +kernel
theorem d_Mo_derived_0 : decode prog_10_method_43_code 0 = .ok (.iload_n 1, 1) := by decide +kernel
theorem d_Mo_derived_1 : decode prog_10_method_43_code 1 = .ok (.ifCond .lt (20), 3) := by decide +kernel
theorem d_Mo_derived_4 : decode prog_10_method_43_code 4 = .ok (.iload_n 1, 1) := by decide +kernel
theorem d_Mo_derived_5 : decode prog_10_method_43_code 5 = .ok (.aload_n 0, 1) := by decide +kernel
theorem d_Mo_derived_6 : decode prog_10_method_43_code 6 = .ok (.getfield 78, 3) := by decide +kernel
theorem d_Mo_derived_9 : decode prog_10_method_43_code 9 = .ok (.if_icmp .ge (12), 3) := by decide +kernel
theorem d_Mo_derived_12 : decode prog_10_method_43_code 12 = .ok (.iload_n 3, 1) := by decide +kernel
theorem d_Mo_derived_13 : decode prog_10_method_43_code 13 = .ok (.ifCond .lt (8), 3) := by decide +kernel
theorem d_Mo_derived_16 : decode prog_10_method_43_code 16 = .ok (.iload_n 3, 1) := by decide +kernel
theorem d_Mo_derived_17 : decode prog_10_method_43_code 17 = .ok (.iconst 2, 1) := by decide +kernel
theorem d_Mo_derived_18 : decode prog_10_method_43_code 18 = .ok (.if_icmp .le (6), 3) := by decide +kernel
theorem d_Mo_derived_21 : decode prog_10_method_43_code 21 = .ok (.ldc 136, 2) := by decide +kernel
theorem d_Mo_derived_23 : decode prog_10_method_43_code 23 = .ok (.ireturn, 1) := by decide +kernel
theorem d_Mo_derived_24 : decode prog_10_method_43_code 24 = .ok (.aload_n 0, 1) := by decide +kernel
theorem d_Mo_derived_25 : decode prog_10_method_43_code 25 = .ok (.iload_n 1, 1) := by decide +kernel
theorem d_Mo_derived_26 : decode prog_10_method_43_code 26 = .ok (.invokevirtual 193, 3) := by decide +kernel
theorem d_Mo_derived_29 : decode prog_10_method_43_code 29 = .ok (.iload_n 2, 1) := by decide +kernel
theorem d_Mo_derived_30 : decode prog_10_method_43_code 30 = .ok (.ifCond .lt (11), 3) := by decide +kernel
theorem d_Mo_derived_33 : decode prog_10_method_43_code 33 = .ok (.iload_n 2, 1) := by decide +kernel
theorem d_Mo_derived_34 : decode prog_10_method_43_code 34 = .ok (.aload_n 0, 1) := by decide +kernel
theorem d_Mo_derived_35 : decode prog_10_method_43_code 35 = .ok (.getfield 190, 3) := by decide +kernel
theorem d_Mo_derived_38 : decode prog_10_method_43_code 38 = .ok (.if_icmp .lt (6), 3) := by decide +kernel
theorem d_Mo_derived_41 : decode prog_10_method_43_code 41 = .ok (.ldc 136, 2) := by decide +kernel
theorem d_Mo_derived_43 : decode prog_10_method_43_code 43 = .ok (.ireturn, 1) := by decide +kernel
theorem d_Mo_derived_44 : decode prog_10_method_43_code 44 = .ok (.iload_n 3, 1) := by decide +kernel
theorem d_Mo_derived_45 : decode prog_10_method_43_code 45 = .ok (.ifCond .ne (12), 3) := by decide +kernel
theorem d_Mo_derived_48 : decode prog_10_method_43_code 48 = .ok (.aload_n 0, 1) := by decide +kernel
theorem d_Mo_derived_49 : decode prog_10_method_43_code 49 = .ok (.getfield 58, 3) := by decide +kernel
theorem d_Mo_derived_52 : decode prog_10_method_43_code 52 = .ok (.iload_n 2, 1) := by decide +kernel
theorem d_Mo_derived_53 : decode prog_10_method_43_code 53 = .ok (.iaload, 1) := by decide +kernel
theorem d_Mo_derived_54 : decode prog_10_method_43_code 54 = .ok (.goto (23), 3) := by decide +kernel
theorem d_Mo_derived_57 : decode prog_10_method_43_code 57 = .ok (.iload_n 3, 1) := by decide +kernel
theorem d_Mo_derived_58 : decode prog_10_method_43_code 58 = .ok (.iconst 1, 1) := by decide +kernel
theorem d_Mo_derived_59 : decode prog_10_method_43_code 59 = .ok (.if_icmp .ne (12), 3) := by decide +kernel
theorem d_Mo_derived_62 : decode prog_10_method_43_code 62 = .ok (.aload_n 0, 1) := by decide +kernel
theorem d_Mo_derived_63 : decode prog_10_method_43_code 63 = .ok (.getfield 61, 3) := by decide +kernel
theorem d_Mo_derived_66 : decode prog_10_method_43_code 66 = .ok (.iload_n 2, 1) := by decide +kernel
theorem d_Mo_derived_67 : decode prog_10_method_43_code 67 = .ok (.iaload, 1) := by decide +kernel
theorem d_Mo_derived_68 : decode prog_10_method_43_code 68 = .ok (.goto (9), 3) := by decide +kernel
theorem d_Mo_derived_71 : decode prog_10_method_43_code 71 = .ok (.aload_n 0, 1) := by decide +kernel
theorem d_Mo_derived_72 : decode prog_10_method_43_code 72 = .ok (.getfield 64, 3) := by decide +kernel
theorem d_Mo_derived_75 : decode prog_10_method_43_code 75 = .ok (.iload_n 2, 1) := by decide +kernel
theorem d_Mo_derived_76 : decode prog_10_method_43_code 76 = .ok (.iaload, 1) := by decide +kernel
theorem d_Mo_derived_77 : decode prog_10_method_43_code 77 = .ok (.ireturn, 1) := by decide +kernel
theorem d_Co_init_0 : decode prog_2_method_1_code 0 = .ok (.aload_n 0, 1) := by decide +kernel
theorem d_Co_init_1 : decode prog_2_method_1_code 1 = .ok (.invokespecial 3, 3) := by decide +kernel
theorem d_Co_init_4 : decode prog_2_method_1_code 4 = .ok (.aload_n 0, 1) := by decide +kernel
theorem d_Co_init_5 : decode prog_2_method_1_code 5 = .ok (.bipush (8), 2) := by decide +kernel
theorem d_Co_init_7 : decode prog_2_method_1_code 7 = .ok (.newarray .char, 2) := by decide +kernel
theorem d_Co_init_9 : decode prog_2_method_1_code 9 = .ok (.putfield 9, 3) := by decide +kernel
theorem d_Co_init_12 : decode prog_2_method_1_code 12 = .ok (.aload_n 0, 1) := by decide +kernel
theorem d_Co_init_13 : decode prog_2_method_1_code 13 = .ok (.bipush (32), 2) := by decide +kernel
theorem d_Co_init_15 : decode prog_2_method_1_code 15 = .ok (.newarray .int, 2) := by decide +kernel
theorem d_Co_init_17 : decode prog_2_method_1_code 17 = .ok (.putfield 15, 3) := by decide +kernel
theorem d_Co_init_20 : decode prog_2_method_1_code 20 = .ok (.aload_n 0, 1) := by decide +kernel
theorem d_Co_init_21 : decode prog_2_method_1_code 21 = .ok (.bipush (8), 2) := by decide +kernel
theorem d_Co_init_23 : decode prog_2_method_1_code 23 = .ok (.newarray .int, 2) := by decide +kernel
theorem d_Co_init_25 : decode prog_2_method_1_code 25 = .ok (.putfield 19, 3) := by decide +kernel
theorem d_Co_init_28 : decode prog_2_method_1_code 28 = .ok (.aload_n 0, 1) := by decide +kernel
theorem d_Co_init_29 : decode prog_2_method_1_code 29 = .ok (.bipush (8), 2) := by decide +kernel
theorem d_Co_init_31 : decode prog_2_method_1_code 31 = .ok (.newarray .int, 2) := by decide +kernel
theorem d_Co_init_33 : decode prog_2_method_1_code 33 = .ok (.putfield 22, 3) := by decide +kernel
theorem d_Co_init_36 : decode prog_2_method_1_code 36 = .ok (.aload_n 0, 1) := by decide +kernel
theorem d_Co_init_37 : decode prog_2_method_1_code 37 = .ok (.iload_n 1, 1) := by decide +kernel
theorem d_Co_init_38 : decode prog_2_method_1_code 38 = .ok (.putfield 25, 3) := by decide +kernel
theorem d_Co_init_41 : decode prog_2_method_1_code 41 = .ok (.return_, 1) := by decide +kernel
theorem d_Tr_init_0 : decode prog_7_method_1_code 0 = .ok (.aload_n 0, 1) := by decide +kernel
theorem d_Tr_init_1 : decode prog_7_method_1_code 1 = .ok (.invokespecial 3, 3) := by decide +kernel
theorem d_Tr_init_4 : decode prog_7_method_1_code 4 = .ok (.aload_n 0, 1) := by decide +kernel
theorem d_Tr_init_5 : decode prog_7_method_1_code 5 = .ok (.bipush (18), 2) := by decide +kernel
theorem d_Tr_init_7 : decode prog_7_method_1_code 7 = .ok (.newarray .int, 2) := by decide +kernel
theorem d_Tr_init_9 : decode prog_7_method_1_code 9 = .ok (.putfield 9, 3) := by decide +kernel
theorem d_Tr_init_12 : decode prog_7_method_1_code 12 = .ok (.aload_n 0, 1) := by decide +kernel
theorem d_Tr_init_13 : decode prog_7_method_1_code 13 = .ok (.bipush (18), 2) := by decide +kernel
theorem d_Tr_init_15 : decode prog_7_method_1_code 15 = .ok (.newarray .int, 2) := by decide +kernel
theorem d_Tr_init_17 : decode prog_7_method_1_code 17 = .ok (.putfield 15, 3) := by decide +kernel
theorem d_Tr_init_20 : decode prog_7_method_1_code 20 = .ok (.aload_n 0, 1) := by decide +kernel
theorem d_Tr_init_21 : decode prog_7_method_1_code 21 = .ok (.bipush (18), 2) := by decide +kernel
theorem d_Tr_init_23 : decode prog_7_method_1_code 23 = .ok (.newarray .int, 2) := by decide +kernel
theorem d_Tr_init_25 : decode prog_7_method_1_code 25 = .ok (.putfield 18, 3) := by decide +kernel
theorem d_Tr_init_28 : decode prog_7_method_1_code 28 = .ok (.aload_n 0, 1) := by decide +kernel
theorem d_Tr_init_29 : decode prog_7_method_1_code 29 = .ok (.bipush (18), 2) := by decide +kernel
theorem d_Tr_init_31 : decode prog_7_method_1_code 31 = .ok (.newarray .int, 2) := by decide +kernel
theorem d_Tr_init_33 : decode prog_7_method_1_code 33 = .ok (.putfield 21, 3) := by decide +kernel
theorem d_Tr_init_36 : decode prog_7_method_1_code 36 = .ok (.aload_n 0, 1) := by decide +kernel
theorem d_Tr_init_37 : decode prog_7_method_1_code 37 = .ok (.aload_n 1, 1) := by decide +kernel
theorem d_Tr_init_38 : decode prog_7_method_1_code 38 = .ok (.putfield 24, 3) := by decide +kernel
theorem d_Tr_init_41 : decode prog_7_method_1_code 41 = .ok (.return_, 1) := by decide +kernel
theorem d_Gr_init_0 : decode prog_4_method_1_code 0 = .ok (.aload_n 0, 1) := by decide +kernel
theorem d_Gr_init_1 : decode prog_4_method_1_code 1 = .ok (.invokespecial 3, 3) := by decide +kernel
theorem d_Gr_init_4 : decode prog_4_method_1_code 4 = .ok (.aload_n 0, 1) := by decide +kernel
theorem d_Gr_init_5 : decode prog_4_method_1_code 5 = .ok (.bipush (43), 2) := by decide +kernel
theorem d_Gr_init_7 : decode prog_4_method_1_code 7 = .ok (.newarray .int, 2) := by decide +kernel
theorem d_Gr_init_9 : decode prog_4_method_1_code 9 = .ok (.putfield 9, 3) := by decide +kernel
theorem d_Gr_init_12 : decode prog_4_method_1_code 12 = .ok (.aload_n 0, 1) := by decide +kernel
theorem d_Gr_init_13 : decode prog_4_method_1_code 13 = .ok (.bipush (43), 2) := by decide +kernel
theorem d_Gr_init_15 : decode prog_4_method_1_code 15 = .ok (.newarray .int, 2) := by decide +kernel
theorem d_Gr_init_17 : decode prog_4_method_1_code 17 = .ok (.putfield 15, 3) := by decide +kernel
theorem d_Gr_init_20 : decode prog_4_method_1_code 20 = .ok (.aload_n 0, 1) := by decide +kernel
theorem d_Gr_init_21 : decode prog_4_method_1_code 21 = .ok (.bipush (43), 2) := by decide +kernel
theorem d_Gr_init_23 : decode prog_4_method_1_code 23 = .ok (.newarray .int, 2) := by decide +kernel
theorem d_Gr_init_25 : decode prog_4_method_1_code 25 = .ok (.putfield 18, 3) := by decide +kernel
theorem d_Gr_init_28 : decode prog_4_method_1_code 28 = .ok (.aload_n 0, 1) := by decide +kernel
theorem d_Gr_init_29 : decode prog_4_method_1_code 29 = .ok (.bipush (19), 2) := by decide +kernel
theorem d_Gr_init_31 : decode prog_4_method_1_code 31 = .ok (.newarray .int, 2) := by decide +kernel
theorem d_Gr_init_33 : decode prog_4_method_1_code 33 = .ok (.putfield 21, 3) := by decide +kernel
theorem d_Gr_init_36 : decode prog_4_method_1_code 36 = .ok (.aload_n 0, 1) := by decide +kernel
theorem d_Gr_init_37 : decode prog_4_method_1_code 37 = .ok (.bipush (43), 2) := by decide +kernel
theorem d_Gr_init_39 : decode prog_4_method_1_code 39 = .ok (.newarray .int, 2) := by decide +kernel
theorem d_Gr_init_41 : decode prog_4_method_1_code 41 = .ok (.putfield 24, 3) := by decide +kernel
theorem d_Gr_init_44 : decode prog_4_method_1_code 44 = .ok (.aload_n 0, 1) := by decide +kernel
theorem d_Gr_init_45 : decode prog_4_method_1_code 45 = .ok (.sipush (258), 3) := by decide +kernel
theorem d_Gr_init_48 : decode prog_4_method_1_code 48 = .ok (.newarray .int, 2) := by decide +kernel
theorem d_Gr_init_50 : decode prog_4_method_1_code 50 = .ok (.putfield 27, 3) := by decide +kernel
theorem d_Gr_init_53 : decode prog_4_method_1_code 53 = .ok (.aload_n 0, 1) := by decide +kernel
theorem d_Gr_init_54 : decode prog_4_method_1_code 54 = .ok (.sipush (258), 3) := by decide +kernel
theorem d_Gr_init_57 : decode prog_4_method_1_code 57 = .ok (.newarray .int, 2) := by decide +kernel
theorem d_Gr_init_59 : decode prog_4_method_1_code 59 = .ok (.putfield 30, 3) := by decide +kernel
theorem d_Gr_init_62 : decode prog_4_method_1_code 62 = .ok (.aload_n 0, 1) := by decide +kernel
theorem d_Gr_init_63 : decode prog_4_method_1_code 63 = .ok (.sipush (688), 3) := by decide +kernel
theorem d_Gr_init_66 : decode prog_4_method_1_code 66 = .ok (.newarray .int, 2) := by decide +kernel
theorem d_Gr_init_68 : decode prog_4_method_1_code 68 = .ok (.putfield 33, 3) := by decide +kernel
theorem d_Gr_init_71 : decode prog_4_method_1_code 71 = .ok (.aload_n 0, 1) := by decide +kernel
theorem d_Gr_init_72 : decode prog_4_method_1_code 72 = .ok (.aload_n 1, 1) := by decide +kernel
theorem d_Gr_init_73 : decode prog_4_method_1_code 73 = .ok (.putfield 36, 3) := by decide +kernel
theorem d_Gr_init_76 : decode prog_4_method_1_code 76 = .ok (.aload_n 0, 1) := by decide +kernel
theorem d_Gr_init_77 : decode prog_4_method_1_code 77 = .ok (.aload_n 2, 1) := by decide +kernel
theorem d_Gr_init_78 : decode prog_4_method_1_code 78 = .ok (.putfield 40, 3) := by decide +kernel
theorem d_Gr_init_81 : decode prog_4_method_1_code 81 = .ok (.return_, 1) := by decide +kernel
theorem d_Tx_init_0 : decode prog_6_method_1_code 0 = .ok (.aload_n 0, 1) := by decide +kernel
theorem d_Tx_init_1 : decode prog_6_method_1_code 1 = .ok (.invokespecial 3, 3) := by decide +kernel
theorem d_Tx_init_4 : decode prog_6_method_1_code 4 = .ok (.aload_n 0, 1) := by decide +kernel
theorem d_Tx_init_5 : decode prog_6_method_1_code 5 = .ok (.bipush (24), 2) := by decide +kernel
theorem d_Tx_init_7 : decode prog_6_method_1_code 7 = .ok (.newarray .int, 2) := by decide +kernel
theorem d_Tx_init_9 : decode prog_6_method_1_code 9 = .ok (.putfield 9, 3) := by decide +kernel
theorem d_Tx_init_12 : decode prog_6_method_1_code 12 = .ok (.return_, 1) := by decide +kernel
theorem d_Va_init_0 : decode prog_8_method_1_code 0 = .ok (.aload_n 0, 1) := by decide +kernel
theorem d_Va_init_1 : decode prog_8_method_1_code 1 = .ok (.invokespecial 3, 3) := by decide +kernel
theorem d_Va_init_4 : decode prog_8_method_1_code 4 = .ok (.aload_n 0, 1) := by decide +kernel
theorem d_Va_init_5 : decode prog_8_method_1_code 5 = .ok (.sipush (10621), 3) := by decide +kernel
theorem d_Va_init_8 : decode prog_8_method_1_code 8 = .ok (.newarray .int, 2) := by decide +kernel
theorem d_Va_init_10 : decode prog_8_method_1_code 10 = .ok (.putfield 9, 3) := by decide +kernel
theorem d_Va_init_13 : decode prog_8_method_1_code 13 = .ok (.aload_n 0, 1) := by decide +kernel
theorem d_Va_init_14 : decode prog_8_method_1_code 14 = .ok (.aload_n 1, 1) := by decide +kernel
theorem d_Va_init_15 : decode prog_8_method_1_code 15 = .ok (.putfield 15, 3) := by decide +kernel
theorem d_Va_init_18 : decode prog_8_method_1_code 18 = .ok (.aload_n 0, 1) := by decide +kernel
theorem d_Va_init_19 : decode prog_8_method_1_code 19 = .ok (.aload_n 2, 1) := by decide +kernel
theorem d_Va_init_20 : decode prog_8_method_1_code 20 = .ok (.putfield 19, 3) := by decide +kernel
theorem d_Va_init_23 : decode prog_8_method_1_code 23 = .ok (.return_, 1) := by decide +kernel
theorem d_Hi_init_0 : decode prog_5_method_1_code 0 = .ok (.aload_n 0, 1) := by decide +kernel
theorem d_Hi_init_1 : decode prog_5_method_1_code 1 = .ok (.invokespecial 3, 3) := by decide +kernel
theorem d_Hi_init_4 : decode prog_5_method_1_code 4 = .ok (.aload_n 0, 1) := by decide +kernel
theorem d_Hi_init_5 : decode prog_5_method_1_code 5 = .ok (.bipush (24), 2) := by decide +kernel
theorem d_Hi_init_7 : decode prog_5_method_1_code 7 = .ok (.newarray .int, 2) := by decide +kernel
theorem d_Hi_init_9 : decode prog_5_method_1_code 9 = .ok (.putfield 9, 3) := by decide +kernel
theorem d_Hi_init_12 : decode prog_5_method_1_code 12 = .ok (.aload_n 0, 1) := by decide +kernel
theorem d_Hi_init_13 : decode prog_5_method_1_code 13 = .ok (.bipush (24), 2) := by decide +kernel
theorem d_Hi_init_15 : decode prog_5_method_1_code 15 = .ok (.newarray .int, 2) := by decide +kernel
theorem d_Hi_init_17 : decode prog_5_method_1_code 17 = .ok (.putfield 15, 3) := by decide +kernel
theorem d_Hi_init_20 : decode prog_5_method_1_code 20 = .ok (.aload_n 0, 1) := by decide +kernel
theorem d_Hi_init_21 : decode prog_5_method_1_code 21 = .ok (.bipush (24), 2) := by decide +kernel
theorem d_Hi_init_23 : decode prog_5_method_1_code 23 = .ok (.newarray .int, 2) := by decide +kernel
theorem d_Hi_init_25 : decode prog_5_method_1_code 25 = .ok (.putfield 18, 3) := by decide +kernel
theorem d_Hi_init_28 : decode prog_5_method_1_code 28 = .ok (.aload_n 0, 1) := by decide +kernel
theorem d_Hi_init_29 : decode prog_5_method_1_code 29 = .ok (.bipush (24), 2) := by decide +kernel
theorem d_Hi_init_31 : decode prog_5_method_1_code 31 = .ok (.newarray .boolean, 2) := by decide +kernel
theorem d_Hi_init_33 : decode prog_5_method_1_code 33 = .ok (.putfield 21, 3) := by decide +kernel
theorem d_Hi_init_36 : decode prog_5_method_1_code 36 = .ok (.return_, 1) := by decide +kernel
theorem d_De_init_0 : decode prog_3_method_1_code 0 = .ok (.aload_n 0, 1) := by decide +kernel
theorem d_De_init_1 : decode prog_3_method_1_code 1 = .ok (.invokespecial 3, 3) := by decide +kernel
theorem d_De_init_4 : decode prog_3_method_1_code 4 = .ok (.aload_n 0, 1) := by decide +kernel
theorem d_De_init_5 : decode prog_3_method_1_code 5 = .ok (.bipush (30), 2) := by decide +kernel
theorem d_De_init_7 : decode prog_3_method_1_code 7 = .ok (.newarray .int, 2) := by decide +kernel
theorem d_De_init_9 : decode prog_3_method_1_code 9 = .ok (.putfield 9, 3) := by decide +kernel
theorem d_De_init_12 : decode prog_3_method_1_code 12 = .ok (.aload_n 0, 1) := by decide +kernel
theorem d_De_init_13 : decode prog_3_method_1_code 13 = .ok (.bipush (30), 2) := by decide +kernel
theorem d_De_init_15 : decode prog_3_method_1_code 15 = .ok (.newarray .int, 2) := by decide +kernel
theorem d_De_init_17 : decode prog_3_method_1_code 17 = .ok (.putfield 15, 3) := by decide +kernel
theorem d_De_init_20 : decode prog_3_method_1_code 20 = .ok (.aload_n 0, 1) := by decide +kernel
theorem d_De_init_21 : decode prog_3_method_1_code 21 = .ok (.bipush (30), 2) := by decide +kernel
theorem d_De_init_23 : decode prog_3_method_1_code 23 = .ok (.newarray .int, 2) := by decide +kernel
theorem d_De_init_25 : decode prog_3_method_1_code 25 = .ok (.putfield 18, 3) := by decide +kernel
theorem d_De_init_28 : decode prog_3_method_1_code 28 = .ok (.return_, 1) := by decide +kernel
theorem d_Fa_init_0 : decode prog_1_method_1_code 0 = .ok (.aload_n 0, 1) := by decide +kernel
theorem d_Fa_init_1 : decode prog_1_method_1_code 1 = .ok (.invokespecial 3, 3) := by decide +kernel
theorem d_Fa_init_4 : decode prog_1_method_1_code 4 = .ok (.new 9, 3) := by decide +kernel
theorem d_Fa_init_7 : decode prog_1_method_1_code 7 = .ok (.dup, 1) := by decide +kernel
theorem d_Fa_init_8 : decode prog_1_method_1_code 8 = .ok (.iconst 1, 1) := by decide +kernel
theorem d_Fa_init_9 : decode prog_1_method_1_code 9 = .ok (.iconst 4, 1) := by decide +kernel
theorem d_Fa_init_10 : decode prog_1_method_1_code 10 = .ok (.iload_n 1, 1) := by decide +kernel
theorem d_Fa_init_11 : decode prog_1_method_1_code 11 = .ok (.invokestatic 11, 3) := by decide +kernel
theorem d_Fa_init_14 : decode prog_1_method_1_code 14 = .ok (.invokestatic 17, 3) := by decide +kernel
theorem d_Fa_init_17 : decode prog_1_method_1_code 17 = .ok (.invokespecial 20, 3) := by decide +kernel
theorem d_Fa_init_20 : decode prog_1_method_1_code 20 = .ok (.astore_n 2, 1) := by decide +kernel
theorem d_Fa_init_21 : decode prog_1_method_1_code 21 = .ok (.new 23, 3) := by decide +kernel
theorem d_Fa_init_24 : decode prog_1_method_1_code 24 = .ok (.dup, 1) := by decide +kernel
theorem d_Fa_init_25 : decode prog_1_method_1_code 25 = .ok (.aload_n 2, 1) := by decide +kernel
theorem d_Fa_init_26 : decode prog_1_method_1_code 26 = .ok (.invokespecial 25, 3) := by decide +kernel
theorem d_Fa_init_29 : decode prog_1_method_1_code 29 = .ok (.astore_n 3, 1) := by decide +kernel
theorem d_Fa_init_30 : decode prog_1_method_1_code 30 = .ok (.new 28, 3) := by decide +kernel
theorem d_Fa_init_33 : decode prog_1_method_1_code 33 = .ok (.dup, 1) := by decide +kernel
theorem d_Fa_init_34 : decode prog_1_method_1_code 34 = .ok (.aload_n 2, 1) := by decide +kernel
theorem d_Fa_init_35 : decode prog_1_method_1_code 35 = .ok (.aload_n 3, 1) := by decide +kernel
theorem d_Fa_init_36 : decode prog_1_method_1_code 36 = .ok (.invokespecial 30, 3) := by decide +kernel
theorem d_Fa_init_39 : decode prog_1_method_1_code 39 = .ok (.astore 4, 2) := by decide +kernel
theorem d_Fa_init_41 : decode prog_1_method_1_code 41 = .ok (.new 33, 3) := by decide +kernel
theorem d_Fa_init_44 : decode prog_1_method_1_code 44 = .ok (.dup, 1) := by decide +kernel
theorem d_Fa_init_45 : decode prog_1_method_1_code 45 = .ok (.invokespecial 35, 3) := by decide +kernel
theorem d_Fa_init_48 : decode prog_1_method_1_code 48 = .ok (.astore 5, 2) := by decide +kernel
theorem d_Fa_init_50 : decode prog_1_method_1_code 50 = .ok (.aload_n 0, 1) := by decide +kernel
theorem d_Fa_init_51 : decode prog_1_method_1_code 51 = .ok (.aload_n 2, 1) := by decide +kernel
theorem d_Fa_init_52 : decode prog_1_method_1_code 52 = .ok (.putfield 36, 3) := by decide +kernel
theorem d_Fa_init_55 : decode prog_1_method_1_code 55 = .ok (.aload_n 0, 1) := by decide +kernel
theorem d_Fa_init_56 : decode prog_1_method_1_code 56 = .ok (.aload_n 3, 1) := by decide +kernel
theorem d_Fa_init_57 : decode prog_1_method_1_code 57 = .ok (.putfield 40, 3) := by decide +kernel
theorem d_Fa_init_60 : decode prog_1_method_1_code 60 = .ok (.aload_n 0, 1) := by decide +kernel
theorem d_Fa_init_61 : decode prog_1_method_1_code 61 = .ok (.aload 4, 2) := by decide +kernel
theorem d_Fa_init_63 : decode prog_1_method_1_code 63 = .ok (.putfield 44, 3) := by decide +kernel
theorem d_Fa_init_66 : decode prog_1_method_1_code 66 = .ok (.aload_n 0, 1) := by decide +kernel
theorem d_Fa_init_67 : decode prog_1_method_1_code 67 = .ok (.aload 5, 2) := by decide +kernel
theorem d_Fa_init_69 : decode prog_1_method_1_code 69 = .ok (.putfield 48, 3) := by decide +kernel
theorem d_Fa_init_72 : decode prog_1_method_1_code 72 = .ok (.aload_n 0, 1) := by decide +kernel
theorem d_Fa_init_73 : decode prog_1_method_1_code 73 = .ok (.new 52, 3) := by decide +kernel
theorem d_Fa_init_76 : decode prog_1_method_1_code 76 = .ok (.dup, 1) := by decide +kernel
theorem d_Fa_init_77 : decode prog_1_method_1_code 77 = .ok (.aload 4, 2) := by decide +kernel
theorem d_Fa_init_79 : decode prog_1_method_1_code 79 = .ok (.aload 5, 2) := by decide +kernel
theorem d_Fa_init_81 : decode prog_1_method_1_code 81 = .ok (.invokespecial 54, 3) := by decide +kernel
theorem d_Fa_init_84 : decode prog_1_method_1_code 84 = .ok (.putfield 57, 3) := by decide +kernel
theorem d_Fa_init_87 : decode prog_1_method_1_code 87 = .ok (.aload_n 0, 1) := by decide +kernel
theorem d_Fa_init_88 : decode prog_1_method_1_code 88 = .ok (.new 61, 3) := by decide +kernel
theorem d_Fa_init_91 : decode prog_1_method_1_code 91 = .ok (.dup, 1) := by decide +kernel
theorem d_Fa_init_92 : decode prog_1_method_1_code 92 = .ok (.invokespecial 63, 3) := by decide +kernel
theorem d_Fa_init_95 : decode prog_1_method_1_code 95 = .ok (.putfield 64, 3) := by decide +kernel
theorem d_Fa_init_98 : decode prog_1_method_1_code 98 = .ok (.aload_n 0, 1) := by decide +kernel
theorem d_Fa_init_99 : decode prog_1_method_1_code 99 = .ok (.new 68, 3) := by decide +kernel
theorem d_Fa_init_102 : decode prog_1_method_1_code 102 = .ok (.dup, 1) := by decide +kernel
theorem d_Fa_init_103 : decode prog_1_method_1_code 103 = .ok (.invokespecial 70, 3) := by decide +kernel
theorem d_Fa_init_106 : decode prog_1_method_1_code 106 = .ok (.putfield 71, 3) := by decide +kernel
theorem d_Fa_init_109 : decode prog_1_method_1_code 109 = .ok (.return_, 1) := by decide +kernel
theorem d_Mo_init_0 : decode prog_10_method_1_code 0 = .ok (.aload_n 0, 1) := by decide +kernel
theorem d_Mo_init_1 : decode prog_10_method_1_code 1 = .ok (.invokespecial 1, 3) := by decide +kernel
theorem d_Mo_init_4 : decode prog_10_method_1_code 4 = .ok (.aload_n 0, 1) := by decide +kernel
theorem d_Mo_init_5 : decode prog_10_method_1_code 5 = .ok (.bipush (8), 2) := by decide +kernel
theorem d_Mo_init_7 : decode prog_10_method_1_code 7 = .ok (.newarray .int, 2) := by decide +kernel
theorem d_Mo_init_9 : decode prog_10_method_1_code 9 = .ok (.putfield 7, 3) := by decide +kernel
theorem d_Mo_init_12 : decode prog_10_method_1_code 12 = .ok (.aload_n 0, 1) := by decide +kernel
theorem d_Mo_init_13 : decode prog_10_method_1_code 13 = .ok (.bipush (32), 2) := by decide +kernel
theorem d_Mo_init_15 : decode prog_10_method_1_code 15 = .ok (.newarray .int, 2) := by decide +kernel
theorem d_Mo_init_17 : decode prog_10_method_1_code 17 = .ok (.putfield 13, 3) := by decide +kernel
theorem d_Mo_init_20 : decode prog_10_method_1_code 20 = .ok (.aload_n 0, 1) := by decide +kernel
theorem d_Mo_init_21 : decode prog_10_method_1_code 21 = .ok (.bipush (8), 2) := by decide +kernel
theorem d_Mo_init_23 : decode prog_10_method_1_code 23 = .ok (.newarray .int, 2) := by decide +kernel
theorem d_Mo_init_25 : decode prog_10_method_1_code 25 = .ok (.putfield 16, 3) := by decide +kernel
theorem d_Mo_init_28 : decode prog_10_method_1_code 28 = .ok (.aload_n 0, 1) := by decide +kernel
theorem d_Mo_init_29 : decode prog_10_method_1_code 29 = .ok (.bipush (24), 2) := by decide +kernel
theorem d_Mo_init_31 : decode prog_10_method_1_code 31 = .ok (.newarray .int, 2) := by decide +kernel
theorem d_Mo_init_33 : decode prog_10_method_1_code 33 = .ok (.putfield 19, 3) := by decide +kernel
theorem d_Mo_init_36 : decode prog_10_method_1_code 36 = .ok (.aload_n 0, 1) := by decide +kernel
theorem d_Mo_init_37 : decode prog_10_method_1_code 37 = .ok (.bipush (24), 2) := by decide +kernel
theorem d_Mo_init_39 : decode prog_10_method_1_code 39 = .ok (.newarray .int, 2) := by decide +kernel
theorem d_Mo_init_41 : decode prog_10_method_1_code 41 = .ok (.putfield 22, 3) := by decide +kernel
theorem d_Mo_init_44 : decode prog_10_method_1_code 44 = .ok (.aload_n 0, 1) := by decide +kernel
theorem d_Mo_init_45 : decode prog_10_method_1_code 45 = .ok (.bipush (24), 2) := by decide +kernel
theorem d_Mo_init_47 : decode prog_10_method_1_code 47 = .ok (.newarray .int, 2) := by decide +kernel
theorem d_Mo_init_49 : decode prog_10_method_1_code 49 = .ok (.putfield 25, 3) := by decide +kernel
theorem d_Mo_init_52 : decode prog_10_method_1_code 52 = .ok (.aload_n 0, 1) := by decide +kernel
theorem d_Mo_init_53 : decode prog_10_method_1_code 53 = .ok (.bipush (25), 2) := by decide +kernel
theorem d_Mo_init_55 : decode prog_10_method_1_code 55 = .ok (.newarray .int, 2) := by decide +kernel
theorem d_Mo_init_57 : decode prog_10_method_1_code 57 = .ok (.putfield 28, 3) := by decide +kernel
theorem d_Mo_init_60 : decode prog_10_method_1_code 60 = .ok (.aload_n 0, 1) := by decide +kernel
theorem d_Mo_init_61 : decode prog_10_method_1_code 61 = .ok (.bipush (24), 2) := by decide +kernel
theorem d_Mo_init_63 : decode prog_10_method_1_code 63 = .ok (.newarray .int, 2) := by decide +kernel
theorem d_Mo_init_65 : decode prog_10_method_1_code 65 = .ok (.putfield 31, 3) := by decide +kernel
theorem d_Mo_init_68 : decode prog_10_method_1_code 68 = .ok (.aload_n 0, 1) := by decide +kernel
theorem d_Mo_init_69 : decode prog_10_method_1_code 69 = .ok (.bipush (48), 2) := by decide +kernel
theorem d_Mo_init_71 : decode prog_10_method_1_code 71 = .ok (.newarray .int, 2) := by decide +kernel
theorem d_Mo_init_73 : decode prog_10_method_1_code 73 = .ok (.putfield 34, 3) := by decide +kernel
theorem d_Mo_init_76 : decode prog_10_method_1_code 76 = .ok (.aload_n 0, 1) := by decide +kernel
theorem d_Mo_init_77 : decode prog_10_method_1_code 77 = .ok (.bipush (48), 2) := by decide +kernel
theorem d_Mo_init_79 : decode prog_10_method_1_code 79 = .ok (.newarray .int, 2) := by decide +kernel
theorem d_Mo_init_81 : decode prog_10_method_1_code 81 = .ok (.putfield 37, 3) := by decide +kernel
theorem d_Mo_init_84 : decode prog_10_method_1_code 84 = .ok (.aload_n 0, 1) := by decide +kernel
theorem d_Mo_init_85 : decode prog_10_method_1_code 85 = .ok (.sipush (384), 3) := by decide +kernel
theorem d_Mo_init_88 : decode prog_10_method_1_code 88 = .ok (.newarray .int, 2) := by decide +kernel
theorem d_Mo_init_90 : decode prog_10_method_1_code 90 = .ok (.putfield 40, 3) := by decide +kernel
theorem d_Mo_init_93 : decode prog_10_method_1_code 93 = .ok (.aload_n 0, 1) := by decide +kernel
theorem d_Mo_init_94 : decode prog_10_method_1_code 94 = .ok (.sipush (768), 3) := by decide +kernel
theorem d_Mo_init_97 : decode prog_10_method_1_code 97 = .ok (.newarray .int, 2) := by decide +kernel
theorem d_Mo_init_99 : decode prog_10_method_1_code 99 = .ok (.putfield 43, 3) := by decide +kernel
theorem d_Mo_init_102 : decode prog_10_method_1_code 102 = .ok (.aload_n 0, 1) := by decide +kernel
theorem d_Mo_init_103 : decode prog_10_method_1_code 103 = .ok (.bipush (24), 2) := by decide +kernel
theorem d_Mo_init_105 : decode prog_10_method_1_code 105 = .ok (.newarray .int, 2) := by decide +kernel
theorem d_Mo_init_107 : decode prog_10_method_1_code 107 = .ok (.putfield 46, 3) := by decide +kernel
theorem d_Mo_init_110 : decode prog_10_method_1_code 110 = .ok (.aload_n 0, 1) := by decide +kernel
theorem d_Mo_init_111 : decode prog_10_method_1_code 111 = .ok (.sipush (15600), 3) := by decide +kernel
theorem d_Mo_init_114 : decode prog_10_method_1_code 114 = .ok (.newarray .int, 2) := by decide +kernel
theorem d_Mo_init_116 : decode prog_10_method_1_code 116 = .ok (.putfield 49, 3) := by decide +kernel
theorem d_Mo_init_119 : decode prog_10_method_1_code 119 = .ok (.aload_n 0, 1) := by decide +kernel
theorem d_Mo_init_120 : decode prog_10_method_1_code 120 = .ok (.bipush (24), 2) := by decide +kernel
theorem d_Mo_init_122 : decode prog_10_method_1_code 122 = .ok (.newarray .int, 2) := by decide +kernel
theorem d_Mo_init_124 : decode prog_10_method_1_code 124 = .ok (.putfield 52, 3) := by decide +kernel
theorem d_Mo_init_127 : decode prog_10_method_1_code 127 = .ok (.aload_n 0, 1) := by decide +kernel
theorem d_Mo_init_128 : decode prog_10_method_1_code 128 = .ok (.bipush (24), 2) := by decide +kernel
theorem d_Mo_init_130 : decode prog_10_method_1_code 130 = .ok (.newarray .int, 2) := by decide +kernel
theorem d_Mo_init_132 : decode prog_10_method_1_code 132 = .ok (.putfield 55, 3) := by decide +kernel
theorem d_Mo_init_135 : decode prog_10_method_1_code 135 = .ok (.aload_n 0, 1) := by decide +kernel
theorem d_Mo_init_136 : decode prog_10_method_1_code 136 = .ok (.sipush (200), 3) := by decide +kernel
theorem d_Mo_init_139 : decode prog_10_method_1_code 139 = .ok (.newarray .int, 2) := by decide +kernel
theorem d_Mo_init_141 : decode prog_10_method_1_code 141 = .ok (.putfield 58, 3) := by decide +kernel
theorem d_Mo_init_144 : decode prog_10_method_1_code 144 = .ok (.aload_n 0, 1) := by decide +kernel
theorem d_Mo_init_145 : decode prog_10_method_1_code 145 = .ok (.sipush (200), 3) := by decide +kernel
theorem d_Mo_init_148 : decode prog_10_method_1_code 148 = .ok (.newarray .int, 2) := by decide +kernel
theorem d_Mo_init_150 : decode prog_10_method_1_code 150 = .ok (.putfield 61, 3) := by decide +kernel
theorem d_Mo_init_153 : decode prog_10_method_1_code 153 = .ok (.aload_n 0, 1) := by decide +kernel
theorem d_Mo_init_154 : decode prog_10_method_1_code 154 = .ok (.sipush (200), 3) := by decide +kernel
theorem d_Mo_init_157 : decode prog_10_method_1_code 157 = .ok (.newarray .int, 2) := by decide +kernel
theorem d_Mo_init_159 : decode prog_10_method_1_code 159 = .ok (.putfield 64, 3) := by decide +kernel
theorem d_Mo_init_162 : decode prog_10_method_1_code 162 = .ok (.aload_n 0, 1) := by decide +kernel
theorem d_Mo_init_163 : decode prog_10_method_1_code 163 = .ok (.sipush (300), 3) := by decide +kernel
theorem d_Mo_init_166 : decode prog_10_method_1_code 166 = .ok (.newarray .int, 2) := by decide +kernel
theorem d_Mo_init_168 : decode prog_10_method_1_code 168 = .ok (.putfield 67, 3) := by decide +kernel
theorem d_Mo_init_171 : decode prog_10_method_1_code 171 = .ok (.aload_n 0, 1) := by decide +kernel
theorem d_Mo_init_172 : decode prog_10_method_1_code 172 = .ok (.iload_n 1, 1) := by decide +kernel
theorem d_Mo_init_173 : decode prog_10_method_1_code 173 = .ok (.iconst 1, 1) := by decide +kernel
theorem d_Mo_init_174 : decode prog_10_method_1_code 174 = .ok (.if_icmp .ge (7), 3) := by decide +kernel
theorem d_Mo_init_177 : decode prog_10_method_1_code 177 = .ok (.iconst 1, 1) := by decide +kernel
theorem d_Mo_init_178 : decode prog_10_method_1_code 178 = .ok (.goto (13), 3) := by decide +kernel
theorem d_Mo_init_181 : decode prog_10_method_1_code 181 = .ok (.iload_n 1, 1) := by decide +kernel
theorem d_Mo_init_182 : decode prog_10_method_1_code 182 = .ok (.iconst 4, 1) := by decide +kernel
theorem d_Mo_init_183 : decode prog_10_method_1_code 183 = .ok (.if_icmp .le (7), 3) := by decide +kernel
theorem d_Mo_init_186 : decode prog_10_method_1_code 186 = .ok (.iconst 4, 1) := by decide +kernel
theorem d_Mo_init_187 : decode prog_10_method_1_code 187 = .ok (.goto (4), 3) := by decide +kernel
theorem d_Mo_init_190 : decode prog_10_method_1_code 190 = .ok (.iload_n 1, 1) := by decide +kernel
theorem d_Mo_init_191 : decode prog_10_method_1_code 191 = .ok (.putfield 70, 3) := by decide +kernel
theorem d_Mo_init_194 : decode prog_10_method_1_code 194 = .ok (.return_, 1) := by decide +kernel
theorem d_La_law_0 : decode code 0 = .ok (.new 7, 3) := by decide +kernel
theorem d_La_law_3 : decode code 3 = .ok (.dup, 1) := by decide +kernel
theorem d_La_law_4 : decode code 4 = .ok (.aload_n 0, 1) := by decide +kernel
theorem d_La_law_5 : decode code 5 = .ok (.iconst 0, 1) := by decide +kernel
theorem d_La_law_6 : decode code 6 = .ok (.invokestatic 9, 3) := by decide +kernel
theorem d_La_law_9 : decode code 9 = .ok (.invokespecial 15, 3) := by decide +kernel
theorem d_La_law_12 : decode code 12 = .ok (.astore_n 1, 1) := by decide +kernel
theorem d_La_law_13 : decode code 13 = .ok (.new 18, 3) := by decide +kernel
theorem d_La_law_16 : decode code 16 = .ok (.dup, 1) := by decide +kernel
theorem d_La_law_17 : decode code 17 = .ok (.aload_n 0, 1) := by decide +kernel
theorem d_La_law_18 : decode code 18 = .ok (.iconst 0, 1) := by decide +kernel
theorem d_La_law_19 : decode code 19 = .ok (.invokestatic 9, 3) := by decide +kernel
theorem d_La_law_22 : decode code 22 = .ok (.invokespecial 20, 3) := by decide +kernel
theorem d_La_law_25 : decode code 25 = .ok (.astore_n 2, 1) := by decide +kernel
theorem d_La_law_26 : decode code 26 = .ok (.iconst 1, 1) := by decide +kernel
theorem d_La_law_27 : decode code 27 = .ok (.istore_n 3, 1) := by decide +kernel
theorem d_La_law_28 : decode code 28 = .ok (.iload_n 3, 1) := by decide +kernel
theorem d_La_law_29 : decode code 29 = .ok (.aload_n 0, 1) := by decide +kernel
theorem d_La_law_30 : decode code 30 = .ok (.arraylength, 1) := by decide +kernel
theorem d_La_law_31 : decode code 31 = .ok (.iconst 4, 1) := by decide +kernel
theorem d_La_law_32 : decode code 32 = .ok (.isub, 1) := by decide +kernel
theorem d_La_law_33 : decode code 33 = .ok (.if_icmp .gt (495), 3) := by decide +kernel
theorem d_La_law_36 : decode code 36 = .ok (.aload_n 0, 1) := by decide +kernel
theorem d_La_law_37 : decode code 37 = .ok (.iload_n 3, 1) := by decide +kernel
theorem d_La_law_38 : decode code 38 = .ok (.iaload, 1) := by decide +kernel
theorem d_La_law_39 : decode code 39 = .ok (.bipush (15), 2) := by decide +kernel
theorem d_La_law_41 : decode code 41 = .ok (.iand, 1) := by decide +kernel
theorem d_La_law_42 : decode code 42 = .ok (.tableswitch (480) (0) (13) #[70, 105, 116, 129, 152, 175, 208, 241, 284, 317, 328, 371, 404, 437], 70) := by decide +kernel
theorem d_La_law_112 : decode code 112 = .ok (.aload_n 1, 1) := by decide +kernel
theorem d_La_law_113 : decode code 113 = .ok (.aload_n 0, 1) := by decide +kernel
theorem d_La_law_114 : decode code 114 = .ok (.iload_n 3, 1) := by decide +kernel
theorem d_La_law_115 : decode code 115 = .ok (.iconst 1, 1) := by decide +kernel
theorem d_La_law_116 : decode code 116 = .ok (.iadd, 1) := by decide +kernel
theorem d_La_law_117 : decode code 117 = .ok (.iaload, 1) := by decide +kernel
theorem d_La_law_118 : decode code 118 = .ok (.i2c, 1) := by decide +kernel
theorem d_La_law_119 : decode code 119 = .ok (.aload_n 0, 1) := by decide +kernel
theorem d_La_law_120 : decode code 120 = .ok (.iload_n 3, 1) := by decide +kernel
theorem d_La_law_121 : decode code 121 = .ok (.iconst 2, 1) := by decide +kernel
theorem d_La_law_122 : decode code 122 = .ok (.iadd, 1) := by decide +kernel
theorem d_La_law_123 : decode code 123 = .ok (.iaload, 1) := by decide +kernel
theorem d_La_law_124 : decode code 124 = .ok (.invokevirtual 21, 3) := by decide +kernel
theorem d_La_law_127 : decode code 127 = .ok (.aload_n 2, 1) := by decide +kernel
theorem d_La_law_128 : decode code 128 = .ok (.aload_n 0, 1) := by decide +kernel
theorem d_La_law_129 : decode code 129 = .ok (.iload_n 3, 1) := by decide +kernel
theorem d_La_law_130 : decode code 130 = .ok (.iconst 1, 1) := by decide +kernel
theorem d_La_law_131 : decode code 131 = .ok (.iadd, 1) := by decide +kernel
theorem d_La_law_132 : decode code 132 = .ok (.iaload, 1) := by decide +kernel
theorem d_La_law_133 : decode code 133 = .ok (.i2c, 1) := by decide +kernel
theorem d_La_law_134 : decode code 134 = .ok (.aload_n 0, 1) := by decide +kernel
theorem d_La_law_135 : decode code 135 = .ok (.iload_n 3, 1) := by decide +kernel
theorem d_La_law_136 : decode code 136 = .ok (.iconst 2, 1) := by decide +kernel
theorem d_La_law_137 : decode code 137 = .ok (.iadd, 1) := by decide +kernel
theorem d_La_law_138 : decode code 138 = .ok (.iaload, 1) := by decide +kernel
theorem d_La_law_139 : decode code 139 = .ok (.invokevirtual 25, 3) := by decide +kernel
theorem d_La_law_142 : decode code 142 = .ok (.if_icmp .eq (380), 3) := by decide +kernel
theorem d_La_law_145 : decode code 145 = .ok (.iconst 0, 1) := by decide +kernel
theorem d_La_law_146 : decode code 146 = .ok (.ireturn, 1) := by decide +kernel
theorem d_La_law_147 : decode code 147 = .ok (.aload_n 1, 1) := by decide +kernel
theorem d_La_law_148 : decode code 148 = .ok (.invokevirtual 26, 3) := by decide +kernel
theorem d_La_law_151 : decode code 151 = .ok (.aload_n 2, 1) := by decide +kernel
theorem d_La_law_152 : decode code 152 = .ok (.invokevirtual 29, 3) := by decide +kernel
theorem d_La_law_155 : decode code 155 = .ok (.goto (367), 3) := by decide +kernel
theorem d_La_law_158 : decode code 158 = .ok (.aload_n 1, 1) := by decide +kernel
theorem d_La_law_159 : decode code 159 = .ok (.invokevirtual 30, 3) := by decide +kernel
theorem d_La_law_162 : decode code 162 = .ok (.aload_n 2, 1) := by decide +kernel
theorem d_La_law_163 : decode code 163 = .ok (.invokevirtual 34, 3) := by decide +kernel
theorem d_La_law_166 : decode code 166 = .ok (.if_icmp .eq (356), 3) := by decide +kernel
theorem d_La_law_169 : decode code 169 = .ok (.iconst 0, 1) := by decide +kernel
theorem d_La_law_170 : decode code 170 = .ok (.ireturn, 1) := by decide +kernel
theorem d_La_law_171 : decode code 171 = .ok (.aload_n 1, 1) := by decide +kernel
theorem d_La_law_172 : decode code 172 = .ok (.aload_n 0, 1) := by decide +kernel
theorem d_La_law_173 : decode code 173 = .ok (.iload_n 3, 1) := by decide +kernel
theorem d_La_law_174 : decode code 174 = .ok (.iconst 1, 1) := by decide +kernel
theorem d_La_law_175 : decode code 175 = .ok (.iadd, 1) := by decide +kernel
theorem d_La_law_176 : decode code 176 = .ok (.iaload, 1) := by decide +kernel
theorem d_La_law_177 : decode code 177 = .ok (.invokevirtual 35, 3) := by decide +kernel
theorem d_La_law_180 : decode code 180 = .ok (.aload_n 2, 1) := by decide +kernel
theorem d_La_law_181 : decode code 181 = .ok (.aload_n 0, 1) := by decide +kernel
theorem d_La_law_182 : decode code 182 = .ok (.iload_n 3, 1) := by decide +kernel
theorem d_La_law_183 : decode code 183 = .ok (.iconst 1, 1) := by decide +kernel
theorem d_La_law_184 : decode code 184 = .ok (.iadd, 1) := by decide +kernel
theorem d_La_law_185 : decode code 185 = .ok (.iaload, 1) := by decide +kernel
theorem d_La_law_186 : decode code 186 = .ok (.invokevirtual 39, 3) := by decide +kernel
theorem d_La_law_189 : decode code 189 = .ok (.if_icmp .eq (333), 3) := by decide +kernel
theorem d_La_law_192 : decode code 192 = .ok (.iconst 0, 1) := by decide +kernel
theorem d_La_law_193 : decode code 193 = .ok (.ireturn, 1) := by decide +kernel
theorem d_La_law_194 : decode code 194 = .ok (.aload_n 1, 1) := by decide +kernel
theorem d_La_law_195 : decode code 195 = .ok (.aload_n 0, 1) := by decide +kernel
theorem d_La_law_196 : decode code 196 = .ok (.iload_n 3, 1) := by decide +kernel
theorem d_La_law_197 : decode code 197 = .ok (.iconst 1, 1) := by decide +kernel
theorem d_La_law_198 : decode code 198 = .ok (.iadd, 1) := by decide +kernel
theorem d_La_law_199 : decode code 199 = .ok (.iaload, 1) := by decide +kernel
theorem d_La_law_200 : decode code 200 = .ok (.invokevirtual 40, 3) := by decide +kernel
theorem d_La_law_203 : decode code 203 = .ok (.aload_n 2, 1) := by decide +kernel
theorem d_La_law_204 : decode code 204 = .ok (.aload_n 0, 1) := by decide +kernel
theorem d_La_law_205 : decode code 205 = .ok (.iload_n 3, 1) := by decide +kernel
theorem d_La_law_206 : decode code 206 = .ok (.iconst 1, 1) := by decide +kernel
theorem d_La_law_207 : decode code 207 = .ok (.iadd, 1) := by decide +kernel
theorem d_La_law_208 : decode code 208 = .ok (.iaload, 1) := by decide +kernel
theorem d_La_law_209 : decode code 209 = .ok (.invokevirtual 43, 3) := by decide +kernel
theorem d_La_law_212 : decode code 212 = .ok (.if_icmp .eq (310), 3) := by decide +kernel
theorem d_La_law_215 : decode code 215 = .ok (.iconst 0, 1) := by decide +kernel
theorem d_La_law_216 : decode code 216 = .ok (.ireturn, 1) := by decide +kernel
theorem d_La_law_217 : decode code 217 = .ok (.aload_n 1, 1) := by decide +kernel
theorem d_La_law_218 : decode code 218 = .ok (.aload_n 0, 1) := by decide +kernel
theorem d_La_law_219 : decode code 219 = .ok (.iload_n 3, 1) := by decide +kernel
theorem d_La_law_220 : decode code 220 = .ok (.iconst 1, 1) := by decide +kernel
theorem d_La_law_221 : decode code 221 = .ok (.iadd, 1) := by decide +kernel
theorem d_La_law_222 : decode code 222 = .ok (.iaload, 1) := by decide +kernel
theorem d_La_law_223 : decode code 223 = .ok (.aload_n 0, 1) := by decide +kernel
theorem d_La_law_224 : decode code 224 = .ok (.iload_n 3, 1) := by decide +kernel
theorem d_La_law_225 : decode code 225 = .ok (.iconst 2, 1) := by decide +kernel
theorem d_La_law_226 : decode code 226 = .ok (.iadd, 1) := by decide +kernel
theorem d_La_law_227 : decode code 227 = .ok (.iaload, 1) := by decide +kernel
theorem d_La_law_228 : decode code 228 = .ok (.invokevirtual 44, 3) := by decide +kernel
theorem d_La_law_231 : decode code 231 = .ok (.aload_n 2, 1) := by decide +kernel
theorem d_La_law_232 : decode code 232 = .ok (.aload_n 0, 1) := by decide +kernel
theorem d_La_law_233 : decode code 233 = .ok (.iload_n 3, 1) := by decide +kernel
theorem d_La_law_234 : decode code 234 = .ok (.iconst 1, 1) := by decide +kernel
theorem d_La_law_235 : decode code 235 = .ok (.iadd, 1) := by decide +kernel
theorem d_La_law_236 : decode code 236 = .ok (.iaload, 1) := by decide +kernel
theorem d_La_law_237 : decode code 237 = .ok (.aload_n 0, 1) := by decide +kernel
theorem d_La_law_238 : decode code 238 = .ok (.iload_n 3, 1) := by decide +kernel
theorem d_La_law_239 : decode code 239 = .ok (.iconst 2, 1) := by decide +kernel
theorem d_La_law_240 : decode code 240 = .ok (.iadd, 1) := by decide +kernel
theorem d_La_law_241 : decode code 241 = .ok (.iaload, 1) := by decide +kernel
theorem d_La_law_242 : decode code 242 = .ok (.invokevirtual 48, 3) := by decide +kernel
theorem d_La_law_245 : decode code 245 = .ok (.if_icmp .eq (277), 3) := by decide +kernel
theorem d_La_law_248 : decode code 248 = .ok (.iconst 0, 1) := by decide +kernel
theorem d_La_law_249 : decode code 249 = .ok (.ireturn, 1) := by decide +kernel
theorem d_La_law_250 : decode code 250 = .ok (.aload_n 1, 1) := by decide +kernel
theorem d_La_law_251 : decode code 251 = .ok (.aload_n 0, 1) := by decide +kernel
theorem d_La_law_252 : decode code 252 = .ok (.iload_n 3, 1) := by decide +kernel
theorem d_La_law_253 : decode code 253 = .ok (.iconst 1, 1) := by decide +kernel
theorem d_La_law_254 : decode code 254 = .ok (.iadd, 1) := by decide +kernel
theorem d_La_law_255 : decode code 255 = .ok (.iaload, 1) := by decide +kernel
theorem d_La_law_256 : decode code 256 = .ok (.aload_n 0, 1) := by decide +kernel
theorem d_La_law_257 : decode code 257 = .ok (.iload_n 3, 1) := by decide +kernel
theorem d_La_law_258 : decode code 258 = .ok (.iconst 2, 1) := by decide +kernel
theorem d_La_law_259 : decode code 259 = .ok (.iadd, 1) := by decide +kernel
theorem d_La_law_260 : decode code 260 = .ok (.iaload, 1) := by decide +kernel
theorem d_La_law_261 : decode code 261 = .ok (.invokevirtual 49, 3) := by decide +kernel
theorem d_La_law_264 : decode code 264 = .ok (.aload_n 2, 1) := by decide +kernel
theorem d_La_law_265 : decode code 265 = .ok (.aload_n 0, 1) := by decide +kernel
theorem d_La_law_266 : decode code 266 = .ok (.iload_n 3, 1) := by decide +kernel
theorem d_La_law_267 : decode code 267 = .ok (.iconst 1, 1) := by decide +kernel
theorem d_La_law_268 : decode code 268 = .ok (.iadd, 1) := by decide +kernel
theorem d_La_law_269 : decode code 269 = .ok (.iaload, 1) := by decide +kernel
theorem d_La_law_270 : decode code 270 = .ok (.aload_n 0, 1) := by decide +kernel
theorem d_La_law_271 : decode code 271 = .ok (.iload_n 3, 1) := by decide +kernel
theorem d_La_law_272 : decode code 272 = .ok (.iconst 2, 1) := by decide +kernel
theorem d_La_law_273 : decode code 273 = .ok (.iadd, 1) := by decide +kernel
theorem d_La_law_274 : decode code 274 = .ok (.iaload, 1) := by decide +kernel
theorem d_La_law_275 : decode code 275 = .ok (.invokevirtual 52, 3) := by decide +kernel
theorem d_La_law_278 : decode code 278 = .ok (.if_icmp .eq (244), 3) := by decide +kernel
theorem d_La_law_281 : decode code 281 = .ok (.iconst 0, 1) := by decide +kernel
theorem d_La_law_282 : decode code 282 = .ok (.ireturn, 1) := by decide +kernel
theorem d_La_law_283 : decode code 283 = .ok (.aload_n 1, 1) := by decide +kernel
theorem d_La_law_284 : decode code 284 = .ok (.aload_n 0, 1) := by decide +kernel
theorem d_La_law_285 : decode code 285 = .ok (.iload_n 3, 1) := by decide +kernel
theorem d_La_law_286 : decode code 286 = .ok (.iconst 1, 1) := by decide +kernel
theorem d_La_law_287 : decode code 287 = .ok (.iadd, 1) := by decide +kernel
theorem d_La_law_288 : decode code 288 = .ok (.iaload, 1) := by decide +kernel
theorem d_La_law_289 : decode code 289 = .ok (.aload_n 0, 1) := by decide +kernel
theorem d_La_law_290 : decode code 290 = .ok (.iload_n 3, 1) := by decide +kernel
theorem d_La_law_291 : decode code 291 = .ok (.iconst 2, 1) := by decide +kernel
theorem d_La_law_292 : decode code 292 = .ok (.iadd, 1) := by decide +kernel
theorem d_La_law_293 : decode code 293 = .ok (.iaload, 1) := by decide +kernel
theorem d_La_law_294 : decode code 294 = .ok (.aload_n 0, 1) := by decide +kernel
theorem d_La_law_295 : decode code 295 = .ok (.iload_n 3, 1) := by decide +kernel
theorem d_La_law_296 : decode code 296 = .ok (.iconst 3, 1) := by decide +kernel
theorem d_La_law_297 : decode code 297 = .ok (.iadd, 1) := by decide +kernel
theorem d_La_law_298 : decode code 298 = .ok (.iaload, 1) := by decide +kernel
theorem d_La_law_299 : decode code 299 = .ok (.invokevirtual 53, 3) := by decide +kernel
theorem d_La_law_302 : decode code 302 = .ok (.aload_n 2, 1) := by decide +kernel
theorem d_La_law_303 : decode code 303 = .ok (.aload_n 0, 1) := by decide +kernel
theorem d_La_law_304 : decode code 304 = .ok (.iload_n 3, 1) := by decide +kernel
theorem d_La_law_305 : decode code 305 = .ok (.iconst 1, 1) := by decide +kernel
theorem d_La_law_306 : decode code 306 = .ok (.iadd, 1) := by decide +kernel
theorem d_La_law_307 : decode code 307 = .ok (.iaload, 1) := by decide +kernel
theorem d_La_law_308 : decode code 308 = .ok (.aload_n 0, 1) := by decide +kernel
theorem d_La_law_309 : decode code 309 = .ok (.iload_n 3, 1) := by decide +kernel
theorem d_La_law_310 : decode code 310 = .ok (.iconst 2, 1) := by decide +kernel
theorem d_La_law_311 : decode code 311 = .ok (.iadd, 1) := by decide +kernel
theorem d_La_law_312 : decode code 312 = .ok (.iaload, 1) := by decide +kernel
theorem d_La_law_313 : decode code 313 = .ok (.aload_n 0, 1) := by decide +kernel
theorem d_La_law_314 : decode code 314 = .ok (.iload_n 3, 1) := by decide +kernel
theorem d_La_law_315 : decode code 315 = .ok (.iconst 3, 1) := by decide +kernel
theorem d_La_law_316 : decode code 316 = .ok (.iadd, 1) := by decide +kernel
theorem d_La_law_317 : decode code 317 = .ok (.iaload, 1) := by decide +kernel
theorem d_La_law_318 : decode code 318 = .ok (.invokevirtual 57, 3) := by decide +kernel
theorem d_La_law_321 : decode code 321 = .ok (.if_icmp .eq (201), 3) := by decide +kernel
theorem d_La_law_324 : decode code 324 = .ok (.iconst 0, 1) := by decide +kernel
theorem d_La_law_325 : decode code 325 = .ok (.ireturn, 1) := by decide +kernel
theorem d_La_law_326 : decode code 326 = .ok (.aload_n 1, 1) := by decide +kernel
theorem d_La_law_327 : decode code 327 = .ok (.aload_n 0, 1) := by decide +kernel
theorem d_La_law_328 : decode code 328 = .ok (.iload_n 3, 1) := by decide +kernel
theorem d_La_law_329 : decode code 329 = .ok (.iconst 1, 1) := by decide +kernel
theorem d_La_law_330 : decode code 330 = .ok (.iadd, 1) := by decide +kernel
theorem d_La_law_331 : decode code 331 = .ok (.iaload, 1) := by decide +kernel
theorem d_La_law_332 : decode code 332 = .ok (.aload_n 0, 1) := by decide +kernel
theorem d_La_law_333 : decode code 333 = .ok (.iload_n 3, 1) := by decide +kernel
theorem d_La_law_334 : decode code 334 = .ok (.iconst 2, 1) := by decide +kernel
theorem d_La_law_335 : decode code 335 = .ok (.iadd, 1) := by decide +kernel
theorem d_La_law_336 : decode code 336 = .ok (.iaload, 1) := by decide +kernel
theorem d_La_law_337 : decode code 337 = .ok (.invokevirtual 58, 3) := by decide +kernel
theorem d_La_law_340 : decode code 340 = .ok (.aload_n 2, 1) := by decide +kernel
theorem d_La_law_341 : decode code 341 = .ok (.aload_n 0, 1) := by decide +kernel
theorem d_La_law_342 : decode code 342 = .ok (.iload_n 3, 1) := by decide +kernel
theorem d_La_law_343 : decode code 343 = .ok (.iconst 1, 1) := by decide +kernel
theorem d_La_law_344 : decode code 344 = .ok (.iadd, 1) := by decide +kernel
theorem d_La_law_345 : decode code 345 = .ok (.iaload, 1) := by decide +kernel
theorem d_La_law_346 : decode code 346 = .ok (.aload_n 0, 1) := by decide +kernel
theorem d_La_law_347 : decode code 347 = .ok (.iload_n 3, 1) := by decide +kernel
theorem d_La_law_348 : decode code 348 = .ok (.iconst 2, 1) := by decide +kernel
theorem d_La_law_349 : decode code 349 = .ok (.iadd, 1) := by decide +kernel
theorem d_La_law_350 : decode code 350 = .ok (.iaload, 1) := by decide +kernel
theorem d_La_law_351 : decode code 351 = .ok (.invokevirtual 61, 3) := by decide +kernel
theorem d_La_law_354 : decode code 354 = .ok (.if_icmp .eq (168), 3) := by decide +kernel
