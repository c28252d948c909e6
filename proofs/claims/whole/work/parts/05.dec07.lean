/-! decode rows (written by wip/gen) -/
theorem d_Mo_write_153 : decode prog_10_method_41_code 153 = .ok (.iload 7, 2) := by decide +kernel
theorem d_Mo_write_155 : decode prog_10_method_41_code 155 = .ok (.iconst 1, 1) := by decide +kernel
theorem d_Mo_write_156 : decode prog_10_method_41_code 156 = .ok (.iadd, 1) := by decide +kernel
theorem d_Mo_write_157 : decode prog_10_method_41_code 157 = .ok (.istore 7, 2) := by decide +kernel
theorem d_Mo_write_159 : decode prog_10_method_41_code 159 = .ok (.goto (-29), 3) := by decide +kernel
theorem d_Mo_write_162 : decode prog_10_method_41_code 162 = .ok (.aload_n 0, 1) := by decide +kernel
theorem d_Mo_write_163 : decode prog_10_method_41_code 163 = .ok (.iload_n 2, 1) := by decide +kernel
theorem d_Mo_write_164 : decode prog_10_method_41_code 164 = .ok (.aload_n 0, 1) := by decide +kernel
theorem d_Mo_write_165 : decode prog_10_method_41_code 165 = .ok (.iload_n 3, 1) := by decide +kernel
theorem d_Mo_write_166 : decode prog_10_method_41_code 166 = .ok (.iconst 1, 1) := by decide +kernel
theorem d_Mo_write_167 : decode prog_10_method_41_code 167 = .ok (.invokevirtual 119, 3) := by decide +kernel
theorem d_Mo_write_170 : decode prog_10_method_41_code 170 = .ok (.iload 4, 2) := by decide +kernel
theorem d_Mo_write_172 : decode prog_10_method_41_code 172 = .ok (.iload 7, 2) := by decide +kernel
theorem d_Mo_write_174 : decode prog_10_method_41_code 174 = .ok (.iadd, 1) := by decide +kernel
theorem d_Mo_write_175 : decode prog_10_method_41_code 175 = .ok (.iload 5, 2) := by decide +kernel
theorem d_Mo_write_177 : decode prog_10_method_41_code 177 = .ok (.iload 7, 2) := by decide +kernel
theorem d_Mo_write_179 : decode prog_10_method_41_code 179 = .ok (.isub, 1) := by decide +kernel
theorem d_Mo_write_180 : decode prog_10_method_41_code 180 = .ok (.invokevirtual 94, 3) := by decide +kernel
theorem d_Mo_write_183 : decode prog_10_method_41_code 183 = .ok (.istore_n 2, 1) := by decide +kernel
theorem d_Mo_write_184 : decode prog_10_method_41_code 184 = .ok (.aload_n 0, 1) := by decide +kernel
theorem d_Mo_write_185 : decode prog_10_method_41_code 185 = .ok (.iload_n 2, 1) := by decide +kernel
theorem d_Mo_write_186 : decode prog_10_method_41_code 186 = .ok (.aload_n 0, 1) := by decide +kernel
theorem d_Mo_write_187 : decode prog_10_method_41_code 187 = .ok (.iload_n 3, 1) := by decide +kernel
theorem d_Mo_write_188 : decode prog_10_method_41_code 188 = .ok (.iconst 0, 1) := by decide +kernel
theorem d_Mo_write_189 : decode prog_10_method_41_code 189 = .ok (.invokevirtual 119, 3) := by decide +kernel
theorem d_Mo_write_192 : decode prog_10_method_41_code 192 = .ok (.iload 4, 2) := by decide +kernel
theorem d_Mo_write_194 : decode prog_10_method_41_code 194 = .ok (.iload 7, 2) := by decide +kernel
theorem d_Mo_write_196 : decode prog_10_method_41_code 196 = .ok (.invokevirtual 94, 3) := by decide +kernel
theorem d_Mo_write_199 : decode prog_10_method_41_code 199 = .ok (.istore_n 2, 1) := by decide +kernel
theorem d_Mo_write_200 : decode prog_10_method_41_code 200 = .ok (.goto (113), 3) := by decide +kernel
theorem d_Mo_write_203 : decode prog_10_method_41_code 203 = .ok (.aload_n 0, 1) := by decide +kernel
theorem d_Mo_write_204 : decode prog_10_method_41_code 204 = .ok (.getfield 34, 3) := by decide +kernel
theorem d_Mo_write_207 : decode prog_10_method_41_code 207 = .ok (.iload_n 3, 1) := by decide +kernel
theorem d_Mo_write_208 : decode prog_10_method_41_code 208 = .ok (.iaload, 1) := by decide +kernel
theorem d_Mo_write_209 : decode prog_10_method_41_code 209 = .ok (.bipush (8), 2) := by decide +kernel
theorem d_Mo_write_211 : decode prog_10_method_41_code 211 = .ok (.if_icmp .eq (102), 3) := by decide +kernel
theorem d_Mo_write_214 : decode prog_10_method_41_code 214 = .ok (.iconst 0, 1) := by decide +kernel
theorem d_Mo_write_215 : decode prog_10_method_41_code 215 = .ok (.istore 7, 2) := by decide +kernel
theorem d_Mo_write_217 : decode prog_10_method_41_code 217 = .ok (.iload 7, 2) := by decide +kernel
theorem d_Mo_write_219 : decode prog_10_method_41_code 219 = .ok (.bipush (7), 2) := by decide +kernel
theorem d_Mo_write_221 : decode prog_10_method_41_code 221 = .ok (.if_icmp .ge (28), 3) := by decide +kernel
theorem d_Mo_write_224 : decode prog_10_method_41_code 224 = .ok (.aload_n 0, 1) := by decide +kernel
theorem d_Mo_write_225 : decode prog_10_method_41_code 225 = .ok (.iload_n 3, 1) := by decide +kernel
theorem d_Mo_write_226 : decode prog_10_method_41_code 226 = .ok (.iload 7, 2) := by decide +kernel
theorem d_Mo_write_228 : decode prog_10_method_41_code 228 = .ok (.iload 4, 2) := by decide +kernel
theorem d_Mo_write_230 : decode prog_10_method_41_code 230 = .ok (.iload 5, 2) := by decide +kernel
theorem d_Mo_write_232 : decode prog_10_method_41_code 232 = .ok (.invokevirtual 174, 3) := by decide +kernel
theorem d_Mo_write_235 : decode prog_10_method_41_code 235 = .ok (.iload 6, 2) := by decide +kernel
theorem d_Mo_write_237 : decode prog_10_method_41_code 237 = .ok (.if_icmp .eq (12), 3) := by decide +kernel
theorem d_Mo_write_240 : decode prog_10_method_41_code 240 = .ok (.iload 7, 2) := by decide +kernel
theorem d_Mo_write_242 : decode prog_10_method_41_code 242 = .ok (.iconst 1, 1) := by decide +kernel
theorem d_Mo_write_243 : decode prog_10_method_41_code 243 = .ok (.iadd, 1) := by decide +kernel
theorem d_Mo_write_244 : decode prog_10_method_41_code 244 = .ok (.istore 7, 2) := by decide +kernel
theorem d_Mo_write_246 : decode prog_10_method_41_code 246 = .ok (.goto (-29), 3) := by decide +kernel
theorem d_Mo_write_249 : decode prog_10_method_41_code 249 = .ok (.aload_n 0, 1) := by decide +kernel
theorem d_Mo_write_250 : decode prog_10_method_41_code 250 = .ok (.getfield 34, 3) := by decide +kernel
theorem d_Mo_write_253 : decode prog_10_method_41_code 253 = .ok (.iload_n 3, 1) := by decide +kernel
theorem d_Mo_write_254 : decode prog_10_method_41_code 254 = .ok (.iaload, 1) := by decide +kernel
theorem d_Mo_write_255 : decode prog_10_method_41_code 255 = .ok (.invokestatic 162, 3) := by decide +kernel
theorem d_Mo_write_258 : decode prog_10_method_41_code 258 = .ok (.ifCond .eq (7), 3) := by decide +kernel
theorem d_Mo_write_261 : decode prog_10_method_41_code 261 = .ok (.iconst 1, 1) := by decide +kernel
theorem d_Mo_write_262 : decode prog_10_method_41_code 262 = .ok (.goto (4), 3) := by decide +kernel
theorem d_Mo_write_265 : decode prog_10_method_41_code 265 = .ok (.iconst 0, 1) := by decide +kernel
theorem d_Mo_write_266 : decode prog_10_method_41_code 266 = .ok (.istore 8, 2) := by decide +kernel
theorem d_Mo_write_268 : decode prog_10_method_41_code 268 = .ok (.aload_n 0, 1) := by decide +kernel
theorem d_Mo_write_269 : decode prog_10_method_41_code 269 = .ok (.getfield 34, 3) := by decide +kernel
theorem d_Mo_write_272 : decode prog_10_method_41_code 272 = .ok (.iload_n 3, 1) := by decide +kernel
theorem d_Mo_write_273 : decode prog_10_method_41_code 273 = .ok (.iaload, 1) := by decide +kernel
theorem d_Mo_write_274 : decode prog_10_method_41_code 274 = .ok (.invokestatic 165, 3) := by decide +kernel
theorem d_Mo_write_277 : decode prog_10_method_41_code 277 = .ok (.ifCond .eq (7), 3) := by decide +kernel
theorem d_Mo_write_280 : decode prog_10_method_41_code 280 = .ok (.iconst 1, 1) := by decide +kernel
theorem d_Mo_write_281 : decode prog_10_method_41_code 281 = .ok (.goto (4), 3) := by decide +kernel
theorem d_Mo_write_284 : decode prog_10_method_41_code 284 = .ok (.iconst 0, 1) := by decide +kernel
theorem d_Mo_write_285 : decode prog_10_method_41_code 285 = .ok (.istore 9, 2) := by decide +kernel
theorem d_Mo_write_287 : decode prog_10_method_41_code 287 = .ok (.aload_n 0, 1) := by decide +kernel
theorem d_Mo_write_288 : decode prog_10_method_41_code 288 = .ok (.iload_n 2, 1) := by decide +kernel
theorem d_Mo_write_289 : decode prog_10_method_41_code 289 = .ok (.aload_n 0, 1) := by decide +kernel
theorem d_Mo_write_290 : decode prog_10_method_41_code 290 = .ok (.iload_n 3, 1) := by decide +kernel
theorem d_Mo_write_291 : decode prog_10_method_41_code 291 = .ok (.iload 7, 2) := by decide +kernel
theorem d_Mo_write_293 : decode prog_10_method_41_code 293 = .ok (.invokevirtual 119, 3) := by decide +kernel
theorem d_Mo_write_296 : decode prog_10_method_41_code 296 = .ok (.iload 4, 2) := by decide +kernel
theorem d_Mo_write_298 : decode prog_10_method_41_code 298 = .ok (.iload 8, 2) := by decide +kernel
theorem d_Mo_write_300 : decode prog_10_method_41_code 300 = .ok (.iadd, 1) := by decide +kernel
theorem d_Mo_write_301 : decode prog_10_method_41_code 301 = .ok (.iload 5, 2) := by decide +kernel
theorem d_Mo_write_303 : decode prog_10_method_41_code 303 = .ok (.iload 8, 2) := by decide +kernel
theorem d_Mo_write_305 : decode prog_10_method_41_code 305 = .ok (.isub, 1) := by decide +kernel
theorem d_Mo_write_306 : decode prog_10_method_41_code 306 = .ok (.iload 9, 2) := by decide +kernel
theorem d_Mo_write_308 : decode prog_10_method_41_code 308 = .ok (.isub, 1) := by decide +kernel
theorem d_Mo_write_309 : decode prog_10_method_41_code 309 = .ok (.invokevirtual 94, 3) := by decide +kernel
theorem d_Mo_write_312 : decode prog_10_method_41_code 312 = .ok (.istore_n 2, 1) := by decide +kernel
theorem d_Mo_write_313 : decode prog_10_method_41_code 313 = .ok (.goto (-289), 3) := by decide +kernel
theorem d_Mo_write_316 : decode prog_10_method_41_code 316 = .ok (.return_, 1) := by decide +kernel
theorem d_Mo_hit_0 : decode prog_10_method_42_code 0 = .ok (.iload_n 1, 1) := by decide +kernel
theorem d_Mo_hit_1 : decode prog_10_method_42_code 1 = .ok (.ifCond .lt (20), 3) := by decide +kernel
theorem d_Mo_hit_4 : decode prog_10_method_42_code 4 = .ok (.iload_n 1, 1) := by decide +kernel
theorem d_Mo_hit_5 : decode prog_10_method_42_code 5 = .ok (.aload_n 0, 1) := by decide +kernel
theorem d_Mo_hit_6 : decode prog_10_method_42_code 6 = .ok (.getfield 78, 3) := by decide +kernel
theorem d_Mo_hit_9 : decode prog_10_method_42_code 9 = .ok (.if_icmp .ge (12), 3) := by decide +kernel
theorem d_Mo_hit_12 : decode prog_10_method_42_code 12 = .ok (.iload_n 2, 1) := by decide +kernel
theorem d_Mo_hit_13 : decode prog_10_method_42_code 13 = .ok (.ifCond .lt (8), 3) := by decide +kernel
theorem d_Mo_hit_16 : decode prog_10_method_42_code 16 = .ok (.iload_n 2, 1) := by decide +kernel
theorem d_Mo_hit_17 : decode prog_10_method_42_code 17 = .ok (.iconst 3, 1) := by decide +kernel
theorem d_Mo_hit_18 : decode prog_10_method_42_code 18 = .ok (.if_icmp .le (6), 3) := by decide +kernel
theorem d_Mo_hit_21 : decode prog_10_method_42_code 21 = .ok (.ldc 136, 2) := by decide +kernel
theorem d_Mo_hit_23 : decode prog_10_method_42_code 23 = .ok (.ireturn, 1) := by decide +kernel
theorem d_Mo_hit_24 : decode prog_10_method_42_code 24 = .ok (.iload_n 2, 1) := by decide +kernel
theorem d_Mo_hit_25 : decode prog_10_method_42_code 25 = .ok (.iconst 3, 1) := by decide +kernel
theorem d_Mo_hit_26 : decode prog_10_method_42_code 26 = .ok (.if_icmp .ne (8), 3) := by decide +kernel
theorem d_Mo_hit_29 : decode prog_10_method_42_code 29 = .ok (.aload_n 0, 1) := by decide +kernel
theorem d_Mo_hit_30 : decode prog_10_method_42_code 30 = .ok (.iload_n 1, 1) := by decide +kernel
theorem d_Mo_hit_31 : decode prog_10_method_42_code 31 = .ok (.invokevirtual 193, 3) := by decide +kernel
theorem d_Mo_hit_34 : decode prog_10_method_42_code 34 = .ok (.iload_n 2, 1) := by decide +kernel
theorem d_Mo_hit_35 : decode prog_10_method_42_code 35 = .ok (.ifCond .ne (12), 3) := by decide +kernel
theorem d_Mo_hit_38 : decode prog_10_method_42_code 38 = .ok (.aload_n 0, 1) := by decide +kernel
theorem d_Mo_hit_39 : decode prog_10_method_42_code 39 = .ok (.getfield 52, 3) := by decide +kernel
theorem d_Mo_hit_42 : decode prog_10_method_42_code 42 = .ok (.iload_n 1, 1) := by decide +kernel
theorem d_Mo_hit_43 : decode prog_10_method_42_code 43 = .ok (.iaload, 1) := by decide +kernel
theorem d_Mo_hit_44 : decode prog_10_method_42_code 44 = .ok (.goto (50), 3) := by decide +kernel
theorem d_Mo_hit_47 : decode prog_10_method_42_code 47 = .ok (.iload_n 2, 1) := by decide +kernel
theorem d_Mo_hit_48 : decode prog_10_method_42_code 48 = .ok (.iconst 1, 1) := by decide +kernel
theorem d_Mo_hit_49 : decode prog_10_method_42_code 49 = .ok (.if_icmp .ne (12), 3) := by decide +kernel
theorem d_Mo_hit_52 : decode prog_10_method_42_code 52 = .ok (.aload_n 0, 1) := by decide +kernel
theorem d_Mo_hit_53 : decode prog_10_method_42_code 53 = .ok (.getfield 55, 3) := by decide +kernel
theorem d_Mo_hit_56 : decode prog_10_method_42_code 56 = .ok (.iload_n 1, 1) := by decide +kernel
theorem d_Mo_hit_57 : decode prog_10_method_42_code 57 = .ok (.iaload, 1) := by decide +kernel
theorem d_Mo_hit_58 : decode prog_10_method_42_code 58 = .ok (.goto (36), 3) := by decide +kernel
theorem d_Mo_hit_61 : decode prog_10_method_42_code 61 = .ok (.iload_n 2, 1) := by decide +kernel
theorem d_Mo_hit_62 : decode prog_10_method_42_code 62 = .ok (.iconst 2, 1) := by decide +kernel
theorem d_Mo_hit_63 : decode prog_10_method_42_code 63 = .ok (.if_icmp .ne (27), 3) := by decide +kernel
theorem d_Mo_hit_66 : decode prog_10_method_42_code 66 = .ok (.aload_n 0, 1) := by decide +kernel
theorem d_Mo_hit_67 : decode prog_10_method_42_code 67 = .ok (.getfield 49, 3) := by decide +kernel
theorem d_Mo_hit_70 : decode prog_10_method_42_code 70 = .ok (.iconst 0, 1) := by decide +kernel
theorem d_Mo_hit_71 : decode prog_10_method_42_code 71 = .ok (.aload_n 0, 1) := by decide +kernel
theorem d_Mo_hit_72 : decode prog_10_method_42_code 72 = .ok (.getfield 52, 3) := by decide +kernel
theorem d_Mo_hit_75 : decode prog_10_method_42_code 75 = .ok (.iload_n 1, 1) := by decide +kernel
theorem d_Mo_hit_76 : decode prog_10_method_42_code 76 = .ok (.iaload, 1) := by decide +kernel
theorem d_Mo_hit_77 : decode prog_10_method_42_code 77 = .ok (.aload_n 0, 1) := by decide +kernel
theorem d_Mo_hit_78 : decode prog_10_method_42_code 78 = .ok (.getfield 55, 3) := by decide +kernel
theorem d_Mo_hit_81 : decode prog_10_method_42_code 81 = .ok (.iload_n 1, 1) := by decide +kernel
theorem d_Mo_hit_82 : decode prog_10_method_42_code 82 = .ok (.iaload, 1) := by decide +kernel
theorem d_Mo_hit_83 : decode prog_10_method_42_code 83 = .ok (.invokestatic 168, 3) := by decide +kernel
theorem d_Mo_hit_86 : decode prog_10_method_42_code 86 = .ok (.iaload, 1) := by decide +kernel
theorem d_Mo_hit_87 : decode prog_10_method_42_code 87 = .ok (.goto (7), 3) := by decide +kernel
theorem d_Mo_hit_90 : decode prog_10_method_42_code 90 = .ok (.aload_n 0, 1) := by decide +kernel
theorem d_Mo_hit_91 : decode prog_10_method_42_code 91 = .ok (.getfield 190, 3) := by decide +kernel
theorem d_Mo_hit_94 : decode prog_10_method_42_code 94 = .ok (.ireturn, 1) := by decide +kernel
theorem d_Mo_derived_0 : decode prog_10_method_43_code 0 = .ok (.iload_n 1, 1) := by decide +kernel
theorem d_Mo_derived_1 : decode prog_10_method_43_code 1 = .ok (.ifCond .lt (20), 3) := by decide +kernel
theorem d_Mo_derived_4 : decode prog_10_method_43_code 4 = .ok (.iload_n 1, 1) := by decide +kernel
theorem d_Mo_derived_5 : decode prog_10_method_43_code 5 = .ok (.aload_n 0, 1) := by decide +kernel
theorem d_Mo_derived_6 : decode prog_10_method_43_code 6 = .ok (.getfield 78, 3) := by decide +kernel
theorem d_Mo_derived_9 : decode prog_10_method_43_code 9 = .ok (.if_icmp .ge (12), 3) := by decide +kernel
theorem d_Mo_derived_12 : decode prog_10_method_43_code 12 = .ok (.iload_n 3, 1) := by decide +kernel
theorem d_Mo_derived_13 : decode prog_10_method_43_code 13 = .ok (.ifCond .lt (8), 3) := by decide +kernel
theorem d_Mo_derived_16 : decode prog_10_method_43_code 16 = .ok (.iload_n 3, 1) := by decide +kernel
theorem d_Mo_derived_17 : decode prog_10_method_43_code 17 = .ok (.iconst 2, 1) := by decide +kernel
theorem d_Mo_derived_18 : decode prog_10_method_43_code 18 = .ok (.if_icmp .le (6), 3) := by decide +kernel
theorem d_Mo_derived_21 : decode prog_10_method_43_code 21 = .ok (.ldc 136, 2) := by decide +kernel
theorem d_Mo_derived_23 : decode prog_10_method_43_code 23 = .ok (.ireturn, 1) := by decide +kernel
theorem d_Mo_derived_24 : decode prog_10_method_43_code 24 = .ok (.aload_n 0, 1) := by decide +kernel
theorem d_Mo_derived_25 : decode prog_10_method_43_code 25 = .ok (.iload_n 1, 1) := by decide +kernel
theorem d_Mo_derived_26 : decode prog_10_method_43_code 26 = .ok (.invokevirtual 193, 3) := by decide +kernel
theorem d_Mo_derived_29 : decode prog_10_method_43_code 29 = .ok (.iload_n 2, 1) := by decide +kernel
theorem d_Mo_derived_30 : decode prog_10_method_43_code 30 = .ok (.ifCond .lt (11), 3) := by decide +kernel
theorem d_Mo_derived_33 : decode prog_10_method_43_code 33 = .ok (.iload_n 2, 1) := by decide +kernel
theorem d_Mo_derived_34 : decode prog_10_method_43_code 34 = .ok (.aload_n 0, 1) := by decide +kernel
theorem d_Mo_derived_35 : decode prog_10_method_43_code 35 = .ok (.getfield 190, 3) := by decide +kernel
theorem d_Mo_derived_38 : decode prog_10_method_43_code 38 = .ok (.if_icmp .lt (6), 3) := by decide +kernel
theorem d_Mo_derived_41 : decode prog_10_method_43_code 41 = .ok (.ldc 136, 2) := by decide +kernel
theorem d_Mo_derived_43 : decode prog_10_method_43_code 43 = .ok (.ireturn, 1) := by decide +kernel
theorem d_Mo_derived_44 : decode prog_10_method_43_code 44 = .ok (.iload_n 3, 1) := by decide +kernel
theorem d_Mo_derived_45 : decode prog_10_method_43_code 45 = .ok (.ifCond .ne (12), 3) := by decide +kernel
theorem d_Mo_derived_48 : decode prog_10_method_43_code 48 = .ok (.aload_n 0, 1) := by decide +kernel
theorem d_Mo_derived_49 : decode prog_10_method_43_code 49 = .ok (.getfield 58, 3) := by decide +kernel
theorem d_Mo_derived_52 : decode prog_10_method_43_code 52 = .ok (.iload_n 2, 1) := by decide +kernel
theorem d_Mo_derived_53 : decode prog_10_method_43_code 53 = .ok (.iaload, 1) := by decide +kernel
theorem d_Mo_derived_54 : decode prog_10_method_43_code 54 = .ok (.goto (23), 3) := by decide +kernel
theorem d_Mo_derived_57 : decode prog_10_method_43_code 57 = .ok (.iload_n 3, 1) := by decide +kernel
theorem d_Mo_derived_58 : decode prog_10_method_43_code 58 = .ok (.iconst 1, 1) := by decide +kernel
theorem d_Mo_derived_59 : decode prog_10_method_43_code 59 = .ok (.if_icmp .ne (12), 3) := by decide +kernel
theorem d_Mo_derived_62 : decode prog_10_method_43_code 62 = .ok (.aload_n 0, 1) := by decide +kernel
theorem d_Mo_derived_63 : decode prog_10_method_43_code 63 = .ok (.getfield 61, 3) := by decide +kernel
theorem d_Mo_derived_66 : decode prog_10_method_43_code 66 = .ok (.iload_n 2, 1) := by decide +kernel
theorem d_Mo_derived_67 : decode prog_10_method_43_code 67 = .ok (.iaload, 1) := by decide +kernel
theorem d_Mo_derived_68 : decode prog_10_method_43_code 68 = .ok (.goto (9), 3) := by decide +kernel
theorem d_Mo_derived_71 : decode prog_10_method_43_code 71 = .ok (.aload_n 0, 1) := by decide +kernel
theorem d_Mo_derived_72 : decode prog_10_method_43_code 72 = .ok (.getfield 64, 3) := by decide +kernel
theorem d_Mo_derived_75 : decode prog_10_method_43_code 75 = .ok (.iload_n 2, 1) := by decide +kernel
theorem d_Mo_derived_76 : decode prog_10_method_43_code 76 = .ok (.iaload, 1) := by decide +kernel
theorem d_Mo_derived_77 : decode prog_10_method_43_code 77 = .ok (.ireturn, 1) := by decide +kernel
