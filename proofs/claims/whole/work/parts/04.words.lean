/-! 04.words: words of the tables that the methods use, and what call sites need (written by wip/gen) -/
theorem m_0 : Cond.selects "FoldedFamily" ⟨"FoldedFamily", "dropGrammar", "()V"⟩ ⟨"FoldedFamily", "dropGrammar", "()V"⟩ ∈ gw := gw_mem 0 (by decide +kernel) rfl
theorem m_49 : Cond.initialized "FoldedFamily" ∈ gw := gw_mem 49 (by decide +kernel) rfl
theorem m_50 : Cond.initialized "FoldedFamily$Columns" ∈ gw := gw_mem 50 (by decide +kernel) rfl
theorem m_53 : Cond.initialized "FoldedFamily$Grammar" ∈ gw := gw_mem 53 (by decide +kernel) rfl
theorem m_56 : Cond.initialized "FoldedFamily$Hits" ∈ gw := gw_mem 56 (by decide +kernel) rfl
theorem m_80 : Cond.fieldLink "FoldedFamily$Columns" 25 "FoldedFamily$Columns" "rows" "I" ∈ gw := gw_mem 80 (by decide +kernel) rfl
theorem m_81 : Cond.fieldLink "FoldedFamily$Columns" 9 "FoldedFamily$Columns" "marks" "[C" ∈ gw := gw_mem 81 (by decide +kernel) rfl
theorem m_82 : Cond.fieldLink "FoldedFamily$Columns" 15 "FoldedFamily$Columns" "rowSets" "[I" ∈ gw := gw_mem 82 (by decide +kernel) rfl
theorem m_83 : Cond.fieldLink "FoldedFamily$Columns" 19 "FoldedFamily$Columns" "partners" "[I" ∈ gw := gw_mem 83 (by decide +kernel) rfl
theorem m_84 : Cond.fieldLink "FoldedFamily$Columns" 22 "FoldedFamily$Columns" "open" "[I" ∈ gw := gw_mem 84 (by decide +kernel) rfl
theorem m_85 : Cond.fieldLink "FoldedFamily$Columns" 29 "FoldedFamily$Columns" "count" "I" ∈ gw := gw_mem 85 (by decide +kernel) rfl
theorem m_142 : Cond.fieldLink "FoldedFamily$Grammar" 44 "FoldedFamily$Grammar" "size" "I" ∈ gw := gw_mem 142 (by decide +kernel) rfl
theorem m_208 : Cond.fieldLink "FoldedFamily$Hits" 25 "FoldedFamily$Hits" "count" "I" ∈ gw := gw_mem 208 (by decide +kernel) rfl
theorem m_240 : Cond.fieldLink "FoldedFamily" 36 "FoldedFamily" "columns" "LFoldedFamily$Columns;" ∈ gw := gw_mem 240 (by decide +kernel) rfl
theorem m_242 : Cond.fieldLink "FoldedFamily" 44 "FoldedFamily" "grammar" "LFoldedFamily$Grammar;" ∈ gw := gw_mem 242 (by decide +kernel) rfl
theorem m_245 : Cond.fieldLink "FoldedFamily" 64 "FoldedFamily" "hits" "LFoldedFamily$Hits;" ∈ gw := gw_mem 245 (by decide +kernel) rfl
theorem m_266 : Cond.methodLink "FoldedFamily" 75 ⟨"FoldedFamily", "isMark", "(C)Z"⟩ ∈ gw := gw_mem 266 (by decide +kernel) rfl
theorem m_267 : Cond.static ⟨"FoldedFamily", "isMark", "(C)Z"⟩ ∈ gw := gw_mem 267 (by decide +kernel) rfl
set_option maxRecDepth 100000 in
theorem m_268 : Cond.code ⟨"FoldedFamily", "isMark", "(C)Z"⟩ prog_1_method_17_code 1 (some .boolean) ∈ gw := gw_mem 268 rfl rfl
theorem m_269 : Cond.methodLink "FoldedFamily" 79 ⟨"FoldedFamily$Columns", "isFull", "()Z"⟩ ∈ gw := gw_mem 269 (by decide +kernel) rfl
theorem m_270 : Cond.instanceMethod ⟨"FoldedFamily$Columns", "isFull", "()Z"⟩ ∈ gw := gw_mem 270 (by decide +kernel) rfl
theorem m_271 : Cond.selects "FoldedFamily$Columns" ⟨"FoldedFamily$Columns", "isFull", "()Z"⟩ ⟨"FoldedFamily$Columns", "isFull", "()Z"⟩ ∈ gw := gw_mem 271 (by decide +kernel) rfl
set_option maxRecDepth 100000 in
theorem m_272 : Cond.code ⟨"FoldedFamily$Columns", "isFull", "()Z"⟩ prog_2_method_3_code 1 (some .boolean) ∈ gw := gw_mem 272 rfl rfl
theorem m_273 : Cond.methodLink "FoldedFamily" 83 ⟨"FoldedFamily$Columns", "add", "(CI)V"⟩ ∈ gw := gw_mem 273 (by decide +kernel) rfl
theorem m_274 : Cond.instanceMethod ⟨"FoldedFamily$Columns", "add", "(CI)V"⟩ ∈ gw := gw_mem 274 (by decide +kernel) rfl
theorem m_275 : Cond.selects "FoldedFamily$Columns" ⟨"FoldedFamily$Columns", "add", "(CI)V"⟩ ⟨"FoldedFamily$Columns", "add", "(CI)V"⟩ ∈ gw := gw_mem 275 (by decide +kernel) rfl
set_option maxRecDepth 100000 in
theorem m_276 : Cond.code ⟨"FoldedFamily$Columns", "add", "(CI)V"⟩ prog_2_method_4_code 5 none ∈ gw := gw_mem 276 rfl rfl
theorem m_278 : Cond.static ⟨"FoldedFamily", "isLetter", "(I)Z"⟩ ∈ gw := gw_mem 278 (by decide +kernel) rfl
set_option maxRecDepth 100000 in
theorem m_279 : Cond.code ⟨"FoldedFamily", "isLetter", "(I)Z"⟩ prog_1_method_18_code 1 (some .boolean) ∈ gw := gw_mem 279 rfl rfl
theorem m_280 : Cond.methodLink "FoldedFamily" 87 ⟨"FoldedFamily", "dropGrammar", "()V"⟩ ∈ gw := gw_mem 280 (by decide +kernel) rfl
theorem m_282 : Cond.instanceMethod ⟨"FoldedFamily", "dropGrammar", "()V"⟩ ∈ gw := gw_mem 282 (by decide +kernel) rfl
set_option maxRecDepth 100000 in
theorem m_283 : Cond.code ⟨"FoldedFamily", "dropGrammar", "()V"⟩ prog_1_method_16_code 1 none ∈ gw := gw_mem 283 rfl rfl
theorem m_284 : Cond.methodLink "FoldedFamily" 193 ⟨"FoldedFamily$Grammar", "forget", "()V"⟩ ∈ gw := gw_mem 284 (by decide +kernel) rfl
theorem m_285 : Cond.instanceMethod ⟨"FoldedFamily$Grammar", "forget", "()V"⟩ ∈ gw := gw_mem 285 (by decide +kernel) rfl
theorem m_286 : Cond.selects "FoldedFamily$Grammar" ⟨"FoldedFamily$Grammar", "forget", "()V"⟩ ⟨"FoldedFamily$Grammar", "forget", "()V"⟩ ∈ gw := gw_mem 286 (by decide +kernel) rfl
set_option maxRecDepth 100000 in
theorem m_287 : Cond.code ⟨"FoldedFamily$Grammar", "forget", "()V"⟩ prog_4_method_3_code 1 none ∈ gw := gw_mem 287 rfl rfl
theorem m_288 : Cond.methodLink "FoldedFamily" 106 ⟨"FoldedFamily$Hits", "forget", "()V"⟩ ∈ gw := gw_mem 288 (by decide +kernel) rfl
theorem m_289 : Cond.instanceMethod ⟨"FoldedFamily$Hits", "forget", "()V"⟩ ∈ gw := gw_mem 289 (by decide +kernel) rfl
theorem m_290 : Cond.selects "FoldedFamily$Hits" ⟨"FoldedFamily$Hits", "forget", "()V"⟩ ⟨"FoldedFamily$Hits", "forget", "()V"⟩ ∈ gw := gw_mem 290 (by decide +kernel) rfl
set_option maxRecDepth 100000 in
theorem m_291 : Cond.code ⟨"FoldedFamily$Hits", "forget", "()V"⟩ prog_5_method_3_code 1 none ∈ gw := gw_mem 291 rfl rfl
theorem z_Co_32 : xSN R_Co 32 "FoldedFamily" y_Fa_isLetter prog_1_method_18_code 1 (some .boolean) 1 := ⟨m_279, List.mem_of_getElem? (i := 0) rfl, m_278, m_49, ⟨by decide +kernel, by decide +kernel, by decide +kernel⟩⟩
theorem z_Fa_193 : xV R_Fa 193 R_Gr y_Gr_forget prog_4_method_3_code 1 none 0 := ⟨m_287, m_284, m_285, m_286, m_53, ⟨by decide +kernel, by decide +kernel, by decide +kernel⟩⟩
theorem z_Fa_106 : xV R_Fa 106 R_Hi y_Hi_forget prog_5_method_3_code 1 none 0 := ⟨m_291, m_288, m_289, m_290, m_56, ⟨by decide +kernel, by decide +kernel, by decide +kernel⟩⟩
theorem z_Fa_75 : xSt R_Fa 75 y_Fa_isMark prog_1_method_17_code 1 (some .boolean) 1 := ⟨m_268, m_266, m_267, m_49, ⟨by decide +kernel, by decide +kernel, by decide +kernel⟩⟩
theorem z_Fa_79 : xV R_Fa 79 R_Co y_Co_isFull prog_2_method_3_code 1 (some .boolean) 0 := ⟨m_272, m_269, m_270, m_271, m_50, ⟨by decide +kernel, by decide +kernel, by decide +kernel⟩⟩
theorem z_Fa_83 : xV R_Fa 83 R_Co y_Co_add prog_2_method_4_code 5 none 2 := ⟨m_276, m_273, m_274, m_275, m_50, ⟨by decide +kernel, by decide +kernel, by decide +kernel⟩⟩
theorem z_Fa_87 : xV R_Fa 87 R_Fa y_Fa_dropGrammar prog_1_method_16_code 1 none 0 := ⟨m_283, m_280, m_282, m_0, m_49, ⟨by decide +kernel, by decide +kernel, by decide +kernel⟩⟩
