/-! 04.words: words of the tables that the methods use, and what call sites need (written by wip/gen) -/
theorem m_0 : Cond.selects "FoldedFamily" ⟨"FoldedFamily", "dropGrammar", "()V"⟩ ⟨"FoldedFamily", "dropGrammar", "()V"⟩ ∈ gw := gw_mem 0 (by decide +kernel) rfl
theorem m_1 : Cond.selects "FoldedFamily$Tree" ⟨"FoldedFamily$Tree", "add", "(III)V"⟩ ⟨"FoldedFamily$Tree", "add", "(III)V"⟩ ∈ gw := gw_mem 1 (by decide +kernel) rfl
theorem m_2 : Cond.selects "FoldedFamily$Tree" ⟨"FoldedFamily$Tree", "growPart", "(III)V"⟩ ⟨"FoldedFamily$Tree", "growPart", "(III)V"⟩ ∈ gw := gw_mem 2 (by decide +kernel) rfl
theorem m_3 : Cond.selects "FoldedFamily$Tree" ⟨"FoldedFamily$Tree", "growFork", "(III)V"⟩ ⟨"FoldedFamily$Tree", "growFork", "(III)V"⟩ ∈ gw := gw_mem 3 (by decide +kernel) rfl
theorem m_4 : Cond.selects "FoldedFamily$Grammar" ⟨"FoldedFamily$Grammar", "layStates", "()V"⟩ ⟨"FoldedFamily$Grammar", "layStates", "()V"⟩ ∈ gw := gw_mem 4 (by decide +kernel) rfl
theorem m_5 : Cond.selects "FoldedFamily$Grammar" ⟨"FoldedFamily$Grammar", "rowsIn", "(II)I"⟩ ⟨"FoldedFamily$Grammar", "rowsIn", "(II)I"⟩ ∈ gw := gw_mem 5 (by decide +kernel) rfl
theorem m_6 : Cond.selects "FoldedFamily$Grammar" ⟨"FoldedFamily$Grammar", "addTargets", "(I)V"⟩ ⟨"FoldedFamily$Grammar", "addTargets", "(I)V"⟩ ∈ gw := gw_mem 6 (by decide +kernel) rfl
theorem m_7 : Cond.selects "FoldedFamily$Grammar" ⟨"FoldedFamily$Grammar", "addTarget", "(II)V"⟩ ⟨"FoldedFamily$Grammar", "addTarget", "(II)V"⟩ ∈ gw := gw_mem 7 (by decide +kernel) rfl
theorem m_8 : Cond.selects "FoldedFamily$Grammar" ⟨"FoldedFamily$Grammar", "addStates", "(IIZ)V"⟩ ⟨"FoldedFamily$Grammar", "addStates", "(IIZ)V"⟩ ∈ gw := gw_mem 8 (by decide +kernel) rfl
theorem m_9 : Cond.selects "FoldedFamily$Grammar" ⟨"FoldedFamily$Grammar", "scoreSteps", "(I)V"⟩ ⟨"FoldedFamily$Grammar", "scoreSteps", "(I)V"⟩ ∈ gw := gw_mem 9 (by decide +kernel) rfl
theorem m_10 : Cond.selects "FoldedFamily$Grammar" ⟨"FoldedFamily$Grammar", "scoreLetters", "(I)V"⟩ ⟨"FoldedFamily$Grammar", "scoreLetters", "(I)V"⟩ ∈ gw := gw_mem 10 (by decide +kernel) rfl
theorem m_11 : Cond.selects "FoldedFamily$Grammar" ⟨"FoldedFamily$Grammar", "scoreOfLetters", "(III)I"⟩ ⟨"FoldedFamily$Grammar", "scoreOfLetters", "(III)I"⟩ ∈ gw := gw_mem 11 (by decide +kernel) rfl
theorem m_12 : Cond.selects "FoldedFamily$Grammar" ⟨"FoldedFamily$Grammar", "rowsWithLetters", "(III)I"⟩ ⟨"FoldedFamily$Grammar", "rowsWithLetters", "(III)I"⟩ ∈ gw := gw_mem 12 (by decide +kernel) rfl
theorem m_13 : Cond.selects "FoldedFamily$Values" ⟨"FoldedFamily$Values", "reckon", "(III)I"⟩ ⟨"FoldedFamily$Values", "reckon", "(III)I"⟩ ∈ gw := gw_mem 13 (by decide +kernel) rfl
theorem m_14 : Cond.selects "FoldedFamily$Values" ⟨"FoldedFamily$Values", "greatestOfSplits", "(III)I"⟩ ⟨"FoldedFamily$Values", "greatestOfSplits", "(III)I"⟩ ∈ gw := gw_mem 14 (by decide +kernel) rfl
theorem m_15 : Cond.selects "FoldedFamily$Values" ⟨"FoldedFamily$Values", "throughSplit", "(IIII)I"⟩ ⟨"FoldedFamily$Values", "throughSplit", "(IIII)I"⟩ ∈ gw := gw_mem 15 (by decide +kernel) rfl
theorem m_16 : Cond.selects "FoldedFamily$Values" ⟨"FoldedFamily$Values", "greatestOfTargets", "(III)I"⟩ ⟨"FoldedFamily$Values", "greatestOfTargets", "(III)I"⟩ ∈ gw := gw_mem 16 (by decide +kernel) rfl
theorem m_17 : Cond.selects "FoldedFamily$Values" ⟨"FoldedFamily$Values", "throughTarget", "(IIII)I"⟩ ⟨"FoldedFamily$Values", "throughTarget", "(IIII)I"⟩ ∈ gw := gw_mem 17 (by decide +kernel) rfl
theorem m_18 : Cond.selects "FoldedFamily$Values" ⟨"FoldedFamily$Values", "emitted", "(III)I"⟩ ⟨"FoldedFamily$Values", "emitted", "(III)I"⟩ ∈ gw := gw_mem 18 (by decide +kernel) rfl
theorem m_19 : Cond.selects "FoldedFamily$Hits" ⟨"FoldedFamily$Hits", "findNext", "(LFoldedFamily$Values;III)Z"⟩ ⟨"FoldedFamily$Hits", "findNext", "(LFoldedFamily$Values;III)Z"⟩ ∈ gw := gw_mem 19 (by decide +kernel) rfl
theorem m_20 : Cond.selects "FoldedFamily$Hits" ⟨"FoldedFamily$Hits", "freeEnd", "(II)I"⟩ ⟨"FoldedFamily$Hits", "freeEnd", "(II)I"⟩ ∈ gw := gw_mem 20 (by decide +kernel) rfl
theorem m_21 : Cond.selects "FoldedFamily$Hits" ⟨"FoldedFamily$Hits", "note", "(III)V"⟩ ⟨"FoldedFamily$Hits", "note", "(III)V"⟩ ∈ gw := gw_mem 21 (by decide +kernel) rfl
theorem m_22 : Cond.selects "FoldedFamily$Hits" ⟨"FoldedFamily$Hits", "takeNoted", "()V"⟩ ⟨"FoldedFamily$Hits", "takeNoted", "()V"⟩ ∈ gw := gw_mem 22 (by decide +kernel) rfl
theorem m_23 : Cond.selects "FoldedFamily$Derivation" ⟨"FoldedFamily$Derivation", "writeFrom", "(LFoldedFamily$Values;III)V"⟩ ⟨"FoldedFamily$Derivation", "writeFrom", "(LFoldedFamily$Values;III)V"⟩ ∈ gw := gw_mem 23 (by decide +kernel) rfl
theorem m_24 : Cond.selects "FoldedFamily$Derivation" ⟨"FoldedFamily$Derivation", "note", "(III)V"⟩ ⟨"FoldedFamily$Derivation", "note", "(III)V"⟩ ∈ gw := gw_mem 24 (by decide +kernel) rfl
theorem m_25 : Cond.selects "FoldedFamily$Derivation" ⟨"FoldedFamily$Derivation", "writeParts", "(LFoldedFamily$Values;III)V"⟩ ⟨"FoldedFamily$Derivation", "writeParts", "(LFoldedFamily$Values;III)V"⟩ ∈ gw := gw_mem 25 (by decide +kernel) rfl
theorem m_26 : Cond.selects "FoldedFamily$Derivation" ⟨"FoldedFamily$Derivation", "writeRest", "(LFoldedFamily$Values;III)V"⟩ ⟨"FoldedFamily$Derivation", "writeRest", "(LFoldedFamily$Values;III)V"⟩ ∈ gw := gw_mem 26 (by decide +kernel) rfl
theorem m_27 : Cond.selects "FoldedFamilyModel" ⟨"FoldedFamilyModel", "changed", "()V"⟩ ⟨"FoldedFamilyModel", "changed", "()V"⟩ ∈ gw := gw_mem 27 (by decide +kernel) rfl
theorem m_28 : Cond.selects "FoldedFamilyModel" ⟨"FoldedFamilyModel", "pair", "()Z"⟩ ⟨"FoldedFamilyModel", "pair", "()Z"⟩ ∈ gw := gw_mem 28 (by decide +kernel) rfl
theorem m_29 : Cond.selects "FoldedFamilyModel" ⟨"FoldedFamilyModel", "plant", "()V"⟩ ⟨"FoldedFamilyModel", "plant", "()V"⟩ ∈ gw := gw_mem 29 (by decide +kernel) rfl
theorem m_30 : Cond.selects "FoldedFamilyModel" ⟨"FoldedFamilyModel", "node", "(III)I"⟩ ⟨"FoldedFamilyModel", "node", "(III)I"⟩ ∈ gw := gw_mem 30 (by decide +kernel) rfl
theorem m_31 : Cond.selects "FoldedFamilyModel" ⟨"FoldedFamilyModel", "push", "(IIII)I"⟩ ⟨"FoldedFamilyModel", "push", "(IIII)I"⟩ ∈ gw := gw_mem 31 (by decide +kernel) rfl
theorem m_32 : Cond.selects "FoldedFamilyModel" ⟨"FoldedFamilyModel", "settle", "()V"⟩ ⟨"FoldedFamilyModel", "settle", "()V"⟩ ∈ gw := gw_mem 32 (by decide +kernel) rfl
theorem m_33 : Cond.selects "FoldedFamilyModel" ⟨"FoldedFamilyModel", "state", "(II)V"⟩ ⟨"FoldedFamilyModel", "state", "(II)V"⟩ ∈ gw := gw_mem 33 (by decide +kernel) rfl
theorem m_34 : Cond.selects "FoldedFamilyModel" ⟨"FoldedFamilyModel", "scoreSteps", "(I)V"⟩ ⟨"FoldedFamilyModel", "scoreSteps", "(I)V"⟩ ∈ gw := gw_mem 34 (by decide +kernel) rfl
theorem m_35 : Cond.selects "FoldedFamilyModel" ⟨"FoldedFamilyModel", "targetOf", "(II)I"⟩ ⟨"FoldedFamilyModel", "targetOf", "(II)I"⟩ ∈ gw := gw_mem 35 (by decide +kernel) rfl
theorem m_36 : Cond.selects "FoldedFamilyModel" ⟨"FoldedFamilyModel", "rowsFrom", "(II)I"⟩ ⟨"FoldedFamilyModel", "rowsFrom", "(II)I"⟩ ∈ gw := gw_mem 36 (by decide +kernel) rfl
theorem m_37 : Cond.selects "FoldedFamilyModel" ⟨"FoldedFamilyModel", "kindAt", "(II)I"⟩ ⟨"FoldedFamilyModel", "kindAt", "(II)I"⟩ ∈ gw := gw_mem 37 (by decide +kernel) rfl
theorem m_38 : Cond.selects "FoldedFamilyModel" ⟨"FoldedFamilyModel", "rowsIn", "(I)I"⟩ ⟨"FoldedFamilyModel", "rowsIn", "(I)I"⟩ ∈ gw := gw_mem 38 (by decide +kernel) rfl
theorem m_39 : Cond.selects "FoldedFamilyModel" ⟨"FoldedFamilyModel", "scoreLetters", "(I)V"⟩ ⟨"FoldedFamilyModel", "scoreLetters", "(I)V"⟩ ∈ gw := gw_mem 39 (by decide +kernel) rfl
theorem m_40 : Cond.selects "FoldedFamilyModel" ⟨"FoldedFamilyModel", "isState", "(I)Z"⟩ ⟨"FoldedFamilyModel", "isState", "(I)Z"⟩ ∈ gw := gw_mem 40 (by decide +kernel) rfl
theorem m_41 : Cond.selects "FoldedFamilyModel" ⟨"FoldedFamilyModel", "work", "()V"⟩ ⟨"FoldedFamilyModel", "work", "()V"⟩ ∈ gw := gw_mem 41 (by decide +kernel) rfl
theorem m_42 : Cond.selects "FoldedFamilyModel" ⟨"FoldedFamilyModel", "better", "(III)I"⟩ ⟨"FoldedFamilyModel", "better", "(III)I"⟩ ∈ gw := gw_mem 42 (by decide +kernel) rfl
theorem m_43 : Cond.selects "FoldedFamilyModel" ⟨"FoldedFamilyModel", "by", "(IIII)I"⟩ ⟨"FoldedFamilyModel", "by", "(IIII)I"⟩ ∈ gw := gw_mem 43 (by decide +kernel) rfl
theorem m_44 : Cond.selects "FoldedFamilyModel" ⟨"FoldedFamilyModel", "letterScore", "(III)I"⟩ ⟨"FoldedFamilyModel", "letterScore", "(III)I"⟩ ∈ gw := gw_mem 44 (by decide +kernel) rfl
theorem m_45 : Cond.selects "FoldedFamilyModel" ⟨"FoldedFamilyModel", "bySplit", "(IIII)I"⟩ ⟨"FoldedFamilyModel", "bySplit", "(IIII)I"⟩ ∈ gw := gw_mem 45 (by decide +kernel) rfl
theorem m_46 : Cond.selects "FoldedFamilyModel" ⟨"FoldedFamilyModel", "free", "(II)Z"⟩ ⟨"FoldedFamilyModel", "free", "(II)Z"⟩ ∈ gw := gw_mem 46 (by decide +kernel) rfl
theorem m_47 : Cond.selects "FoldedFamilyModel" ⟨"FoldedFamilyModel", "write", "(I)V"⟩ ⟨"FoldedFamilyModel", "write", "(I)V"⟩ ∈ gw := gw_mem 47 (by decide +kernel) rfl
theorem m_49 : Cond.initialized "FoldedFamily" ∈ gw := gw_mem 49 (by decide +kernel) rfl
theorem m_50 : Cond.initialized "FoldedFamily$Columns" ∈ gw := gw_mem 50 (by decide +kernel) rfl
theorem m_51 : Cond.initialized "java/lang/Math" ∈ gw := gw_mem 51 (by decide +kernel) rfl
theorem m_52 : Cond.initialized "FoldedFamily$Tree" ∈ gw := gw_mem 52 (by decide +kernel) rfl
theorem m_53 : Cond.initialized "FoldedFamily$Grammar" ∈ gw := gw_mem 53 (by decide +kernel) rfl
theorem m_54 : Cond.initialized "FoldedFamily$Text" ∈ gw := gw_mem 54 (by decide +kernel) rfl
theorem m_55 : Cond.initialized "FoldedFamily$Values" ∈ gw := gw_mem 55 (by decide +kernel) rfl
theorem m_56 : Cond.initialized "FoldedFamily$Hits" ∈ gw := gw_mem 56 (by decide +kernel) rfl
theorem m_57 : Cond.initialized "FoldedFamily$Derivation" ∈ gw := gw_mem 57 (by decide +kernel) rfl
theorem m_58 : Cond.initialized "FoldedFamilyModel" ∈ gw := gw_mem 58 (by decide +kernel) rfl
theorem m_59 : Cond.initialized "java/lang/Integer" ∈ gw := gw_mem 59 (by decide +kernel) rfl
theorem m_65 : Cond.methodLink "FoldedFamily" 3 ⟨"java/lang/Object", "<init>", "()V"⟩ ∈ gw := gw_mem 65 (by decide +kernel) rfl
theorem m_66 : Cond.instanceMethod ⟨"java/lang/Object", "<init>", "()V"⟩ ∈ gw := gw_mem 66 (by decide +kernel) rfl
theorem m_68 : Cond.classLink "FoldedFamily" 9 "FoldedFamily$Columns" ∈ gw := gw_mem 68 (by decide +kernel) rfl
theorem m_69 : Cond.instantiable "FoldedFamily$Columns" 6 ∈ gw := gw_mem 69 (by decide +kernel) rfl
theorem m_70 : Cond.methodLink "FoldedFamily" 11 ⟨"java/lang/Math", "min", "(II)I"⟩ ∈ gw := gw_mem 70 (by decide +kernel) rfl
theorem m_71 : Cond.static ⟨"java/lang/Math", "min", "(II)I"⟩ ∈ gw := gw_mem 71 (by decide +kernel) rfl
set_option maxRecDepth 100000 in
theorem m_72 : Cond.code ⟨"java/lang/Math", "min", "(II)I"⟩ prog_12_method_69_code 2 (some .int) ∈ gw := gw_mem 72 rfl rfl
theorem m_73 : Cond.methodLink "FoldedFamily" 17 ⟨"java/lang/Math", "max", "(II)I"⟩ ∈ gw := gw_mem 73 (by decide +kernel) rfl
theorem m_74 : Cond.static ⟨"java/lang/Math", "max", "(II)I"⟩ ∈ gw := gw_mem 74 (by decide +kernel) rfl
set_option maxRecDepth 100000 in
theorem m_75 : Cond.code ⟨"java/lang/Math", "max", "(II)I"⟩ prog_12_method_65_code 2 (some .int) ∈ gw := gw_mem 75 rfl rfl
theorem m_76 : Cond.methodLink "FoldedFamily" 20 ⟨"FoldedFamily$Columns", "<init>", "(I)V"⟩ ∈ gw := gw_mem 76 (by decide +kernel) rfl
theorem m_77 : Cond.instanceMethod ⟨"FoldedFamily$Columns", "<init>", "(I)V"⟩ ∈ gw := gw_mem 77 (by decide +kernel) rfl
set_option maxRecDepth 100000 in
theorem m_78 : Cond.code ⟨"FoldedFamily$Columns", "<init>", "(I)V"⟩ prog_2_method_1_code 2 none ∈ gw := gw_mem 78 rfl rfl
theorem m_79 : Cond.methodLink "FoldedFamily$Columns" 3 ⟨"java/lang/Object", "<init>", "()V"⟩ ∈ gw := gw_mem 79 (by decide +kernel) rfl
theorem m_80 : Cond.fieldLink "FoldedFamily$Columns" 25 "FoldedFamily$Columns" "rows" "I" ∈ gw := gw_mem 80 (by decide +kernel) rfl
theorem m_81 : Cond.fieldLink "FoldedFamily$Columns" 9 "FoldedFamily$Columns" "marks" "[C" ∈ gw := gw_mem 81 (by decide +kernel) rfl
theorem m_82 : Cond.fieldLink "FoldedFamily$Columns" 15 "FoldedFamily$Columns" "rowSets" "[I" ∈ gw := gw_mem 82 (by decide +kernel) rfl
theorem m_83 : Cond.fieldLink "FoldedFamily$Columns" 19 "FoldedFamily$Columns" "partners" "[I" ∈ gw := gw_mem 83 (by decide +kernel) rfl
theorem m_84 : Cond.fieldLink "FoldedFamily$Columns" 22 "FoldedFamily$Columns" "open" "[I" ∈ gw := gw_mem 84 (by decide +kernel) rfl
theorem m_85 : Cond.fieldLink "FoldedFamily$Columns" 29 "FoldedFamily$Columns" "count" "I" ∈ gw := gw_mem 85 (by decide +kernel) rfl
theorem m_101 : Cond.classLink "FoldedFamily" 23 "FoldedFamily$Tree" ∈ gw := gw_mem 101 (by decide +kernel) rfl
theorem m_102 : Cond.instantiable "FoldedFamily$Tree" 6 ∈ gw := gw_mem 102 (by decide +kernel) rfl
theorem m_103 : Cond.methodLink "FoldedFamily" 25 ⟨"FoldedFamily$Tree", "<init>", "(LFoldedFamily$Columns;)V"⟩ ∈ gw := gw_mem 103 (by decide +kernel) rfl
theorem m_104 : Cond.instanceMethod ⟨"FoldedFamily$Tree", "<init>", "(LFoldedFamily$Columns;)V"⟩ ∈ gw := gw_mem 104 (by decide +kernel) rfl
set_option maxRecDepth 100000 in
theorem m_105 : Cond.code ⟨"FoldedFamily$Tree", "<init>", "(LFoldedFamily$Columns;)V"⟩ prog_7_method_1_code 2 none ∈ gw := gw_mem 105 rfl rfl
theorem m_106 : Cond.methodLink "FoldedFamily$Tree" 3 ⟨"java/lang/Object", "<init>", "()V"⟩ ∈ gw := gw_mem 106 (by decide +kernel) rfl
theorem m_107 : Cond.fieldLink "FoldedFamily$Tree" 24 "FoldedFamily$Tree" "columns" "LFoldedFamily$Columns;" ∈ gw := gw_mem 107 (by decide +kernel) rfl
theorem m_108 : Cond.fieldLink "FoldedFamily$Tree" 9 "FoldedFamily$Tree" "kinds" "[I" ∈ gw := gw_mem 108 (by decide +kernel) rfl
theorem m_109 : Cond.fieldLink "FoldedFamily$Tree" 15 "FoldedFamily$Tree" "lefts" "[I" ∈ gw := gw_mem 109 (by decide +kernel) rfl
theorem m_110 : Cond.fieldLink "FoldedFamily$Tree" 18 "FoldedFamily$Tree" "rights" "[I" ∈ gw := gw_mem 110 (by decide +kernel) rfl
theorem m_111 : Cond.fieldLink "FoldedFamily$Tree" 21 "FoldedFamily$Tree" "seconds" "[I" ∈ gw := gw_mem 111 (by decide +kernel) rfl
theorem m_112 : Cond.fieldLink "FoldedFamily$Tree" 28 "FoldedFamily$Tree" "size" "I" ∈ gw := gw_mem 112 (by decide +kernel) rfl
theorem m_126 : Cond.classLink "FoldedFamily" 28 "FoldedFamily$Grammar" ∈ gw := gw_mem 126 (by decide +kernel) rfl
theorem m_127 : Cond.instantiable "FoldedFamily$Grammar" 11 ∈ gw := gw_mem 127 (by decide +kernel) rfl
theorem m_128 : Cond.methodLink "FoldedFamily" 30 ⟨"FoldedFamily$Grammar", "<init>", "(LFoldedFamily$Columns;LFoldedFamily$Tree;)V"⟩ ∈ gw := gw_mem 128 (by decide +kernel) rfl
theorem m_129 : Cond.instanceMethod ⟨"FoldedFamily$Grammar", "<init>", "(LFoldedFamily$Columns;LFoldedFamily$Tree;)V"⟩ ∈ gw := gw_mem 129 (by decide +kernel) rfl
set_option maxRecDepth 100000 in
theorem m_130 : Cond.code ⟨"FoldedFamily$Grammar", "<init>", "(LFoldedFamily$Columns;LFoldedFamily$Tree;)V"⟩ prog_4_method_1_code 3 none ∈ gw := gw_mem 130 rfl rfl
theorem m_131 : Cond.methodLink "FoldedFamily$Grammar" 3 ⟨"java/lang/Object", "<init>", "()V"⟩ ∈ gw := gw_mem 131 (by decide +kernel) rfl
theorem m_132 : Cond.fieldLink "FoldedFamily$Grammar" 36 "FoldedFamily$Grammar" "columns" "LFoldedFamily$Columns;" ∈ gw := gw_mem 132 (by decide +kernel) rfl
theorem m_133 : Cond.fieldLink "FoldedFamily$Grammar" 40 "FoldedFamily$Grammar" "tree" "LFoldedFamily$Tree;" ∈ gw := gw_mem 133 (by decide +kernel) rfl
theorem m_134 : Cond.fieldLink "FoldedFamily$Grammar" 9 "FoldedFamily$Grammar" "kinds" "[I" ∈ gw := gw_mem 134 (by decide +kernel) rfl
theorem m_135 : Cond.fieldLink "FoldedFamily$Grammar" 15 "FoldedFamily$Grammar" "nodes" "[I" ∈ gw := gw_mem 135 (by decide +kernel) rfl
theorem m_136 : Cond.fieldLink "FoldedFamily$Grammar" 18 "FoldedFamily$Grammar" "rowSets" "[I" ∈ gw := gw_mem 136 (by decide +kernel) rfl
theorem m_137 : Cond.fieldLink "FoldedFamily$Grammar" 21 "FoldedFamily$Grammar" "firstStates" "[I" ∈ gw := gw_mem 137 (by decide +kernel) rfl
theorem m_138 : Cond.fieldLink "FoldedFamily$Grammar" 24 "FoldedFamily$Grammar" "targetCounts" "[I" ∈ gw := gw_mem 138 (by decide +kernel) rfl
theorem m_139 : Cond.fieldLink "FoldedFamily$Grammar" 27 "FoldedFamily$Grammar" "targets" "[I" ∈ gw := gw_mem 139 (by decide +kernel) rfl
theorem m_140 : Cond.fieldLink "FoldedFamily$Grammar" 30 "FoldedFamily$Grammar" "stepScores" "[I" ∈ gw := gw_mem 140 (by decide +kernel) rfl
theorem m_141 : Cond.fieldLink "FoldedFamily$Grammar" 33 "FoldedFamily$Grammar" "letterScores" "[I" ∈ gw := gw_mem 141 (by decide +kernel) rfl
theorem m_142 : Cond.fieldLink "FoldedFamily$Grammar" 44 "FoldedFamily$Grammar" "size" "I" ∈ gw := gw_mem 142 (by decide +kernel) rfl
theorem m_166 : Cond.classLink "FoldedFamily" 33 "FoldedFamily$Text" ∈ gw := gw_mem 166 (by decide +kernel) rfl
theorem m_167 : Cond.instantiable "FoldedFamily$Text" 2 ∈ gw := gw_mem 167 (by decide +kernel) rfl
theorem m_169 : Cond.instanceMethod ⟨"FoldedFamily$Text", "<init>", "()V"⟩ ∈ gw := gw_mem 169 (by decide +kernel) rfl
set_option maxRecDepth 100000 in
theorem m_170 : Cond.code ⟨"FoldedFamily$Text", "<init>", "()V"⟩ prog_6_method_1_code 1 none ∈ gw := gw_mem 170 rfl rfl
theorem m_171 : Cond.methodLink "FoldedFamily$Text" 3 ⟨"java/lang/Object", "<init>", "()V"⟩ ∈ gw := gw_mem 171 (by decide +kernel) rfl
theorem m_172 : Cond.fieldLink "FoldedFamily$Text" 9 "FoldedFamily$Text" "letters" "[I" ∈ gw := gw_mem 172 (by decide +kernel) rfl
theorem m_173 : Cond.fieldLink "FoldedFamily$Text" 15 "FoldedFamily$Text" "length" "I" ∈ gw := gw_mem 173 (by decide +kernel) rfl
theorem m_179 : Cond.classLink "FoldedFamily" 52 "FoldedFamily$Values" ∈ gw := gw_mem 179 (by decide +kernel) rfl
theorem m_180 : Cond.instantiable "FoldedFamily$Values" 4 ∈ gw := gw_mem 180 (by decide +kernel) rfl
theorem m_181 : Cond.methodLink "FoldedFamily" 54 ⟨"FoldedFamily$Values", "<init>", "(LFoldedFamily$Grammar;LFoldedFamily$Text;)V"⟩ ∈ gw := gw_mem 181 (by decide +kernel) rfl
theorem m_182 : Cond.instanceMethod ⟨"FoldedFamily$Values", "<init>", "(LFoldedFamily$Grammar;LFoldedFamily$Text;)V"⟩ ∈ gw := gw_mem 182 (by decide +kernel) rfl
set_option maxRecDepth 100000 in
theorem m_183 : Cond.code ⟨"FoldedFamily$Values", "<init>", "(LFoldedFamily$Grammar;LFoldedFamily$Text;)V"⟩ prog_8_method_1_code 3 none ∈ gw := gw_mem 183 rfl rfl
theorem m_184 : Cond.methodLink "FoldedFamily$Values" 3 ⟨"java/lang/Object", "<init>", "()V"⟩ ∈ gw := gw_mem 184 (by decide +kernel) rfl
theorem m_185 : Cond.fieldLink "FoldedFamily$Values" 15 "FoldedFamily$Values" "grammar" "LFoldedFamily$Grammar;" ∈ gw := gw_mem 185 (by decide +kernel) rfl
theorem m_186 : Cond.fieldLink "FoldedFamily$Values" 19 "FoldedFamily$Values" "text" "LFoldedFamily$Text;" ∈ gw := gw_mem 186 (by decide +kernel) rfl
theorem m_187 : Cond.fieldLink "FoldedFamily$Values" 9 "FoldedFamily$Values" "scores" "[I" ∈ gw := gw_mem 187 (by decide +kernel) rfl
theorem m_188 : Cond.fieldLink "FoldedFamily$Values" 23 "FoldedFamily$Values" "knownEnds" "I" ∈ gw := gw_mem 188 (by decide +kernel) rfl
theorem m_198 : Cond.classLink "FoldedFamily" 61 "FoldedFamily$Hits" ∈ gw := gw_mem 198 (by decide +kernel) rfl
theorem m_199 : Cond.instantiable "FoldedFamily$Hits" 5 ∈ gw := gw_mem 199 (by decide +kernel) rfl
theorem m_201 : Cond.instanceMethod ⟨"FoldedFamily$Hits", "<init>", "()V"⟩ ∈ gw := gw_mem 201 (by decide +kernel) rfl
set_option maxRecDepth 100000 in
theorem m_202 : Cond.code ⟨"FoldedFamily$Hits", "<init>", "()V"⟩ prog_5_method_1_code 1 none ∈ gw := gw_mem 202 rfl rfl
theorem m_203 : Cond.methodLink "FoldedFamily$Hits" 3 ⟨"java/lang/Object", "<init>", "()V"⟩ ∈ gw := gw_mem 203 (by decide +kernel) rfl
theorem m_204 : Cond.fieldLink "FoldedFamily$Hits" 9 "FoldedFamily$Hits" "begins" "[I" ∈ gw := gw_mem 204 (by decide +kernel) rfl
theorem m_205 : Cond.fieldLink "FoldedFamily$Hits" 15 "FoldedFamily$Hits" "lengths" "[I" ∈ gw := gw_mem 205 (by decide +kernel) rfl
theorem m_206 : Cond.fieldLink "FoldedFamily$Hits" 18 "FoldedFamily$Hits" "scores" "[I" ∈ gw := gw_mem 206 (by decide +kernel) rfl
theorem m_207 : Cond.fieldLink "FoldedFamily$Hits" 21 "FoldedFamily$Hits" "taken" "[Z" ∈ gw := gw_mem 207 (by decide +kernel) rfl
theorem m_208 : Cond.fieldLink "FoldedFamily$Hits" 25 "FoldedFamily$Hits" "count" "I" ∈ gw := gw_mem 208 (by decide +kernel) rfl
theorem m_221 : Cond.classLink "FoldedFamily" 68 "FoldedFamily$Derivation" ∈ gw := gw_mem 221 (by decide +kernel) rfl
theorem m_222 : Cond.instantiable "FoldedFamily$Derivation" 4 ∈ gw := gw_mem 222 (by decide +kernel) rfl
theorem m_224 : Cond.instanceMethod ⟨"FoldedFamily$Derivation", "<init>", "()V"⟩ ∈ gw := gw_mem 224 (by decide +kernel) rfl
set_option maxRecDepth 100000 in
theorem m_225 : Cond.code ⟨"FoldedFamily$Derivation", "<init>", "()V"⟩ prog_3_method_1_code 1 none ∈ gw := gw_mem 225 rfl rfl
theorem m_226 : Cond.methodLink "FoldedFamily$Derivation" 3 ⟨"java/lang/Object", "<init>", "()V"⟩ ∈ gw := gw_mem 226 (by decide +kernel) rfl
theorem m_227 : Cond.fieldLink "FoldedFamily$Derivation" 9 "FoldedFamily$Derivation" "states" "[I" ∈ gw := gw_mem 227 (by decide +kernel) rfl
theorem m_228 : Cond.fieldLink "FoldedFamily$Derivation" 15 "FoldedFamily$Derivation" "begins" "[I" ∈ gw := gw_mem 228 (by decide +kernel) rfl
theorem m_229 : Cond.fieldLink "FoldedFamily$Derivation" 18 "FoldedFamily$Derivation" "lengths" "[I" ∈ gw := gw_mem 229 (by decide +kernel) rfl
theorem m_230 : Cond.fieldLink "FoldedFamily$Derivation" 21 "FoldedFamily$Derivation" "length" "I" ∈ gw := gw_mem 230 (by decide +kernel) rfl
theorem m_240 : Cond.fieldLink "FoldedFamily" 36 "FoldedFamily" "columns" "LFoldedFamily$Columns;" ∈ gw := gw_mem 240 (by decide +kernel) rfl
theorem m_241 : Cond.fieldLink "FoldedFamily" 40 "FoldedFamily" "tree" "LFoldedFamily$Tree;" ∈ gw := gw_mem 241 (by decide +kernel) rfl
theorem m_242 : Cond.fieldLink "FoldedFamily" 44 "FoldedFamily" "grammar" "LFoldedFamily$Grammar;" ∈ gw := gw_mem 242 (by decide +kernel) rfl
theorem m_243 : Cond.fieldLink "FoldedFamily" 48 "FoldedFamily" "text" "LFoldedFamily$Text;" ∈ gw := gw_mem 243 (by decide +kernel) rfl
theorem m_244 : Cond.fieldLink "FoldedFamily" 57 "FoldedFamily" "values" "LFoldedFamily$Values;" ∈ gw := gw_mem 244 (by decide +kernel) rfl
theorem m_245 : Cond.fieldLink "FoldedFamily" 64 "FoldedFamily" "hits" "LFoldedFamily$Hits;" ∈ gw := gw_mem 245 (by decide +kernel) rfl
theorem m_246 : Cond.fieldLink "FoldedFamily" 71 "FoldedFamily" "derivation" "LFoldedFamily$Derivation;" ∈ gw := gw_mem 246 (by decide +kernel) rfl
theorem m_262 : Cond.methodLink "FoldedFamilyLaw" 21 ⟨"FoldedFamily", "column", "(CI)Z"⟩ ∈ gw := gw_mem 262 (by decide +kernel) rfl
theorem m_263 : Cond.instanceMethod ⟨"FoldedFamily", "column", "(CI)Z"⟩ ∈ gw := gw_mem 263 (by decide +kernel) rfl
theorem m_264 : Cond.selects "FoldedFamily" ⟨"FoldedFamily", "column", "(CI)Z"⟩ ⟨"FoldedFamily", "column", "(CI)Z"⟩ ∈ gw := gw_mem 264 (by decide +kernel) rfl
set_option maxRecDepth 100000 in
theorem m_265 : Cond.code ⟨"FoldedFamily", "column", "(CI)Z"⟩ prog_1_method_2_code 3 (some .boolean) ∈ gw := gw_mem 265 rfl rfl
theorem m_266 : Cond.methodLink "FoldedFamily" 75 ⟨"FoldedFamily", "isMark", "(C)Z"⟩ ∈ gw := gw_mem 266 (by decide +kernel) rfl
theorem m_267 : Cond.static ⟨"FoldedFamily", "isMark", "(C)Z"⟩ ∈ gw := gw_mem 267 (by decide +kernel) rfl
set_option maxRecDepth 100000 in
theorem m_268 : Cond.code ⟨"FoldedFamily", "isMark", "(C)Z"⟩ prog_1_method_17_code 1 (some .boolean) ∈ gw := gw_mem 268 rfl rfl
theorem m_269 : Cond.methodLink "FoldedFamily" 79 ⟨"FoldedFamily$Columns", "isFull", "()Z"⟩ ∈ gw := gw_mem 269 (by decide +kernel) rfl
theorem m_270 : Cond.instanceMethod ⟨"FoldedFamily$Columns", "isFull", "()Z"⟩ ∈ gw := gw_mem 270 (by decide +kernel) rfl
theorem m_271 : Cond.selects "FoldedFamily$Columns" ⟨"FoldedFamily$Columns", "isFull", "()Z"⟩ ⟨"FoldedFamily$Columns", "isFull", "()Z"⟩ ∈ gw := gw_mem 271 (by decide +kernel) rfl
set_option maxRecDepth 100000 in
theorem m_272 : Cond.code ⟨"FoldedFamily$Columns", "isFull", "()Z"⟩ prog_2_method_3_code 1 (some .boolean) ∈ gw := gw_mem 272 rfl rfl
theorem m_273 : Cond.methodLink "FoldedFamily" 83 ⟨"FoldedFamily$Columns", "add", "(CI)V"⟩ ∈ gw := gw_mem 273 (by decide +kernel) rfl
theorem m_274 : Cond.instanceMethod ⟨"FoldedFamily$Columns", "add", "(CI)V"⟩ ∈ gw := gw_mem 274 (by decide +kernel) rfl
theorem m_275 : Cond.selects "FoldedFamily$Columns" ⟨"FoldedFamily$Columns", "add", "(CI)V"⟩ ⟨"FoldedFamily$Columns", "add", "(CI)V"⟩ ∈ gw := gw_mem 275 (by decide +kernel) rfl
set_option maxRecDepth 100000 in
theorem m_276 : Cond.code ⟨"FoldedFamily$Columns", "add", "(CI)V"⟩ prog_2_method_4_code 5 none ∈ gw := gw_mem 276 rfl rfl
theorem m_278 : Cond.static ⟨"FoldedFamily", "isLetter", "(I)Z"⟩ ∈ gw := gw_mem 278 (by decide +kernel) rfl
set_option maxRecDepth 100000 in
theorem m_279 : Cond.code ⟨"FoldedFamily", "isLetter", "(I)Z"⟩ prog_1_method_18_code 1 (some .boolean) ∈ gw := gw_mem 279 rfl rfl
theorem m_280 : Cond.methodLink "FoldedFamily" 87 ⟨"FoldedFamily", "dropGrammar", "()V"⟩ ∈ gw := gw_mem 280 (by decide +kernel) rfl
theorem m_282 : Cond.instanceMethod ⟨"FoldedFamily", "dropGrammar", "()V"⟩ ∈ gw := gw_mem 282 (by decide +kernel) rfl
set_option maxRecDepth 100000 in
theorem m_283 : Cond.code ⟨"FoldedFamily", "dropGrammar", "()V"⟩ prog_1_method_16_code 1 none ∈ gw := gw_mem 283 rfl rfl
theorem m_284 : Cond.methodLink "FoldedFamily" 193 ⟨"FoldedFamily$Grammar", "forget", "()V"⟩ ∈ gw := gw_mem 284 (by decide +kernel) rfl
theorem m_285 : Cond.instanceMethod ⟨"FoldedFamily$Grammar", "forget", "()V"⟩ ∈ gw := gw_mem 285 (by decide +kernel) rfl
theorem m_286 : Cond.selects "FoldedFamily$Grammar" ⟨"FoldedFamily$Grammar", "forget", "()V"⟩ ⟨"FoldedFamily$Grammar", "forget", "()V"⟩ ∈ gw := gw_mem 286 (by decide +kernel) rfl
set_option maxRecDepth 100000 in
theorem m_287 : Cond.code ⟨"FoldedFamily$Grammar", "forget", "()V"⟩ prog_4_method_3_code 1 none ∈ gw := gw_mem 287 rfl rfl
theorem m_288 : Cond.methodLink "FoldedFamily" 106 ⟨"FoldedFamily$Hits", "forget", "()V"⟩ ∈ gw := gw_mem 288 (by decide +kernel) rfl
theorem m_289 : Cond.instanceMethod ⟨"FoldedFamily$Hits", "forget", "()V"⟩ ∈ gw := gw_mem 289 (by decide +kernel) rfl
theorem m_290 : Cond.selects "FoldedFamily$Hits" ⟨"FoldedFamily$Hits", "forget", "()V"⟩ ⟨"FoldedFamily$Hits", "forget", "()V"⟩ ∈ gw := gw_mem 290 (by decide +kernel) rfl
set_option maxRecDepth 100000 in
theorem m_291 : Cond.code ⟨"FoldedFamily$Hits", "forget", "()V"⟩ prog_5_method_3_code 1 none ∈ gw := gw_mem 291 rfl rfl
theorem m_292 : Cond.methodLink "FoldedFamilyLaw" 26 ⟨"FoldedFamily", "clear", "()V"⟩ ∈ gw := gw_mem 292 (by decide +kernel) rfl
theorem m_293 : Cond.instanceMethod ⟨"FoldedFamily", "clear", "()V"⟩ ∈ gw := gw_mem 293 (by decide +kernel) rfl
theorem m_294 : Cond.selects "FoldedFamily" ⟨"FoldedFamily", "clear", "()V"⟩ ⟨"FoldedFamily", "clear", "()V"⟩ ∈ gw := gw_mem 294 (by decide +kernel) rfl
set_option maxRecDepth 100000 in
theorem m_295 : Cond.code ⟨"FoldedFamily", "clear", "()V"⟩ prog_1_method_3_code 1 none ∈ gw := gw_mem 295 rfl rfl
theorem m_296 : Cond.methodLink "FoldedFamily" 90 ⟨"FoldedFamily$Columns", "removeAll", "()V"⟩ ∈ gw := gw_mem 296 (by decide +kernel) rfl
theorem m_297 : Cond.instanceMethod ⟨"FoldedFamily$Columns", "removeAll", "()V"⟩ ∈ gw := gw_mem 297 (by decide +kernel) rfl
theorem m_298 : Cond.selects "FoldedFamily$Columns" ⟨"FoldedFamily$Columns", "removeAll", "()V"⟩ ⟨"FoldedFamily$Columns", "removeAll", "()V"⟩ ∈ gw := gw_mem 298 (by decide +kernel) rfl
set_option maxRecDepth 100000 in
theorem m_299 : Cond.code ⟨"FoldedFamily$Columns", "removeAll", "()V"⟩ prog_2_method_5_code 1 none ∈ gw := gw_mem 299 rfl rfl
theorem m_300 : Cond.methodLink "FoldedFamilyLaw" 30 ⟨"FoldedFamily", "build", "()I"⟩ ∈ gw := gw_mem 300 (by decide +kernel) rfl
theorem m_301 : Cond.instanceMethod ⟨"FoldedFamily", "build", "()I"⟩ ∈ gw := gw_mem 301 (by decide +kernel) rfl
theorem m_302 : Cond.selects "FoldedFamily" ⟨"FoldedFamily", "build", "()I"⟩ ⟨"FoldedFamily", "build", "()I"⟩ ∈ gw := gw_mem 302 (by decide +kernel) rfl
set_option maxRecDepth 100000 in
theorem m_303 : Cond.code ⟨"FoldedFamily", "build", "()I"⟩ prog_1_method_4_code 1 (some .int) ∈ gw := gw_mem 303 rfl rfl
theorem m_304 : Cond.methodLink "FoldedFamily" 93 ⟨"FoldedFamily$Columns", "pairUp", "()Z"⟩ ∈ gw := gw_mem 304 (by decide +kernel) rfl
theorem m_305 : Cond.instanceMethod ⟨"FoldedFamily$Columns", "pairUp", "()Z"⟩ ∈ gw := gw_mem 305 (by decide +kernel) rfl
theorem m_306 : Cond.selects "FoldedFamily$Columns" ⟨"FoldedFamily$Columns", "pairUp", "()Z"⟩ ⟨"FoldedFamily$Columns", "pairUp", "()Z"⟩ ∈ gw := gw_mem 306 (by decide +kernel) rfl
set_option maxRecDepth 100000 in
theorem m_307 : Cond.code ⟨"FoldedFamily$Columns", "pairUp", "()Z"⟩ prog_2_method_6_code 3 (some .boolean) ∈ gw := gw_mem 307 rfl rfl
theorem m_308 : Cond.constant "FoldedFamily" 96 (-1000000) ∈ gw := gw_mem 308 (by decide +kernel) rfl
theorem m_309 : Cond.methodLink "FoldedFamily" 97 ⟨"FoldedFamily$Tree", "grow", "()V"⟩ ∈ gw := gw_mem 309 (by decide +kernel) rfl
theorem m_310 : Cond.instanceMethod ⟨"FoldedFamily$Tree", "grow", "()V"⟩ ∈ gw := gw_mem 310 (by decide +kernel) rfl
theorem m_311 : Cond.selects "FoldedFamily$Tree" ⟨"FoldedFamily$Tree", "grow", "()V"⟩ ⟨"FoldedFamily$Tree", "grow", "()V"⟩ ∈ gw := gw_mem 311 (by decide +kernel) rfl
set_option maxRecDepth 100000 in
theorem m_312 : Cond.code ⟨"FoldedFamily$Tree", "grow", "()V"⟩ prog_7_method_7_code 1 none ∈ gw := gw_mem 312 rfl rfl
theorem m_313 : Cond.methodLink "FoldedFamily$Tree" 32 ⟨"FoldedFamily$Tree", "add", "(III)V"⟩ ∈ gw := gw_mem 313 (by decide +kernel) rfl
theorem m_315 : Cond.instanceMethod ⟨"FoldedFamily$Tree", "add", "(III)V"⟩ ∈ gw := gw_mem 315 (by decide +kernel) rfl
set_option maxRecDepth 100000 in
theorem m_316 : Cond.code ⟨"FoldedFamily$Tree", "add", "(III)V"⟩ prog_7_method_10_code 4 none ∈ gw := gw_mem 316 rfl rfl
theorem m_317 : Cond.methodLink "FoldedFamily$Tree" 36 ⟨"FoldedFamily$Columns", "count", "()I"⟩ ∈ gw := gw_mem 317 (by decide +kernel) rfl
theorem m_318 : Cond.instanceMethod ⟨"FoldedFamily$Columns", "count", "()I"⟩ ∈ gw := gw_mem 318 (by decide +kernel) rfl
theorem m_319 : Cond.selects "FoldedFamily$Columns" ⟨"FoldedFamily$Columns", "count", "()I"⟩ ⟨"FoldedFamily$Columns", "count", "()I"⟩ ∈ gw := gw_mem 319 (by decide +kernel) rfl
set_option maxRecDepth 100000 in
theorem m_320 : Cond.code ⟨"FoldedFamily$Columns", "count", "()I"⟩ prog_2_method_2_code 1 (some .int) ∈ gw := gw_mem 320 rfl rfl
theorem m_321 : Cond.methodLink "FoldedFamily$Tree" 42 ⟨"FoldedFamily$Tree", "growPart", "(III)V"⟩ ∈ gw := gw_mem 321 (by decide +kernel) rfl
theorem m_323 : Cond.instanceMethod ⟨"FoldedFamily$Tree", "growPart", "(III)V"⟩ ∈ gw := gw_mem 323 (by decide +kernel) rfl
set_option maxRecDepth 100000 in
theorem m_324 : Cond.code ⟨"FoldedFamily$Tree", "growPart", "(III)V"⟩ prog_7_method_8_code 4 none ∈ gw := gw_mem 324 rfl rfl
theorem m_325 : Cond.methodLink "FoldedFamily$Tree" 45 ⟨"FoldedFamily$Columns", "isPaired", "(I)Z"⟩ ∈ gw := gw_mem 325 (by decide +kernel) rfl
theorem m_326 : Cond.instanceMethod ⟨"FoldedFamily$Columns", "isPaired", "(I)Z"⟩ ∈ gw := gw_mem 326 (by decide +kernel) rfl
theorem m_327 : Cond.selects "FoldedFamily$Columns" ⟨"FoldedFamily$Columns", "isPaired", "(I)Z"⟩ ⟨"FoldedFamily$Columns", "isPaired", "(I)Z"⟩ ∈ gw := gw_mem 327 (by decide +kernel) rfl
set_option maxRecDepth 100000 in
theorem m_328 : Cond.code ⟨"FoldedFamily$Columns", "isPaired", "(I)Z"⟩ prog_2_method_7_code 2 (some .boolean) ∈ gw := gw_mem 328 rfl rfl
theorem m_329 : Cond.methodLink "FoldedFamily$Tree" 49 ⟨"FoldedFamily$Columns", "partner", "(I)I"⟩ ∈ gw := gw_mem 329 (by decide +kernel) rfl
theorem m_330 : Cond.instanceMethod ⟨"FoldedFamily$Columns", "partner", "(I)I"⟩ ∈ gw := gw_mem 330 (by decide +kernel) rfl
theorem m_331 : Cond.selects "FoldedFamily$Columns" ⟨"FoldedFamily$Columns", "partner", "(I)I"⟩ ⟨"FoldedFamily$Columns", "partner", "(I)I"⟩ ∈ gw := gw_mem 331 (by decide +kernel) rfl
set_option maxRecDepth 100000 in
theorem m_332 : Cond.code ⟨"FoldedFamily$Columns", "partner", "(I)I"⟩ prog_2_method_8_code 2 (some .int) ∈ gw := gw_mem 332 rfl rfl
theorem m_333 : Cond.methodLink "FoldedFamily$Tree" 53 ⟨"FoldedFamily$Tree", "growFork", "(III)V"⟩ ∈ gw := gw_mem 333 (by decide +kernel) rfl
theorem m_335 : Cond.instanceMethod ⟨"FoldedFamily$Tree", "growFork", "(III)V"⟩ ∈ gw := gw_mem 335 (by decide +kernel) rfl
set_option maxRecDepth 100000 in
theorem m_336 : Cond.code ⟨"FoldedFamily$Tree", "growFork", "(III)V"⟩ prog_7_method_9_code 6 none ∈ gw := gw_mem 336 rfl rfl
theorem m_337 : Cond.methodLink "FoldedFamily" 100 ⟨"FoldedFamily$Grammar", "make", "()V"⟩ ∈ gw := gw_mem 337 (by decide +kernel) rfl
theorem m_338 : Cond.instanceMethod ⟨"FoldedFamily$Grammar", "make", "()V"⟩ ∈ gw := gw_mem 338 (by decide +kernel) rfl
theorem m_339 : Cond.selects "FoldedFamily$Grammar" ⟨"FoldedFamily$Grammar", "make", "()V"⟩ ⟨"FoldedFamily$Grammar", "make", "()V"⟩ ∈ gw := gw_mem 339 (by decide +kernel) rfl
set_option maxRecDepth 100000 in
theorem m_340 : Cond.code ⟨"FoldedFamily$Grammar", "make", "()V"⟩ prog_4_method_12_code 2 none ∈ gw := gw_mem 340 rfl rfl
theorem m_341 : Cond.methodLink "FoldedFamily$Grammar" 52 ⟨"FoldedFamily$Grammar", "layStates", "()V"⟩ ∈ gw := gw_mem 341 (by decide +kernel) rfl
theorem m_343 : Cond.instanceMethod ⟨"FoldedFamily$Grammar", "layStates", "()V"⟩ ∈ gw := gw_mem 343 (by decide +kernel) rfl
set_option maxRecDepth 100000 in
theorem m_344 : Cond.code ⟨"FoldedFamily$Grammar", "layStates", "()V"⟩ prog_4_method_13_code 4 none ∈ gw := gw_mem 344 rfl rfl
theorem m_345 : Cond.methodLink "FoldedFamily$Grammar" 65 ⟨"FoldedFamily$Tree", "size", "()I"⟩ ∈ gw := gw_mem 345 (by decide +kernel) rfl
theorem m_346 : Cond.instanceMethod ⟨"FoldedFamily$Tree", "size", "()I"⟩ ∈ gw := gw_mem 346 (by decide +kernel) rfl
theorem m_347 : Cond.selects "FoldedFamily$Tree" ⟨"FoldedFamily$Tree", "size", "()I"⟩ ⟨"FoldedFamily$Tree", "size", "()I"⟩ ∈ gw := gw_mem 347 (by decide +kernel) rfl
set_option maxRecDepth 100000 in
theorem m_348 : Cond.code ⟨"FoldedFamily$Tree", "size", "()I"⟩ prog_7_method_2_code 1 (some .int) ∈ gw := gw_mem 348 rfl rfl
theorem m_349 : Cond.methodLink "FoldedFamily$Grammar" 70 ⟨"FoldedFamily$Tree", "kindOf", "(I)I"⟩ ∈ gw := gw_mem 349 (by decide +kernel) rfl
theorem m_350 : Cond.instanceMethod ⟨"FoldedFamily$Tree", "kindOf", "(I)I"⟩ ∈ gw := gw_mem 350 (by decide +kernel) rfl
theorem m_351 : Cond.selects "FoldedFamily$Tree" ⟨"FoldedFamily$Tree", "kindOf", "(I)I"⟩ ⟨"FoldedFamily$Tree", "kindOf", "(I)I"⟩ ∈ gw := gw_mem 351 (by decide +kernel) rfl
set_option maxRecDepth 100000 in
theorem m_352 : Cond.code ⟨"FoldedFamily$Tree", "kindOf", "(I)I"⟩ prog_7_method_3_code 2 (some .int) ∈ gw := gw_mem 352 rfl rfl
theorem m_354 : Cond.static ⟨"FoldedFamily", "statesOf", "(I)[I"⟩ ∈ gw := gw_mem 354 (by decide +kernel) rfl
set_option maxRecDepth 100000 in
theorem m_355 : Cond.code ⟨"FoldedFamily", "statesOf", "(I)[I"⟩ prog_1_method_23_code 1 (some (.array .int)) ∈ gw := gw_mem 355 rfl rfl
theorem m_356 : Cond.fieldLink "FoldedFamily" 200 "FoldedFamily" "ROOT_STATES" "[I" ∈ gw := gw_mem 356 (by decide +kernel) rfl
theorem m_358 : Cond.fieldLink "FoldedFamily" 204 "FoldedFamily" "LEFT_STATES" "[I" ∈ gw := gw_mem 358 (by decide +kernel) rfl
theorem m_360 : Cond.fieldLink "FoldedFamily" 207 "FoldedFamily" "RIGHT_STATES" "[I" ∈ gw := gw_mem 360 (by decide +kernel) rfl
theorem m_362 : Cond.fieldLink "FoldedFamily" 210 "FoldedFamily" "BOTH_STATES" "[I" ∈ gw := gw_mem 362 (by decide +kernel) rfl
theorem m_364 : Cond.fieldLink "FoldedFamily" 213 "FoldedFamily" "FORK_STATES" "[I" ∈ gw := gw_mem 364 (by decide +kernel) rfl
theorem m_366 : Cond.fieldLink "FoldedFamily" 216 "FoldedFamily" "FIRST_STATES" "[I" ∈ gw := gw_mem 366 (by decide +kernel) rfl
theorem m_368 : Cond.fieldLink "FoldedFamily" 219 "FoldedFamily" "SECOND_STATES" "[I" ∈ gw := gw_mem 368 (by decide +kernel) rfl
theorem m_370 : Cond.fieldLink "FoldedFamily" 222 "FoldedFamily" "END_STATES" "[I" ∈ gw := gw_mem 370 (by decide +kernel) rfl
theorem m_372 : Cond.methodLink "FoldedFamily$Grammar" 78 ⟨"FoldedFamily$Grammar", "rowsIn", "(II)I"⟩ ∈ gw := gw_mem 372 (by decide +kernel) rfl
theorem m_374 : Cond.instanceMethod ⟨"FoldedFamily$Grammar", "rowsIn", "(II)I"⟩ ∈ gw := gw_mem 374 (by decide +kernel) rfl
set_option maxRecDepth 100000 in
theorem m_375 : Cond.code ⟨"FoldedFamily$Grammar", "rowsIn", "(II)I"⟩ prog_4_method_14_code 6 (some .int) ∈ gw := gw_mem 375 rfl rfl
theorem m_376 : Cond.methodLink "FoldedFamily$Grammar" 82 ⟨"FoldedFamily$Columns", "allRows", "()I"⟩ ∈ gw := gw_mem 376 (by decide +kernel) rfl
theorem m_377 : Cond.instanceMethod ⟨"FoldedFamily$Columns", "allRows", "()I"⟩ ∈ gw := gw_mem 377 (by decide +kernel) rfl
theorem m_378 : Cond.selects "FoldedFamily$Columns" ⟨"FoldedFamily$Columns", "allRows", "()I"⟩ ⟨"FoldedFamily$Columns", "allRows", "()I"⟩ ∈ gw := gw_mem 378 (by decide +kernel) rfl
set_option maxRecDepth 100000 in
theorem m_379 : Cond.code ⟨"FoldedFamily$Columns", "allRows", "()I"⟩ prog_2_method_9_code 1 (some .int) ∈ gw := gw_mem 379 rfl rfl
theorem m_380 : Cond.methodLink "FoldedFamily$Grammar" 87 ⟨"FoldedFamily$Tree", "left", "(I)I"⟩ ∈ gw := gw_mem 380 (by decide +kernel) rfl
theorem m_381 : Cond.instanceMethod ⟨"FoldedFamily$Tree", "left", "(I)I"⟩ ∈ gw := gw_mem 381 (by decide +kernel) rfl
theorem m_382 : Cond.selects "FoldedFamily$Tree" ⟨"FoldedFamily$Tree", "left", "(I)I"⟩ ⟨"FoldedFamily$Tree", "left", "(I)I"⟩ ∈ gw := gw_mem 382 (by decide +kernel) rfl
set_option maxRecDepth 100000 in
theorem m_383 : Cond.code ⟨"FoldedFamily$Tree", "left", "(I)I"⟩ prog_7_method_4_code 2 (some .int) ∈ gw := gw_mem 383 rfl rfl
theorem m_384 : Cond.methodLink "FoldedFamily$Grammar" 90 ⟨"FoldedFamily$Columns", "rowsWithAny", "(I)I"⟩ ∈ gw := gw_mem 384 (by decide +kernel) rfl
theorem m_385 : Cond.instanceMethod ⟨"FoldedFamily$Columns", "rowsWithAny", "(I)I"⟩ ∈ gw := gw_mem 385 (by decide +kernel) rfl
theorem m_386 : Cond.selects "FoldedFamily$Columns" ⟨"FoldedFamily$Columns", "rowsWithAny", "(I)I"⟩ ⟨"FoldedFamily$Columns", "rowsWithAny", "(I)I"⟩ ∈ gw := gw_mem 386 (by decide +kernel) rfl
set_option maxRecDepth 100000 in
theorem m_387 : Cond.code ⟨"FoldedFamily$Columns", "rowsWithAny", "(I)I"⟩ prog_2_method_11_code 4 (some .int) ∈ gw := gw_mem 387 rfl rfl
theorem m_388 : Cond.methodLink "FoldedFamily$Columns" 36 ⟨"FoldedFamily$Columns", "rowsWith", "(II)I"⟩ ∈ gw := gw_mem 388 (by decide +kernel) rfl
theorem m_389 : Cond.instanceMethod ⟨"FoldedFamily$Columns", "rowsWith", "(II)I"⟩ ∈ gw := gw_mem 389 (by decide +kernel) rfl
theorem m_390 : Cond.selects "FoldedFamily$Columns" ⟨"FoldedFamily$Columns", "rowsWith", "(II)I"⟩ ⟨"FoldedFamily$Columns", "rowsWith", "(II)I"⟩ ∈ gw := gw_mem 390 (by decide +kernel) rfl
set_option maxRecDepth 100000 in
theorem m_391 : Cond.code ⟨"FoldedFamily$Columns", "rowsWith", "(II)I"⟩ prog_2_method_10_code 3 (some .int) ∈ gw := gw_mem 391 rfl rfl
theorem m_392 : Cond.methodLink "FoldedFamily$Grammar" 93 ⟨"FoldedFamily$Tree", "right", "(I)I"⟩ ∈ gw := gw_mem 392 (by decide +kernel) rfl
theorem m_393 : Cond.instanceMethod ⟨"FoldedFamily$Tree", "right", "(I)I"⟩ ∈ gw := gw_mem 393 (by decide +kernel) rfl
theorem m_394 : Cond.selects "FoldedFamily$Tree" ⟨"FoldedFamily$Tree", "right", "(I)I"⟩ ⟨"FoldedFamily$Tree", "right", "(I)I"⟩ ∈ gw := gw_mem 394 (by decide +kernel) rfl
set_option maxRecDepth 100000 in
theorem m_395 : Cond.code ⟨"FoldedFamily$Tree", "right", "(I)I"⟩ prog_7_method_5_code 2 (some .int) ∈ gw := gw_mem 395 rfl rfl
theorem m_396 : Cond.methodLink "FoldedFamily$Grammar" 55 ⟨"FoldedFamily$Grammar", "addTargets", "(I)V"⟩ ∈ gw := gw_mem 396 (by decide +kernel) rfl
theorem m_398 : Cond.instanceMethod ⟨"FoldedFamily$Grammar", "addTargets", "(I)V"⟩ ∈ gw := gw_mem 398 (by decide +kernel) rfl
set_option maxRecDepth 100000 in
theorem m_399 : Cond.code ⟨"FoldedFamily$Grammar", "addTargets", "(I)V"⟩ prog_4_method_15_code 3 none ∈ gw := gw_mem 399 rfl rfl
theorem m_400 : Cond.methodLink "FoldedFamily$Grammar" 96 ⟨"FoldedFamily$Grammar", "addTarget", "(II)V"⟩ ∈ gw := gw_mem 400 (by decide +kernel) rfl
theorem m_402 : Cond.instanceMethod ⟨"FoldedFamily$Grammar", "addTarget", "(II)V"⟩ ∈ gw := gw_mem 402 (by decide +kernel) rfl
set_option maxRecDepth 100000 in
theorem m_403 : Cond.code ⟨"FoldedFamily$Grammar", "addTarget", "(II)V"⟩ prog_4_method_17_code 3 none ∈ gw := gw_mem 403 rfl rfl
theorem m_404 : Cond.methodLink "FoldedFamily$Grammar" 100 ⟨"FoldedFamily$Tree", "second", "(I)I"⟩ ∈ gw := gw_mem 404 (by decide +kernel) rfl
theorem m_405 : Cond.instanceMethod ⟨"FoldedFamily$Tree", "second", "(I)I"⟩ ∈ gw := gw_mem 405 (by decide +kernel) rfl
theorem m_406 : Cond.selects "FoldedFamily$Tree" ⟨"FoldedFamily$Tree", "second", "(I)I"⟩ ⟨"FoldedFamily$Tree", "second", "(I)I"⟩ ∈ gw := gw_mem 406 (by decide +kernel) rfl
set_option maxRecDepth 100000 in
theorem m_407 : Cond.code ⟨"FoldedFamily$Tree", "second", "(I)I"⟩ prog_7_method_6_code 2 (some .int) ∈ gw := gw_mem 407 rfl rfl
theorem m_408 : Cond.methodLink "FoldedFamily$Grammar" 103 ⟨"FoldedFamily$Grammar", "addStates", "(IIZ)V"⟩ ∈ gw := gw_mem 408 (by decide +kernel) rfl
theorem m_410 : Cond.instanceMethod ⟨"FoldedFamily$Grammar", "addStates", "(IIZ)V"⟩ ∈ gw := gw_mem 410 (by decide +kernel) rfl
set_option maxRecDepth 100000 in
theorem m_411 : Cond.code ⟨"FoldedFamily$Grammar", "addStates", "(IIZ)V"⟩ prog_4_method_16_code 5 none ∈ gw := gw_mem 411 rfl rfl
theorem m_413 : Cond.static ⟨"FoldedFamily", "isInsert", "(I)Z"⟩ ∈ gw := gw_mem 413 (by decide +kernel) rfl
set_option maxRecDepth 100000 in
theorem m_414 : Cond.code ⟨"FoldedFamily", "isInsert", "(I)Z"⟩ prog_1_method_19_code 1 (some .boolean) ∈ gw := gw_mem 414 rfl rfl
theorem m_415 : Cond.methodLink "FoldedFamily$Grammar" 59 ⟨"FoldedFamily$Grammar", "scoreSteps", "(I)V"⟩ ∈ gw := gw_mem 415 (by decide +kernel) rfl
theorem m_417 : Cond.instanceMethod ⟨"FoldedFamily$Grammar", "scoreSteps", "(I)V"⟩ ∈ gw := gw_mem 417 (by decide +kernel) rfl
set_option maxRecDepth 100000 in
theorem m_418 : Cond.code ⟨"FoldedFamily$Grammar", "scoreSteps", "(I)V"⟩ prog_4_method_18_code 5 none ∈ gw := gw_mem 418 rfl rfl
theorem m_419 : Cond.methodLink "FoldedFamily$Grammar" 110 ⟨"java/lang/Integer", "bitCount", "(I)I"⟩ ∈ gw := gw_mem 419 (by decide +kernel) rfl
theorem m_420 : Cond.static ⟨"java/lang/Integer", "bitCount", "(I)I"⟩ ∈ gw := gw_mem 420 (by decide +kernel) rfl
set_option maxRecDepth 100000 in
theorem m_421 : Cond.code ⟨"java/lang/Integer", "bitCount", "(I)I"⟩ prog_11_method_49_code 1 (some .int) ∈ gw := gw_mem 421 rfl rfl
theorem m_422 : Cond.constant "java/lang/Integer" 265 (1431655765) ∈ gw := gw_mem 422 (by decide +kernel) rfl
theorem m_423 : Cond.constant "java/lang/Integer" 266 (858993459) ∈ gw := gw_mem 423 (by decide +kernel) rfl
theorem m_424 : Cond.constant "java/lang/Integer" 267 (252645135) ∈ gw := gw_mem 424 (by decide +kernel) rfl
theorem m_425 : Cond.methodLink "FoldedFamily$Grammar" 115 ⟨"FoldedFamily$Grammar", "targetOf", "(II)I"⟩ ∈ gw := gw_mem 425 (by decide +kernel) rfl
theorem m_426 : Cond.instanceMethod ⟨"FoldedFamily$Grammar", "targetOf", "(II)I"⟩ ∈ gw := gw_mem 426 (by decide +kernel) rfl
theorem m_427 : Cond.selects "FoldedFamily$Grammar" ⟨"FoldedFamily$Grammar", "targetOf", "(II)I"⟩ ⟨"FoldedFamily$Grammar", "targetOf", "(II)I"⟩ ∈ gw := gw_mem 427 (by decide +kernel) rfl
set_option maxRecDepth 100000 in
theorem m_428 : Cond.code ⟨"FoldedFamily$Grammar", "targetOf", "(II)I"⟩ prog_4_method_9_code 3 (some .int) ∈ gw := gw_mem 428 rfl rfl
theorem m_430 : Cond.static ⟨"FoldedFamily", "log", "(II)I"⟩ ∈ gw := gw_mem 430 (by decide +kernel) rfl
set_option maxRecDepth 100000 in
theorem m_431 : Cond.code ⟨"FoldedFamily", "log", "(II)I"⟩ prog_1_method_24_code 7 (some .int) ∈ gw := gw_mem 431 rfl rfl
theorem m_432 : Cond.methodLink "FoldedFamily" 225 ⟨"FoldedFamily", "eighthPower", "(I)J"⟩ ∈ gw := gw_mem 432 (by decide +kernel) rfl
theorem m_433 : Cond.static ⟨"FoldedFamily", "eighthPower", "(I)J"⟩ ∈ gw := gw_mem 433 (by decide +kernel) rfl
set_option maxRecDepth 100000 in
theorem m_434 : Cond.code ⟨"FoldedFamily", "eighthPower", "(I)J"⟩ prog_1_method_25_code 5 (some .long) ∈ gw := gw_mem 434 rfl rfl
theorem m_435 : Cond.constantLong "FoldedFamily" 229 (2) ∈ gw := gw_mem 435 (by decide +kernel) rfl
theorem m_436 : Cond.methodLink "FoldedFamily$Grammar" 62 ⟨"FoldedFamily$Grammar", "scoreLetters", "(I)V"⟩ ∈ gw := gw_mem 436 (by decide +kernel) rfl
theorem m_438 : Cond.instanceMethod ⟨"FoldedFamily$Grammar", "scoreLetters", "(I)V"⟩ ∈ gw := gw_mem 438 (by decide +kernel) rfl
set_option maxRecDepth 100000 in
theorem m_439 : Cond.code ⟨"FoldedFamily$Grammar", "scoreLetters", "(I)V"⟩ prog_4_method_19_code 5 none ∈ gw := gw_mem 439 rfl rfl
theorem m_441 : Cond.static ⟨"FoldedFamily", "lettersOf", "(I)I"⟩ ∈ gw := gw_mem 441 (by decide +kernel) rfl
set_option maxRecDepth 100000 in
theorem m_442 : Cond.code ⟨"FoldedFamily", "lettersOf", "(I)I"⟩ prog_1_method_22_code 1 (some .int) ∈ gw := gw_mem 442 rfl rfl
theorem m_443 : Cond.methodLink "FoldedFamily" 194 ⟨"FoldedFamily", "lettersBefore", "(I)I"⟩ ∈ gw := gw_mem 443 (by decide +kernel) rfl
theorem m_444 : Cond.static ⟨"FoldedFamily", "lettersBefore", "(I)I"⟩ ∈ gw := gw_mem 444 (by decide +kernel) rfl
set_option maxRecDepth 100000 in
theorem m_445 : Cond.code ⟨"FoldedFamily", "lettersBefore", "(I)I"⟩ prog_1_method_20_code 1 (some .int) ∈ gw := gw_mem 445 rfl rfl
theorem m_446 : Cond.methodLink "FoldedFamily" 197 ⟨"FoldedFamily", "lettersBehind", "(I)I"⟩ ∈ gw := gw_mem 446 (by decide +kernel) rfl
theorem m_447 : Cond.static ⟨"FoldedFamily", "lettersBehind", "(I)I"⟩ ∈ gw := gw_mem 447 (by decide +kernel) rfl
set_option maxRecDepth 100000 in
theorem m_448 : Cond.code ⟨"FoldedFamily", "lettersBehind", "(I)I"⟩ prog_1_method_21_code 1 (some .int) ∈ gw := gw_mem 448 rfl rfl
theorem m_449 : Cond.methodLink "FoldedFamily$Grammar" 124 ⟨"FoldedFamily$Grammar", "scoreOfLetters", "(III)I"⟩ ∈ gw := gw_mem 449 (by decide +kernel) rfl
theorem m_451 : Cond.instanceMethod ⟨"FoldedFamily$Grammar", "scoreOfLetters", "(III)I"⟩ ∈ gw := gw_mem 451 (by decide +kernel) rfl
set_option maxRecDepth 100000 in
theorem m_452 : Cond.code ⟨"FoldedFamily$Grammar", "scoreOfLetters", "(III)I"⟩ prog_4_method_20_code 6 (some .int) ∈ gw := gw_mem 452 rfl rfl
theorem m_453 : Cond.methodLink "FoldedFamily$Grammar" 128 ⟨"FoldedFamily$Grammar", "rowsWithLetters", "(III)I"⟩ ∈ gw := gw_mem 453 (by decide +kernel) rfl
theorem m_455 : Cond.instanceMethod ⟨"FoldedFamily$Grammar", "rowsWithLetters", "(III)I"⟩ ∈ gw := gw_mem 455 (by decide +kernel) rfl
set_option maxRecDepth 100000 in
theorem m_456 : Cond.code ⟨"FoldedFamily$Grammar", "rowsWithLetters", "(III)I"⟩ prog_4_method_21_code 6 (some .int) ∈ gw := gw_mem 456 rfl rfl
theorem m_457 : Cond.methodLink "FoldedFamily$Grammar" 131 ⟨"FoldedFamily$Columns", "rowsWith", "(II)I"⟩ ∈ gw := gw_mem 457 (by decide +kernel) rfl
theorem m_458 : Cond.methodLink "FoldedFamily" 103 ⟨"FoldedFamily$Values", "forget", "()V"⟩ ∈ gw := gw_mem 458 (by decide +kernel) rfl
theorem m_459 : Cond.instanceMethod ⟨"FoldedFamily$Values", "forget", "()V"⟩ ∈ gw := gw_mem 459 (by decide +kernel) rfl
theorem m_460 : Cond.selects "FoldedFamily$Values" ⟨"FoldedFamily$Values", "forget", "()V"⟩ ⟨"FoldedFamily$Values", "forget", "()V"⟩ ∈ gw := gw_mem 460 (by decide +kernel) rfl
set_option maxRecDepth 100000 in
theorem m_461 : Cond.code ⟨"FoldedFamily$Values", "forget", "()V"⟩ prog_8_method_3_code 1 none ∈ gw := gw_mem 461 rfl rfl
theorem m_462 : Cond.methodLink "FoldedFamily" 107 ⟨"FoldedFamily$Grammar", "size", "()I"⟩ ∈ gw := gw_mem 462 (by decide +kernel) rfl
theorem m_463 : Cond.instanceMethod ⟨"FoldedFamily$Grammar", "size", "()I"⟩ ∈ gw := gw_mem 463 (by decide +kernel) rfl
theorem m_464 : Cond.selects "FoldedFamily$Grammar" ⟨"FoldedFamily$Grammar", "size", "()I"⟩ ⟨"FoldedFamily$Grammar", "size", "()I"⟩ ∈ gw := gw_mem 464 (by decide +kernel) rfl
set_option maxRecDepth 100000 in
theorem m_465 : Cond.code ⟨"FoldedFamily$Grammar", "size", "()I"⟩ prog_4_method_2_code 1 (some .int) ∈ gw := gw_mem 465 rfl rfl
theorem m_466 : Cond.methodLink "FoldedFamilyLaw" 35 ⟨"FoldedFamily", "kind", "(I)I"⟩ ∈ gw := gw_mem 466 (by decide +kernel) rfl
theorem m_467 : Cond.instanceMethod ⟨"FoldedFamily", "kind", "(I)I"⟩ ∈ gw := gw_mem 467 (by decide +kernel) rfl
theorem m_468 : Cond.selects "FoldedFamily" ⟨"FoldedFamily", "kind", "(I)I"⟩ ⟨"FoldedFamily", "kind", "(I)I"⟩ ∈ gw := gw_mem 468 (by decide +kernel) rfl
set_option maxRecDepth 100000 in
theorem m_469 : Cond.code ⟨"FoldedFamily", "kind", "(I)I"⟩ prog_1_method_5_code 2 (some .int) ∈ gw := gw_mem 469 rfl rfl
theorem m_470 : Cond.methodLink "FoldedFamily" 111 ⟨"FoldedFamily$Grammar", "hasState", "(I)Z"⟩ ∈ gw := gw_mem 470 (by decide +kernel) rfl
theorem m_471 : Cond.instanceMethod ⟨"FoldedFamily$Grammar", "hasState", "(I)Z"⟩ ∈ gw := gw_mem 471 (by decide +kernel) rfl
theorem m_472 : Cond.selects "FoldedFamily$Grammar" ⟨"FoldedFamily$Grammar", "hasState", "(I)Z"⟩ ⟨"FoldedFamily$Grammar", "hasState", "(I)Z"⟩ ∈ gw := gw_mem 472 (by decide +kernel) rfl
set_option maxRecDepth 100000 in
theorem m_473 : Cond.code ⟨"FoldedFamily$Grammar", "hasState", "(I)Z"⟩ prog_4_method_4_code 2 (some .boolean) ∈ gw := gw_mem 473 rfl rfl
theorem m_474 : Cond.methodLink "FoldedFamily" 115 ⟨"FoldedFamily$Grammar", "kindOf", "(I)I"⟩ ∈ gw := gw_mem 474 (by decide +kernel) rfl
theorem m_475 : Cond.instanceMethod ⟨"FoldedFamily$Grammar", "kindOf", "(I)I"⟩ ∈ gw := gw_mem 475 (by decide +kernel) rfl
theorem m_476 : Cond.selects "FoldedFamily$Grammar" ⟨"FoldedFamily$Grammar", "kindOf", "(I)I"⟩ ⟨"FoldedFamily$Grammar", "kindOf", "(I)I"⟩ ∈ gw := gw_mem 476 (by decide +kernel) rfl
set_option maxRecDepth 100000 in
theorem m_477 : Cond.code ⟨"FoldedFamily$Grammar", "kindOf", "(I)I"⟩ prog_4_method_5_code 2 (some .int) ∈ gw := gw_mem 477 rfl rfl
theorem m_478 : Cond.methodLink "FoldedFamilyLaw" 40 ⟨"FoldedFamily", "node", "(I)I"⟩ ∈ gw := gw_mem 478 (by decide +kernel) rfl
theorem m_479 : Cond.instanceMethod ⟨"FoldedFamily", "node", "(I)I"⟩ ∈ gw := gw_mem 479 (by decide +kernel) rfl
theorem m_480 : Cond.selects "FoldedFamily" ⟨"FoldedFamily", "node", "(I)I"⟩ ⟨"FoldedFamily", "node", "(I)I"⟩ ∈ gw := gw_mem 480 (by decide +kernel) rfl
set_option maxRecDepth 100000 in
theorem m_481 : Cond.code ⟨"FoldedFamily", "node", "(I)I"⟩ prog_1_method_6_code 2 (some .int) ∈ gw := gw_mem 481 rfl rfl
theorem m_482 : Cond.methodLink "FoldedFamily" 119 ⟨"FoldedFamily$Grammar", "nodeOf", "(I)I"⟩ ∈ gw := gw_mem 482 (by decide +kernel) rfl
theorem m_483 : Cond.instanceMethod ⟨"FoldedFamily$Grammar", "nodeOf", "(I)I"⟩ ∈ gw := gw_mem 483 (by decide +kernel) rfl
theorem m_484 : Cond.selects "FoldedFamily$Grammar" ⟨"FoldedFamily$Grammar", "nodeOf", "(I)I"⟩ ⟨"FoldedFamily$Grammar", "nodeOf", "(I)I"⟩ ∈ gw := gw_mem 484 (by decide +kernel) rfl
set_option maxRecDepth 100000 in
theorem m_485 : Cond.code ⟨"FoldedFamily$Grammar", "nodeOf", "(I)I"⟩ prog_4_method_6_code 2 (some .int) ∈ gw := gw_mem 485 rfl rfl
theorem m_486 : Cond.methodLink "FoldedFamilyLaw" 44 ⟨"FoldedFamily", "target", "(II)I"⟩ ∈ gw := gw_mem 486 (by decide +kernel) rfl
theorem m_487 : Cond.instanceMethod ⟨"FoldedFamily", "target", "(II)I"⟩ ∈ gw := gw_mem 487 (by decide +kernel) rfl
theorem m_488 : Cond.selects "FoldedFamily" ⟨"FoldedFamily", "target", "(II)I"⟩ ⟨"FoldedFamily", "target", "(II)I"⟩ ∈ gw := gw_mem 488 (by decide +kernel) rfl
set_option maxRecDepth 100000 in
theorem m_489 : Cond.code ⟨"FoldedFamily", "target", "(II)I"⟩ prog_1_method_7_code 3 (some .int) ∈ gw := gw_mem 489 rfl rfl
theorem m_490 : Cond.methodLink "FoldedFamily" 122 ⟨"FoldedFamily$Grammar", "hasTarget", "(II)Z"⟩ ∈ gw := gw_mem 490 (by decide +kernel) rfl
theorem m_491 : Cond.instanceMethod ⟨"FoldedFamily$Grammar", "hasTarget", "(II)Z"⟩ ∈ gw := gw_mem 491 (by decide +kernel) rfl
theorem m_492 : Cond.selects "FoldedFamily$Grammar" ⟨"FoldedFamily$Grammar", "hasTarget", "(II)Z"⟩ ⟨"FoldedFamily$Grammar", "hasTarget", "(II)Z"⟩ ∈ gw := gw_mem 492 (by decide +kernel) rfl
set_option maxRecDepth 100000 in
theorem m_493 : Cond.code ⟨"FoldedFamily$Grammar", "hasTarget", "(II)Z"⟩ prog_4_method_7_code 3 (some .boolean) ∈ gw := gw_mem 493 rfl rfl
theorem m_494 : Cond.methodLink "FoldedFamily$Grammar" 48 ⟨"FoldedFamily$Grammar", "hasState", "(I)Z"⟩ ∈ gw := gw_mem 494 (by decide +kernel) rfl
theorem m_495 : Cond.methodLink "FoldedFamily" 126 ⟨"FoldedFamily$Grammar", "targetOf", "(II)I"⟩ ∈ gw := gw_mem 495 (by decide +kernel) rfl
theorem m_496 : Cond.methodLink "FoldedFamilyLaw" 49 ⟨"FoldedFamily", "step", "(II)I"⟩ ∈ gw := gw_mem 496 (by decide +kernel) rfl
theorem m_497 : Cond.instanceMethod ⟨"FoldedFamily", "step", "(II)I"⟩ ∈ gw := gw_mem 497 (by decide +kernel) rfl
theorem m_498 : Cond.selects "FoldedFamily" ⟨"FoldedFamily", "step", "(II)I"⟩ ⟨"FoldedFamily", "step", "(II)I"⟩ ∈ gw := gw_mem 498 (by decide +kernel) rfl
set_option maxRecDepth 100000 in
theorem m_499 : Cond.code ⟨"FoldedFamily", "step", "(II)I"⟩ prog_1_method_8_code 3 (some .int) ∈ gw := gw_mem 499 rfl rfl
theorem m_500 : Cond.methodLink "FoldedFamily" 129 ⟨"FoldedFamily$Grammar", "stepScore", "(II)I"⟩ ∈ gw := gw_mem 500 (by decide +kernel) rfl
theorem m_501 : Cond.instanceMethod ⟨"FoldedFamily$Grammar", "stepScore", "(II)I"⟩ ∈ gw := gw_mem 501 (by decide +kernel) rfl
theorem m_502 : Cond.selects "FoldedFamily$Grammar" ⟨"FoldedFamily$Grammar", "stepScore", "(II)I"⟩ ⟨"FoldedFamily$Grammar", "stepScore", "(II)I"⟩ ∈ gw := gw_mem 502 (by decide +kernel) rfl
set_option maxRecDepth 100000 in
theorem m_503 : Cond.code ⟨"FoldedFamily$Grammar", "stepScore", "(II)I"⟩ prog_4_method_10_code 3 (some .int) ∈ gw := gw_mem 503 rfl rfl
theorem m_504 : Cond.methodLink "FoldedFamilyLaw" 53 ⟨"FoldedFamily", "emits", "(III)I"⟩ ∈ gw := gw_mem 504 (by decide +kernel) rfl
theorem m_505 : Cond.instanceMethod ⟨"FoldedFamily", "emits", "(III)I"⟩ ∈ gw := gw_mem 505 (by decide +kernel) rfl
theorem m_506 : Cond.selects "FoldedFamily" ⟨"FoldedFamily", "emits", "(III)I"⟩ ⟨"FoldedFamily", "emits", "(III)I"⟩ ∈ gw := gw_mem 506 (by decide +kernel) rfl
set_option maxRecDepth 100000 in
theorem m_507 : Cond.code ⟨"FoldedFamily", "emits", "(III)I"⟩ prog_1_method_9_code 5 (some .int) ∈ gw := gw_mem 507 rfl rfl
theorem m_508 : Cond.methodLink "FoldedFamily" 132 ⟨"FoldedFamily", "isLetter", "(I)Z"⟩ ∈ gw := gw_mem 508 (by decide +kernel) rfl
theorem m_509 : Cond.methodLink "FoldedFamily" 135 ⟨"FoldedFamily$Grammar", "letterScore", "(III)I"⟩ ∈ gw := gw_mem 509 (by decide +kernel) rfl
theorem m_510 : Cond.instanceMethod ⟨"FoldedFamily$Grammar", "letterScore", "(III)I"⟩ ∈ gw := gw_mem 510 (by decide +kernel) rfl
theorem m_511 : Cond.selects "FoldedFamily$Grammar" ⟨"FoldedFamily$Grammar", "letterScore", "(III)I"⟩ ⟨"FoldedFamily$Grammar", "letterScore", "(III)I"⟩ ∈ gw := gw_mem 511 (by decide +kernel) rfl
set_option maxRecDepth 100000 in
theorem m_512 : Cond.code ⟨"FoldedFamily$Grammar", "letterScore", "(III)I"⟩ prog_4_method_11_code 4 (some .int) ∈ gw := gw_mem 512 rfl rfl
theorem m_513 : Cond.methodLink "FoldedFamily" 139 ⟨"FoldedFamily", "lettersOf", "(I)I"⟩ ∈ gw := gw_mem 513 (by decide +kernel) rfl
theorem m_514 : Cond.methodLink "FoldedFamilyLaw" 58 ⟨"FoldedFamily", "feed", "(II)I"⟩ ∈ gw := gw_mem 514 (by decide +kernel) rfl
theorem m_515 : Cond.instanceMethod ⟨"FoldedFamily", "feed", "(II)I"⟩ ∈ gw := gw_mem 515 (by decide +kernel) rfl
theorem m_516 : Cond.selects "FoldedFamily" ⟨"FoldedFamily", "feed", "(II)I"⟩ ⟨"FoldedFamily", "feed", "(II)I"⟩ ∈ gw := gw_mem 516 (by decide +kernel) rfl
set_option maxRecDepth 100000 in
theorem m_517 : Cond.code ⟨"FoldedFamily", "feed", "(II)I"⟩ prog_1_method_10_code 3 (some .int) ∈ gw := gw_mem 517 rfl rfl
theorem m_518 : Cond.methodLink "FoldedFamily" 142 ⟨"FoldedFamily$Text", "room", "()I"⟩ ∈ gw := gw_mem 518 (by decide +kernel) rfl
theorem m_519 : Cond.instanceMethod ⟨"FoldedFamily$Text", "room", "()I"⟩ ∈ gw := gw_mem 519 (by decide +kernel) rfl
theorem m_520 : Cond.selects "FoldedFamily$Text" ⟨"FoldedFamily$Text", "room", "()I"⟩ ⟨"FoldedFamily$Text", "room", "()I"⟩ ∈ gw := gw_mem 520 (by decide +kernel) rfl
set_option maxRecDepth 100000 in
theorem m_521 : Cond.code ⟨"FoldedFamily$Text", "room", "()I"⟩ prog_6_method_3_code 1 (some .int) ∈ gw := gw_mem 521 rfl rfl
theorem m_522 : Cond.methodLink "FoldedFamily" 145 ⟨"FoldedFamily$Text", "append", "(II)V"⟩ ∈ gw := gw_mem 522 (by decide +kernel) rfl
theorem m_523 : Cond.instanceMethod ⟨"FoldedFamily$Text", "append", "(II)V"⟩ ∈ gw := gw_mem 523 (by decide +kernel) rfl
theorem m_524 : Cond.selects "FoldedFamily$Text" ⟨"FoldedFamily$Text", "append", "(II)V"⟩ ⟨"FoldedFamily$Text", "append", "(II)V"⟩ ∈ gw := gw_mem 524 (by decide +kernel) rfl
set_option maxRecDepth 100000 in
theorem m_525 : Cond.code ⟨"FoldedFamily$Text", "append", "(II)V"⟩ prog_6_method_6_code 4 none ∈ gw := gw_mem 525 rfl rfl
theorem m_526 : Cond.methodLink "FoldedFamily" 149 ⟨"FoldedFamily$Text", "length", "()I"⟩ ∈ gw := gw_mem 526 (by decide +kernel) rfl
theorem m_527 : Cond.instanceMethod ⟨"FoldedFamily$Text", "length", "()I"⟩ ∈ gw := gw_mem 527 (by decide +kernel) rfl
theorem m_528 : Cond.selects "FoldedFamily$Text" ⟨"FoldedFamily$Text", "length", "()I"⟩ ⟨"FoldedFamily$Text", "length", "()I"⟩ ∈ gw := gw_mem 528 (by decide +kernel) rfl
set_option maxRecDepth 100000 in
theorem m_529 : Cond.code ⟨"FoldedFamily$Text", "length", "()I"⟩ prog_6_method_2_code 1 (some .int) ∈ gw := gw_mem 529 rfl rfl
theorem m_530 : Cond.methodLink "FoldedFamilyLaw" 62 ⟨"FoldedFamily", "erase", "()V"⟩ ∈ gw := gw_mem 530 (by decide +kernel) rfl
theorem m_531 : Cond.instanceMethod ⟨"FoldedFamily", "erase", "()V"⟩ ∈ gw := gw_mem 531 (by decide +kernel) rfl
theorem m_532 : Cond.selects "FoldedFamily" ⟨"FoldedFamily", "erase", "()V"⟩ ⟨"FoldedFamily", "erase", "()V"⟩ ∈ gw := gw_mem 532 (by decide +kernel) rfl
set_option maxRecDepth 100000 in
theorem m_533 : Cond.code ⟨"FoldedFamily", "erase", "()V"⟩ prog_1_method_11_code 1 none ∈ gw := gw_mem 533 rfl rfl
theorem m_534 : Cond.methodLink "FoldedFamily" 152 ⟨"FoldedFamily$Text", "empty", "()V"⟩ ∈ gw := gw_mem 534 (by decide +kernel) rfl
theorem m_535 : Cond.instanceMethod ⟨"FoldedFamily$Text", "empty", "()V"⟩ ∈ gw := gw_mem 535 (by decide +kernel) rfl
theorem m_536 : Cond.selects "FoldedFamily$Text" ⟨"FoldedFamily$Text", "empty", "()V"⟩ ⟨"FoldedFamily$Text", "empty", "()V"⟩ ∈ gw := gw_mem 536 (by decide +kernel) rfl
set_option maxRecDepth 100000 in
theorem m_537 : Cond.code ⟨"FoldedFamily$Text", "empty", "()V"⟩ prog_6_method_7_code 1 none ∈ gw := gw_mem 537 rfl rfl
theorem m_538 : Cond.methodLink "FoldedFamilyLaw" 66 ⟨"FoldedFamily", "value", "(III)I"⟩ ∈ gw := gw_mem 538 (by decide +kernel) rfl
theorem m_539 : Cond.instanceMethod ⟨"FoldedFamily", "value", "(III)I"⟩ ∈ gw := gw_mem 539 (by decide +kernel) rfl
theorem m_540 : Cond.selects "FoldedFamily" ⟨"FoldedFamily", "value", "(III)I"⟩ ⟨"FoldedFamily", "value", "(III)I"⟩ ∈ gw := gw_mem 540 (by decide +kernel) rfl
set_option maxRecDepth 100000 in
theorem m_541 : Cond.code ⟨"FoldedFamily", "value", "(III)I"⟩ prog_1_method_12_code 4 (some .int) ∈ gw := gw_mem 541 rfl rfl
theorem m_542 : Cond.methodLink "FoldedFamily" 155 ⟨"FoldedFamily$Text", "hasPart", "(II)Z"⟩ ∈ gw := gw_mem 542 (by decide +kernel) rfl
theorem m_543 : Cond.instanceMethod ⟨"FoldedFamily$Text", "hasPart", "(II)Z"⟩ ∈ gw := gw_mem 543 (by decide +kernel) rfl
theorem m_544 : Cond.selects "FoldedFamily$Text" ⟨"FoldedFamily$Text", "hasPart", "(II)Z"⟩ ⟨"FoldedFamily$Text", "hasPart", "(II)Z"⟩ ∈ gw := gw_mem 544 (by decide +kernel) rfl
set_option maxRecDepth 100000 in
theorem m_545 : Cond.code ⟨"FoldedFamily$Text", "hasPart", "(II)Z"⟩ prog_6_method_5_code 3 (some .boolean) ∈ gw := gw_mem 545 rfl rfl
theorem m_546 : Cond.methodLink "FoldedFamily" 158 ⟨"FoldedFamily$Values", "catchUp", "()V"⟩ ∈ gw := gw_mem 546 (by decide +kernel) rfl
theorem m_547 : Cond.instanceMethod ⟨"FoldedFamily$Values", "catchUp", "()V"⟩ ∈ gw := gw_mem 547 (by decide +kernel) rfl
theorem m_548 : Cond.selects "FoldedFamily$Values" ⟨"FoldedFamily$Values", "catchUp", "()V"⟩ ⟨"FoldedFamily$Values", "catchUp", "()V"⟩ ∈ gw := gw_mem 548 (by decide +kernel) rfl
set_option maxRecDepth 100000 in
theorem m_549 : Cond.code ⟨"FoldedFamily$Values", "catchUp", "()V"⟩ prog_8_method_4_code 4 none ∈ gw := gw_mem 549 rfl rfl
theorem m_550 : Cond.methodLink "FoldedFamily$Values" 27 ⟨"FoldedFamily$Text", "length", "()I"⟩ ∈ gw := gw_mem 550 (by decide +kernel) rfl
theorem m_551 : Cond.methodLink "FoldedFamily$Values" 33 ⟨"FoldedFamily$Grammar", "size", "()I"⟩ ∈ gw := gw_mem 551 (by decide +kernel) rfl
theorem m_552 : Cond.methodLink "FoldedFamily$Values" 38 ⟨"FoldedFamily$Values", "place", "(III)I"⟩ ∈ gw := gw_mem 552 (by decide +kernel) rfl
theorem m_553 : Cond.static ⟨"FoldedFamily$Values", "place", "(III)I"⟩ ∈ gw := gw_mem 553 (by decide +kernel) rfl
set_option maxRecDepth 100000 in
theorem m_554 : Cond.code ⟨"FoldedFamily$Values", "place", "(III)I"⟩ prog_8_method_14_code 3 (some .int) ∈ gw := gw_mem 554 rfl rfl
theorem m_555 : Cond.methodLink "FoldedFamily$Values" 42 ⟨"FoldedFamily$Values", "reckon", "(III)I"⟩ ∈ gw := gw_mem 555 (by decide +kernel) rfl
theorem m_557 : Cond.instanceMethod ⟨"FoldedFamily$Values", "reckon", "(III)I"⟩ ∈ gw := gw_mem 557 (by decide +kernel) rfl
set_option maxRecDepth 100000 in
theorem m_558 : Cond.code ⟨"FoldedFamily$Values", "reckon", "(III)I"⟩ prog_8_method_8_code 4 (some .int) ∈ gw := gw_mem 558 rfl rfl
theorem m_559 : Cond.methodLink "FoldedFamily$Values" 49 ⟨"FoldedFamily$Grammar", "kindOf", "(I)I"⟩ ∈ gw := gw_mem 559 (by decide +kernel) rfl
theorem m_560 : Cond.constant "FoldedFamily$Values" 48 (-1000000) ∈ gw := gw_mem 560 (by decide +kernel) rfl
theorem m_561 : Cond.methodLink "FoldedFamily$Values" 72 ⟨"FoldedFamily$Values", "greatestOfSplits", "(III)I"⟩ ∈ gw := gw_mem 561 (by decide +kernel) rfl
theorem m_563 : Cond.instanceMethod ⟨"FoldedFamily$Values", "greatestOfSplits", "(III)I"⟩ ∈ gw := gw_mem 563 (by decide +kernel) rfl
set_option maxRecDepth 100000 in
theorem m_564 : Cond.code ⟨"FoldedFamily$Values", "greatestOfSplits", "(III)I"⟩ prog_8_method_9_code 6 (some .int) ∈ gw := gw_mem 564 rfl rfl
theorem m_565 : Cond.methodLink "FoldedFamily$Values" 69 ⟨"FoldedFamily$Values", "throughSplit", "(IIII)I"⟩ ∈ gw := gw_mem 565 (by decide +kernel) rfl
theorem m_567 : Cond.instanceMethod ⟨"FoldedFamily$Values", "throughSplit", "(IIII)I"⟩ ∈ gw := gw_mem 567 (by decide +kernel) rfl
set_option maxRecDepth 100000 in
theorem m_568 : Cond.code ⟨"FoldedFamily$Values", "throughSplit", "(IIII)I"⟩ prog_8_method_11_code 7 (some .int) ∈ gw := gw_mem 568 rfl rfl
theorem m_569 : Cond.methodLink "FoldedFamily$Values" 84 ⟨"FoldedFamily$Grammar", "targetOf", "(II)I"⟩ ∈ gw := gw_mem 569 (by decide +kernel) rfl
theorem m_570 : Cond.methodLink "FoldedFamily$Values" 45 ⟨"FoldedFamily$Values", "of", "(III)I"⟩ ∈ gw := gw_mem 570 (by decide +kernel) rfl
theorem m_571 : Cond.instanceMethod ⟨"FoldedFamily$Values", "of", "(III)I"⟩ ∈ gw := gw_mem 571 (by decide +kernel) rfl
theorem m_572 : Cond.selects "FoldedFamily$Values" ⟨"FoldedFamily$Values", "of", "(III)I"⟩ ⟨"FoldedFamily$Values", "of", "(III)I"⟩ ∈ gw := gw_mem 572 (by decide +kernel) rfl
set_option maxRecDepth 100000 in
theorem m_573 : Cond.code ⟨"FoldedFamily$Values", "of", "(III)I"⟩ prog_8_method_5_code 4 (some .int) ∈ gw := gw_mem 573 rfl rfl
theorem m_574 : Cond.methodLink "FoldedFamily$Values" 78 ⟨"java/lang/Math", "max", "(II)I"⟩ ∈ gw := gw_mem 574 (by decide +kernel) rfl
theorem m_575 : Cond.methodLink "FoldedFamily$Values" 75 ⟨"FoldedFamily$Values", "greatestOfTargets", "(III)I"⟩ ∈ gw := gw_mem 575 (by decide +kernel) rfl
theorem m_577 : Cond.instanceMethod ⟨"FoldedFamily$Values", "greatestOfTargets", "(III)I"⟩ ∈ gw := gw_mem 577 (by decide +kernel) rfl
set_option maxRecDepth 100000 in
theorem m_578 : Cond.code ⟨"FoldedFamily$Values", "greatestOfTargets", "(III)I"⟩ prog_8_method_10_code 9 (some .int) ∈ gw := gw_mem 578 rfl rfl
theorem m_581 : Cond.methodLink "FoldedFamily$Values" 56 ⟨"FoldedFamily$Grammar", "targetCount", "(I)I"⟩ ∈ gw := gw_mem 581 (by decide +kernel) rfl
theorem m_582 : Cond.instanceMethod ⟨"FoldedFamily$Grammar", "targetCount", "(I)I"⟩ ∈ gw := gw_mem 582 (by decide +kernel) rfl
theorem m_583 : Cond.selects "FoldedFamily$Grammar" ⟨"FoldedFamily$Grammar", "targetCount", "(I)I"⟩ ⟨"FoldedFamily$Grammar", "targetCount", "(I)I"⟩ ∈ gw := gw_mem 583 (by decide +kernel) rfl
set_option maxRecDepth 100000 in
theorem m_584 : Cond.code ⟨"FoldedFamily$Grammar", "targetCount", "(I)I"⟩ prog_4_method_8_code 2 (some .int) ∈ gw := gw_mem 584 rfl rfl
theorem m_585 : Cond.methodLink "FoldedFamily$Values" 65 ⟨"FoldedFamily$Values", "throughTarget", "(IIII)I"⟩ ∈ gw := gw_mem 585 (by decide +kernel) rfl
theorem m_587 : Cond.instanceMethod ⟨"FoldedFamily$Values", "throughTarget", "(IIII)I"⟩ ∈ gw := gw_mem 587 (by decide +kernel) rfl
set_option maxRecDepth 100000 in
theorem m_588 : Cond.code ⟨"FoldedFamily$Values", "throughTarget", "(IIII)I"⟩ prog_8_method_12_code 6 (some .int) ∈ gw := gw_mem 588 rfl rfl
theorem m_589 : Cond.methodLink "FoldedFamily$Values" 87 ⟨"FoldedFamily$Grammar", "stepScore", "(II)I"⟩ ∈ gw := gw_mem 589 (by decide +kernel) rfl
theorem m_590 : Cond.methodLink "FoldedFamily$Values" 53 ⟨"FoldedFamily$Values", "emitted", "(III)I"⟩ ∈ gw := gw_mem 590 (by decide +kernel) rfl
theorem m_592 : Cond.instanceMethod ⟨"FoldedFamily$Values", "emitted", "(III)I"⟩ ∈ gw := gw_mem 592 (by decide +kernel) rfl
set_option maxRecDepth 100000 in
theorem m_593 : Cond.code ⟨"FoldedFamily$Values", "emitted", "(III)I"⟩ prog_8_method_13_code 4 (some .int) ∈ gw := gw_mem 593 rfl rfl
theorem m_594 : Cond.methodLink "FoldedFamily$Values" 90 ⟨"FoldedFamily$Text", "letter", "(I)I"⟩ ∈ gw := gw_mem 594 (by decide +kernel) rfl
theorem m_595 : Cond.instanceMethod ⟨"FoldedFamily$Text", "letter", "(I)I"⟩ ∈ gw := gw_mem 595 (by decide +kernel) rfl
theorem m_596 : Cond.selects "FoldedFamily$Text" ⟨"FoldedFamily$Text", "letter", "(I)I"⟩ ⟨"FoldedFamily$Text", "letter", "(I)I"⟩ ∈ gw := gw_mem 596 (by decide +kernel) rfl
set_option maxRecDepth 100000 in
theorem m_597 : Cond.code ⟨"FoldedFamily$Text", "letter", "(I)I"⟩ prog_6_method_4_code 2 (some .int) ∈ gw := gw_mem 597 rfl rfl
theorem m_598 : Cond.methodLink "FoldedFamily$Values" 93 ⟨"FoldedFamily$Grammar", "letterScore", "(III)I"⟩ ∈ gw := gw_mem 598 (by decide +kernel) rfl
theorem m_599 : Cond.methodLink "FoldedFamily" 161 ⟨"FoldedFamily$Values", "of", "(III)I"⟩ ∈ gw := gw_mem 599 (by decide +kernel) rfl
theorem m_600 : Cond.methodLink "FoldedFamilyLaw" 70 ⟨"FoldedFamily", "scan", "(II)I"⟩ ∈ gw := gw_mem 600 (by decide +kernel) rfl
theorem m_601 : Cond.instanceMethod ⟨"FoldedFamily", "scan", "(II)I"⟩ ∈ gw := gw_mem 601 (by decide +kernel) rfl
theorem m_602 : Cond.selects "FoldedFamily" ⟨"FoldedFamily", "scan", "(II)I"⟩ ⟨"FoldedFamily", "scan", "(II)I"⟩ ∈ gw := gw_mem 602 (by decide +kernel) rfl
set_option maxRecDepth 100000 in
theorem m_603 : Cond.code ⟨"FoldedFamily", "scan", "(II)I"⟩ prog_1_method_13_code 3 (some .int) ∈ gw := gw_mem 603 rfl rfl
theorem m_604 : Cond.methodLink "FoldedFamily" 164 ⟨"FoldedFamily$Hits", "find", "(LFoldedFamily$Values;III)V"⟩ ∈ gw := gw_mem 604 (by decide +kernel) rfl
theorem m_605 : Cond.instanceMethod ⟨"FoldedFamily$Hits", "find", "(LFoldedFamily$Values;III)V"⟩ ∈ gw := gw_mem 605 (by decide +kernel) rfl
theorem m_606 : Cond.selects "FoldedFamily$Hits" ⟨"FoldedFamily$Hits", "find", "(LFoldedFamily$Values;III)V"⟩ ⟨"FoldedFamily$Hits", "find", "(LFoldedFamily$Values;III)V"⟩ ∈ gw := gw_mem 606 (by decide +kernel) rfl
set_option maxRecDepth 100000 in
theorem m_607 : Cond.code ⟨"FoldedFamily$Hits", "find", "(LFoldedFamily$Values;III)V"⟩ prog_5_method_8_code 7 none ∈ gw := gw_mem 607 rfl rfl
theorem m_608 : Cond.methodLink "FoldedFamily$Hits" 29 ⟨"FoldedFamily$Hits", "findNext", "(LFoldedFamily$Values;III)Z"⟩ ∈ gw := gw_mem 608 (by decide +kernel) rfl
theorem m_610 : Cond.instanceMethod ⟨"FoldedFamily$Hits", "findNext", "(LFoldedFamily$Values;III)Z"⟩ ∈ gw := gw_mem 610 (by decide +kernel) rfl
set_option maxRecDepth 100000 in
theorem m_611 : Cond.code ⟨"FoldedFamily$Hits", "findNext", "(LFoldedFamily$Values;III)Z"⟩ prog_5_method_9_code 10 (some .boolean) ∈ gw := gw_mem 611 rfl rfl
theorem m_612 : Cond.methodLink "FoldedFamily$Hits" 33 ⟨"java/lang/Math", "min", "(II)I"⟩ ∈ gw := gw_mem 612 (by decide +kernel) rfl
theorem m_613 : Cond.methodLink "FoldedFamily$Hits" 39 ⟨"FoldedFamily$Hits", "freeEnd", "(II)I"⟩ ∈ gw := gw_mem 613 (by decide +kernel) rfl
theorem m_615 : Cond.instanceMethod ⟨"FoldedFamily$Hits", "freeEnd", "(II)I"⟩ ∈ gw := gw_mem 615 (by decide +kernel) rfl
set_option maxRecDepth 100000 in
theorem m_616 : Cond.code ⟨"FoldedFamily$Hits", "freeEnd", "(II)I"⟩ prog_5_method_10_code 4 (some .int) ∈ gw := gw_mem 616 rfl rfl
theorem m_617 : Cond.methodLink "FoldedFamily$Hits" 42 ⟨"FoldedFamily$Values", "of", "(III)I"⟩ ∈ gw := gw_mem 617 (by decide +kernel) rfl
theorem m_618 : Cond.constant "FoldedFamily$Hits" 48 (-1000000) ∈ gw := gw_mem 618 (by decide +kernel) rfl
theorem m_619 : Cond.methodLink "FoldedFamily$Hits" 49 ⟨"FoldedFamily$Hits", "note", "(III)V"⟩ ∈ gw := gw_mem 619 (by decide +kernel) rfl
theorem m_621 : Cond.instanceMethod ⟨"FoldedFamily$Hits", "note", "(III)V"⟩ ∈ gw := gw_mem 621 (by decide +kernel) rfl
set_option maxRecDepth 100000 in
theorem m_622 : Cond.code ⟨"FoldedFamily$Hits", "note", "(III)V"⟩ prog_5_method_11_code 4 none ∈ gw := gw_mem 622 rfl rfl
theorem m_623 : Cond.methodLink "FoldedFamily$Hits" 53 ⟨"FoldedFamily$Hits", "takeNoted", "()V"⟩ ∈ gw := gw_mem 623 (by decide +kernel) rfl
theorem m_625 : Cond.instanceMethod ⟨"FoldedFamily$Hits", "takeNoted", "()V"⟩ ∈ gw := gw_mem 625 (by decide +kernel) rfl
set_option maxRecDepth 100000 in
theorem m_626 : Cond.code ⟨"FoldedFamily$Hits", "takeNoted", "()V"⟩ prog_5_method_12_code 2 none ∈ gw := gw_mem 626 rfl rfl
theorem m_627 : Cond.methodLink "FoldedFamily" 168 ⟨"FoldedFamily$Hits", "count", "()I"⟩ ∈ gw := gw_mem 627 (by decide +kernel) rfl
theorem m_628 : Cond.instanceMethod ⟨"FoldedFamily$Hits", "count", "()I"⟩ ∈ gw := gw_mem 628 (by decide +kernel) rfl
theorem m_629 : Cond.selects "FoldedFamily$Hits" ⟨"FoldedFamily$Hits", "count", "()I"⟩ ⟨"FoldedFamily$Hits", "count", "()I"⟩ ∈ gw := gw_mem 629 (by decide +kernel) rfl
set_option maxRecDepth 100000 in
theorem m_630 : Cond.code ⟨"FoldedFamily$Hits", "count", "()I"⟩ prog_5_method_2_code 1 (some .int) ∈ gw := gw_mem 630 rfl rfl
theorem m_631 : Cond.methodLink "FoldedFamilyLaw" 74 ⟨"FoldedFamily", "hit", "(II)I"⟩ ∈ gw := gw_mem 631 (by decide +kernel) rfl
theorem m_632 : Cond.instanceMethod ⟨"FoldedFamily", "hit", "(II)I"⟩ ∈ gw := gw_mem 632 (by decide +kernel) rfl
theorem m_633 : Cond.selects "FoldedFamily" ⟨"FoldedFamily", "hit", "(II)I"⟩ ⟨"FoldedFamily", "hit", "(II)I"⟩ ∈ gw := gw_mem 633 (by decide +kernel) rfl
set_option maxRecDepth 100000 in
theorem m_634 : Cond.code ⟨"FoldedFamily", "hit", "(II)I"⟩ prog_1_method_14_code 3 (some .int) ∈ gw := gw_mem 634 rfl rfl
theorem m_635 : Cond.methodLink "FoldedFamily" 171 ⟨"FoldedFamily$Hits", "has", "(I)Z"⟩ ∈ gw := gw_mem 635 (by decide +kernel) rfl
theorem m_636 : Cond.instanceMethod ⟨"FoldedFamily$Hits", "has", "(I)Z"⟩ ∈ gw := gw_mem 636 (by decide +kernel) rfl
theorem m_637 : Cond.selects "FoldedFamily$Hits" ⟨"FoldedFamily$Hits", "has", "(I)Z"⟩ ⟨"FoldedFamily$Hits", "has", "(I)Z"⟩ ∈ gw := gw_mem 637 (by decide +kernel) rfl
set_option maxRecDepth 100000 in
theorem m_638 : Cond.code ⟨"FoldedFamily$Hits", "has", "(I)Z"⟩ prog_5_method_4_code 2 (some .boolean) ∈ gw := gw_mem 638 rfl rfl
theorem m_639 : Cond.methodLink "FoldedFamily" 174 ⟨"FoldedFamily$Hits", "begin", "(I)I"⟩ ∈ gw := gw_mem 639 (by decide +kernel) rfl
theorem m_640 : Cond.instanceMethod ⟨"FoldedFamily$Hits", "begin", "(I)I"⟩ ∈ gw := gw_mem 640 (by decide +kernel) rfl
theorem m_641 : Cond.selects "FoldedFamily$Hits" ⟨"FoldedFamily$Hits", "begin", "(I)I"⟩ ⟨"FoldedFamily$Hits", "begin", "(I)I"⟩ ∈ gw := gw_mem 641 (by decide +kernel) rfl
set_option maxRecDepth 100000 in
theorem m_642 : Cond.code ⟨"FoldedFamily$Hits", "begin", "(I)I"⟩ prog_5_method_5_code 2 (some .int) ∈ gw := gw_mem 642 rfl rfl
theorem m_643 : Cond.methodLink "FoldedFamily" 177 ⟨"FoldedFamily$Hits", "letters", "(I)I"⟩ ∈ gw := gw_mem 643 (by decide +kernel) rfl
theorem m_644 : Cond.instanceMethod ⟨"FoldedFamily$Hits", "letters", "(I)I"⟩ ∈ gw := gw_mem 644 (by decide +kernel) rfl
theorem m_645 : Cond.selects "FoldedFamily$Hits" ⟨"FoldedFamily$Hits", "letters", "(I)I"⟩ ⟨"FoldedFamily$Hits", "letters", "(I)I"⟩ ∈ gw := gw_mem 645 (by decide +kernel) rfl
set_option maxRecDepth 100000 in
theorem m_646 : Cond.code ⟨"FoldedFamily$Hits", "letters", "(I)I"⟩ prog_5_method_6_code 2 (some .int) ∈ gw := gw_mem 646 rfl rfl
theorem m_647 : Cond.methodLink "FoldedFamily" 180 ⟨"FoldedFamily$Hits", "score", "(I)I"⟩ ∈ gw := gw_mem 647 (by decide +kernel) rfl
theorem m_648 : Cond.instanceMethod ⟨"FoldedFamily$Hits", "score", "(I)I"⟩ ∈ gw := gw_mem 648 (by decide +kernel) rfl
theorem m_649 : Cond.selects "FoldedFamily$Hits" ⟨"FoldedFamily$Hits", "score", "(I)I"⟩ ⟨"FoldedFamily$Hits", "score", "(I)I"⟩ ∈ gw := gw_mem 649 (by decide +kernel) rfl
set_option maxRecDepth 100000 in
theorem m_650 : Cond.code ⟨"FoldedFamily$Hits", "score", "(I)I"⟩ prog_5_method_7_code 2 (some .int) ∈ gw := gw_mem 650 rfl rfl
theorem m_651 : Cond.methodLink "FoldedFamily" 183 ⟨"FoldedFamily$Derivation", "write", "(LFoldedFamily$Values;II)V"⟩ ∈ gw := gw_mem 651 (by decide +kernel) rfl
theorem m_652 : Cond.instanceMethod ⟨"FoldedFamily$Derivation", "write", "(LFoldedFamily$Values;II)V"⟩ ∈ gw := gw_mem 652 (by decide +kernel) rfl
theorem m_653 : Cond.selects "FoldedFamily$Derivation" ⟨"FoldedFamily$Derivation", "write", "(LFoldedFamily$Values;II)V"⟩ ⟨"FoldedFamily$Derivation", "write", "(LFoldedFamily$Values;II)V"⟩ ∈ gw := gw_mem 653 (by decide +kernel) rfl
set_option maxRecDepth 100000 in
theorem m_654 : Cond.code ⟨"FoldedFamily$Derivation", "write", "(LFoldedFamily$Values;II)V"⟩ prog_3_method_6_code 4 none ∈ gw := gw_mem 654 rfl rfl
theorem m_655 : Cond.methodLink "FoldedFamily$Derivation" 25 ⟨"FoldedFamily$Derivation", "writeFrom", "(LFoldedFamily$Values;III)V"⟩ ∈ gw := gw_mem 655 (by decide +kernel) rfl
theorem m_657 : Cond.instanceMethod ⟨"FoldedFamily$Derivation", "writeFrom", "(LFoldedFamily$Values;III)V"⟩ ∈ gw := gw_mem 657 (by decide +kernel) rfl
set_option maxRecDepth 100000 in
theorem m_658 : Cond.code ⟨"FoldedFamily$Derivation", "writeFrom", "(LFoldedFamily$Values;III)V"⟩ prog_3_method_7_code 6 none ∈ gw := gw_mem 658 rfl rfl
theorem m_659 : Cond.methodLink "FoldedFamily$Derivation" 29 ⟨"FoldedFamily$Derivation", "note", "(III)V"⟩ ∈ gw := gw_mem 659 (by decide +kernel) rfl
theorem m_661 : Cond.instanceMethod ⟨"FoldedFamily$Derivation", "note", "(III)V"⟩ ∈ gw := gw_mem 661 (by decide +kernel) rfl
set_option maxRecDepth 100000 in
theorem m_662 : Cond.code ⟨"FoldedFamily$Derivation", "note", "(III)V"⟩ prog_3_method_10_code 4 none ∈ gw := gw_mem 662 rfl rfl
theorem m_663 : Cond.methodLink "FoldedFamily$Derivation" 33 ⟨"FoldedFamily$Values", "grammar", "()LFoldedFamily$Grammar;"⟩ ∈ gw := gw_mem 663 (by decide +kernel) rfl
theorem m_664 : Cond.instanceMethod ⟨"FoldedFamily$Values", "grammar", "()LFoldedFamily$Grammar;"⟩ ∈ gw := gw_mem 664 (by decide +kernel) rfl
theorem m_665 : Cond.selects "FoldedFamily$Values" ⟨"FoldedFamily$Values", "grammar", "()LFoldedFamily$Grammar;"⟩ ⟨"FoldedFamily$Values", "grammar", "()LFoldedFamily$Grammar;"⟩ ∈ gw := gw_mem 665 (by decide +kernel) rfl
set_option maxRecDepth 100000 in
theorem m_666 : Cond.code ⟨"FoldedFamily$Values", "grammar", "()LFoldedFamily$Grammar;"⟩ prog_8_method_2_code 1 (some (.object "FoldedFamily$Grammar")) ∈ gw := gw_mem 666 rfl rfl
theorem m_667 : Cond.methodLink "FoldedFamily$Derivation" 39 ⟨"FoldedFamily$Grammar", "kindOf", "(I)I"⟩ ∈ gw := gw_mem 667 (by decide +kernel) rfl
theorem m_668 : Cond.methodLink "FoldedFamily$Derivation" 45 ⟨"FoldedFamily$Derivation", "writeParts", "(LFoldedFamily$Values;III)V"⟩ ∈ gw := gw_mem 668 (by decide +kernel) rfl
theorem m_670 : Cond.instanceMethod ⟨"FoldedFamily$Derivation", "writeParts", "(LFoldedFamily$Values;III)V"⟩ ∈ gw := gw_mem 670 (by decide +kernel) rfl
set_option maxRecDepth 100000 in
theorem m_671 : Cond.code ⟨"FoldedFamily$Derivation", "writeParts", "(LFoldedFamily$Values;III)V"⟩ prog_3_method_8_code 6 none ∈ gw := gw_mem 671 rfl rfl
theorem m_672 : Cond.methodLink "FoldedFamily$Derivation" 51 ⟨"FoldedFamily$Values", "bestSplit", "(III)I"⟩ ∈ gw := gw_mem 672 (by decide +kernel) rfl
theorem m_673 : Cond.instanceMethod ⟨"FoldedFamily$Values", "bestSplit", "(III)I"⟩ ∈ gw := gw_mem 673 (by decide +kernel) rfl
theorem m_674 : Cond.selects "FoldedFamily$Values" ⟨"FoldedFamily$Values", "bestSplit", "(III)I"⟩ ⟨"FoldedFamily$Values", "bestSplit", "(III)I"⟩ ∈ gw := gw_mem 674 (by decide +kernel) rfl
set_option maxRecDepth 100000 in
theorem m_675 : Cond.code ⟨"FoldedFamily$Values", "bestSplit", "(III)I"⟩ prog_8_method_7_code 6 (some .int) ∈ gw := gw_mem 675 rfl rfl
theorem m_676 : Cond.constant "FoldedFamily$Derivation" 55 (-1000000) ∈ gw := gw_mem 676 (by decide +kernel) rfl
theorem m_677 : Cond.methodLink "FoldedFamily$Derivation" 56 ⟨"FoldedFamily$Grammar", "targetOf", "(II)I"⟩ ∈ gw := gw_mem 677 (by decide +kernel) rfl
theorem m_678 : Cond.methodLink "FoldedFamily$Derivation" 48 ⟨"FoldedFamily$Derivation", "writeRest", "(LFoldedFamily$Values;III)V"⟩ ∈ gw := gw_mem 678 (by decide +kernel) rfl
theorem m_680 : Cond.instanceMethod ⟨"FoldedFamily$Derivation", "writeRest", "(LFoldedFamily$Values;III)V"⟩ ∈ gw := gw_mem 680 (by decide +kernel) rfl
set_option maxRecDepth 100000 in
theorem m_681 : Cond.code ⟨"FoldedFamily$Derivation", "writeRest", "(LFoldedFamily$Values;III)V"⟩ prog_3_method_9_code 8 none ∈ gw := gw_mem 681 rfl rfl
theorem m_682 : Cond.methodLink "FoldedFamily$Derivation" 60 ⟨"FoldedFamily$Values", "bestTarget", "(III)I"⟩ ∈ gw := gw_mem 682 (by decide +kernel) rfl
theorem m_683 : Cond.instanceMethod ⟨"FoldedFamily$Values", "bestTarget", "(III)I"⟩ ∈ gw := gw_mem 683 (by decide +kernel) rfl
theorem m_684 : Cond.selects "FoldedFamily$Values" ⟨"FoldedFamily$Values", "bestTarget", "(III)I"⟩ ⟨"FoldedFamily$Values", "bestTarget", "(III)I"⟩ ∈ gw := gw_mem 684 (by decide +kernel) rfl
set_option maxRecDepth 100000 in
theorem m_685 : Cond.code ⟨"FoldedFamily$Values", "bestTarget", "(III)I"⟩ prog_8_method_6_code 7 (some .int) ∈ gw := gw_mem 685 rfl rfl
theorem m_688 : Cond.methodLink "FoldedFamily" 187 ⟨"FoldedFamily$Derivation", "length", "()I"⟩ ∈ gw := gw_mem 688 (by decide +kernel) rfl
theorem m_689 : Cond.instanceMethod ⟨"FoldedFamily$Derivation", "length", "()I"⟩ ∈ gw := gw_mem 689 (by decide +kernel) rfl
theorem m_690 : Cond.selects "FoldedFamily$Derivation" ⟨"FoldedFamily$Derivation", "length", "()I"⟩ ⟨"FoldedFamily$Derivation", "length", "()I"⟩ ∈ gw := gw_mem 690 (by decide +kernel) rfl
set_option maxRecDepth 100000 in
theorem m_691 : Cond.code ⟨"FoldedFamily$Derivation", "length", "()I"⟩ prog_3_method_2_code 1 (some .int) ∈ gw := gw_mem 691 rfl rfl
theorem m_692 : Cond.methodLink "FoldedFamilyLaw" 78 ⟨"FoldedFamily", "derived", "(III)I"⟩ ∈ gw := gw_mem 692 (by decide +kernel) rfl
theorem m_693 : Cond.instanceMethod ⟨"FoldedFamily", "derived", "(III)I"⟩ ∈ gw := gw_mem 693 (by decide +kernel) rfl
theorem m_694 : Cond.selects "FoldedFamily" ⟨"FoldedFamily", "derived", "(III)I"⟩ ⟨"FoldedFamily", "derived", "(III)I"⟩ ∈ gw := gw_mem 694 (by decide +kernel) rfl
set_option maxRecDepth 100000 in
theorem m_695 : Cond.code ⟨"FoldedFamily", "derived", "(III)I"⟩ prog_1_method_15_code 4 (some .int) ∈ gw := gw_mem 695 rfl rfl
theorem m_696 : Cond.methodLink "FoldedFamily" 188 ⟨"FoldedFamily$Derivation", "state", "(I)I"⟩ ∈ gw := gw_mem 696 (by decide +kernel) rfl
theorem m_697 : Cond.instanceMethod ⟨"FoldedFamily$Derivation", "state", "(I)I"⟩ ∈ gw := gw_mem 697 (by decide +kernel) rfl
theorem m_698 : Cond.selects "FoldedFamily$Derivation" ⟨"FoldedFamily$Derivation", "state", "(I)I"⟩ ⟨"FoldedFamily$Derivation", "state", "(I)I"⟩ ∈ gw := gw_mem 698 (by decide +kernel) rfl
set_option maxRecDepth 100000 in
theorem m_699 : Cond.code ⟨"FoldedFamily$Derivation", "state", "(I)I"⟩ prog_3_method_3_code 2 (some .int) ∈ gw := gw_mem 699 rfl rfl
theorem m_700 : Cond.methodLink "FoldedFamily" 191 ⟨"FoldedFamily$Derivation", "begin", "(I)I"⟩ ∈ gw := gw_mem 700 (by decide +kernel) rfl
theorem m_701 : Cond.instanceMethod ⟨"FoldedFamily$Derivation", "begin", "(I)I"⟩ ∈ gw := gw_mem 701 (by decide +kernel) rfl
theorem m_702 : Cond.selects "FoldedFamily$Derivation" ⟨"FoldedFamily$Derivation", "begin", "(I)I"⟩ ⟨"FoldedFamily$Derivation", "begin", "(I)I"⟩ ∈ gw := gw_mem 702 (by decide +kernel) rfl
set_option maxRecDepth 100000 in
theorem m_703 : Cond.code ⟨"FoldedFamily$Derivation", "begin", "(I)I"⟩ prog_3_method_4_code 2 (some .int) ∈ gw := gw_mem 703 rfl rfl
theorem m_704 : Cond.methodLink "FoldedFamily" 192 ⟨"FoldedFamily$Derivation", "letters", "(I)I"⟩ ∈ gw := gw_mem 704 (by decide +kernel) rfl
theorem m_705 : Cond.instanceMethod ⟨"FoldedFamily$Derivation", "letters", "(I)I"⟩ ∈ gw := gw_mem 705 (by decide +kernel) rfl
theorem m_706 : Cond.selects "FoldedFamily$Derivation" ⟨"FoldedFamily$Derivation", "letters", "(I)I"⟩ ⟨"FoldedFamily$Derivation", "letters", "(I)I"⟩ ∈ gw := gw_mem 706 (by decide +kernel) rfl
set_option maxRecDepth 100000 in
theorem m_707 : Cond.code ⟨"FoldedFamily$Derivation", "letters", "(I)I"⟩ prog_3_method_5_code 2 (some .int) ∈ gw := gw_mem 707 rfl rfl
theorem m_716 : Cond.methodLink "FoldedFamilyModel" 1 ⟨"java/lang/Object", "<init>", "()V"⟩ ∈ gw := gw_mem 716 (by decide +kernel) rfl
theorem m_717 : Cond.fieldLink "FoldedFamilyModel" 70 "FoldedFamilyModel" "rows" "I" ∈ gw := gw_mem 717 (by decide +kernel) rfl
theorem m_718 : Cond.fieldLink "FoldedFamilyModel" 81 "FoldedFamilyModel" "columns" "I" ∈ gw := gw_mem 718 (by decide +kernel) rfl
theorem m_719 : Cond.fieldLink "FoldedFamilyModel" 7 "FoldedFamilyModel" "marks" "[I" ∈ gw := gw_mem 719 (by decide +kernel) rfl
theorem m_720 : Cond.fieldLink "FoldedFamilyModel" 13 "FoldedFamilyModel" "letters" "[I" ∈ gw := gw_mem 720 (by decide +kernel) rfl
theorem m_721 : Cond.fieldLink "FoldedFamilyModel" 16 "FoldedFamilyModel" "mate" "[I" ∈ gw := gw_mem 721 (by decide +kernel) rfl
theorem m_722 : Cond.fieldLink "FoldedFamilyModel" 74 "FoldedFamilyModel" "made" "Z" ∈ gw := gw_mem 722 (by decide +kernel) rfl
theorem m_723 : Cond.fieldLink "FoldedFamilyModel" 87 "FoldedFamilyModel" "nodes" "I" ∈ gw := gw_mem 723 (by decide +kernel) rfl
theorem m_724 : Cond.fieldLink "FoldedFamilyModel" 19 "FoldedFamilyModel" "sort" "[I" ∈ gw := gw_mem 724 (by decide +kernel) rfl
theorem m_725 : Cond.fieldLink "FoldedFamilyModel" 22 "FoldedFamilyModel" "from" "[I" ∈ gw := gw_mem 725 (by decide +kernel) rfl
theorem m_726 : Cond.fieldLink "FoldedFamilyModel" 25 "FoldedFamilyModel" "to" "[I" ∈ gw := gw_mem 726 (by decide +kernel) rfl
theorem m_727 : Cond.fieldLink "FoldedFamilyModel" 28 "FoldedFamilyModel" "begin" "[I" ∈ gw := gw_mem 727 (by decide +kernel) rfl
theorem m_728 : Cond.fieldLink "FoldedFamilyModel" 31 "FoldedFamilyModel" "other" "[I" ∈ gw := gw_mem 728 (by decide +kernel) rfl
theorem m_729 : Cond.fieldLink "FoldedFamilyModel" 98 "FoldedFamilyModel" "states" "I" ∈ gw := gw_mem 729 (by decide +kernel) rfl
theorem m_730 : Cond.fieldLink "FoldedFamilyModel" 34 "FoldedFamilyModel" "kinds" "[I" ∈ gw := gw_mem 730 (by decide +kernel) rfl
theorem m_731 : Cond.fieldLink "FoldedFamilyModel" 37 "FoldedFamilyModel" "nodeOf" "[I" ∈ gw := gw_mem 731 (by decide +kernel) rfl
theorem m_732 : Cond.fieldLink "FoldedFamilyModel" 40 "FoldedFamilyModel" "steps" "[I" ∈ gw := gw_mem 732 (by decide +kernel) rfl
theorem m_733 : Cond.fieldLink "FoldedFamilyModel" 43 "FoldedFamilyModel" "emissions" "[I" ∈ gw := gw_mem 733 (by decide +kernel) rfl
theorem m_734 : Cond.fieldLink "FoldedFamilyModel" 159 "FoldedFamilyModel" "length" "I" ∈ gw := gw_mem 734 (by decide +kernel) rfl
theorem m_735 : Cond.fieldLink "FoldedFamilyModel" 46 "FoldedFamilyModel" "text" "[I" ∈ gw := gw_mem 735 (by decide +kernel) rfl
theorem m_736 : Cond.fieldLink "FoldedFamilyModel" 150 "FoldedFamilyModel" "worked" "Z" ∈ gw := gw_mem 736 (by decide +kernel) rfl
theorem m_737 : Cond.fieldLink "FoldedFamilyModel" 49 "FoldedFamilyModel" "values" "[I" ∈ gw := gw_mem 737 (by decide +kernel) rfl
theorem m_738 : Cond.fieldLink "FoldedFamilyModel" 78 "FoldedFamilyModel" "hits" "I" ∈ gw := gw_mem 738 (by decide +kernel) rfl
theorem m_739 : Cond.fieldLink "FoldedFamilyModel" 52 "FoldedFamilyModel" "hitAt" "[I" ∈ gw := gw_mem 739 (by decide +kernel) rfl
theorem m_740 : Cond.fieldLink "FoldedFamilyModel" 55 "FoldedFamilyModel" "hitLength" "[I" ∈ gw := gw_mem 740 (by decide +kernel) rfl
theorem m_741 : Cond.fieldLink "FoldedFamilyModel" 190 "FoldedFamilyModel" "written" "I" ∈ gw := gw_mem 741 (by decide +kernel) rfl
theorem m_742 : Cond.fieldLink "FoldedFamilyModel" 58 "FoldedFamilyModel" "listState" "[I" ∈ gw := gw_mem 742 (by decide +kernel) rfl
theorem m_743 : Cond.fieldLink "FoldedFamilyModel" 61 "FoldedFamilyModel" "listAt" "[I" ∈ gw := gw_mem 743 (by decide +kernel) rfl
theorem m_744 : Cond.fieldLink "FoldedFamilyModel" 64 "FoldedFamilyModel" "listLength" "[I" ∈ gw := gw_mem 744 (by decide +kernel) rfl
theorem m_745 : Cond.fieldLink "FoldedFamilyModel" 67 "FoldedFamilyModel" "stack" "[I" ∈ gw := gw_mem 745 (by decide +kernel) rfl
theorem m_805 : Cond.methodLink "FoldedFamilyLaw" 25 ⟨"FoldedFamilyModel", "column", "(CI)Z"⟩ ∈ gw := gw_mem 805 (by decide +kernel) rfl
theorem m_806 : Cond.instanceMethod ⟨"FoldedFamilyModel", "column", "(CI)Z"⟩ ∈ gw := gw_mem 806 (by decide +kernel) rfl
theorem m_807 : Cond.selects "FoldedFamilyModel" ⟨"FoldedFamilyModel", "column", "(CI)Z"⟩ ⟨"FoldedFamilyModel", "column", "(CI)Z"⟩ ∈ gw := gw_mem 807 (by decide +kernel) rfl
set_option maxRecDepth 100000 in
theorem m_808 : Cond.code ⟨"FoldedFamilyModel", "column", "(CI)Z"⟩ prog_10_method_3_code 5 (some .boolean) ∈ gw := gw_mem 808 rfl rfl
theorem m_809 : Cond.methodLink "FoldedFamilyModel" 84 ⟨"FoldedFamilyModel", "changed", "()V"⟩ ∈ gw := gw_mem 809 (by decide +kernel) rfl
theorem m_811 : Cond.instanceMethod ⟨"FoldedFamilyModel", "changed", "()V"⟩ ∈ gw := gw_mem 811 (by decide +kernel) rfl
set_option maxRecDepth 100000 in
theorem m_812 : Cond.code ⟨"FoldedFamilyModel", "changed", "()V"⟩ prog_10_method_2_code 1 none ∈ gw := gw_mem 812 rfl rfl
theorem m_813 : Cond.methodLink "FoldedFamilyLaw" 29 ⟨"FoldedFamilyModel", "clear", "()V"⟩ ∈ gw := gw_mem 813 (by decide +kernel) rfl
theorem m_814 : Cond.instanceMethod ⟨"FoldedFamilyModel", "clear", "()V"⟩ ∈ gw := gw_mem 814 (by decide +kernel) rfl
theorem m_815 : Cond.selects "FoldedFamilyModel" ⟨"FoldedFamilyModel", "clear", "()V"⟩ ⟨"FoldedFamilyModel", "clear", "()V"⟩ ∈ gw := gw_mem 815 (by decide +kernel) rfl
set_option maxRecDepth 100000 in
theorem m_816 : Cond.code ⟨"FoldedFamilyModel", "clear", "()V"⟩ prog_10_method_4_code 1 none ∈ gw := gw_mem 816 rfl rfl
theorem m_817 : Cond.methodLink "FoldedFamilyLaw" 34 ⟨"FoldedFamilyModel", "build", "()I"⟩ ∈ gw := gw_mem 817 (by decide +kernel) rfl
theorem m_818 : Cond.instanceMethod ⟨"FoldedFamilyModel", "build", "()I"⟩ ∈ gw := gw_mem 818 (by decide +kernel) rfl
theorem m_819 : Cond.selects "FoldedFamilyModel" ⟨"FoldedFamilyModel", "build", "()I"⟩ ⟨"FoldedFamilyModel", "build", "()I"⟩ ∈ gw := gw_mem 819 (by decide +kernel) rfl
set_option maxRecDepth 100000 in
theorem m_820 : Cond.code ⟨"FoldedFamilyModel", "build", "()I"⟩ prog_10_method_20_code 2 (some .int) ∈ gw := gw_mem 820 rfl rfl
theorem m_821 : Cond.methodLink "FoldedFamilyModel" 132 ⟨"FoldedFamilyModel", "pair", "()Z"⟩ ∈ gw := gw_mem 821 (by decide +kernel) rfl
theorem m_823 : Cond.instanceMethod ⟨"FoldedFamilyModel", "pair", "()Z"⟩ ∈ gw := gw_mem 823 (by decide +kernel) rfl
set_option maxRecDepth 100000 in
theorem m_824 : Cond.code ⟨"FoldedFamilyModel", "pair", "()Z"⟩ prog_10_method_5_code 6 (some .boolean) ∈ gw := gw_mem 824 rfl rfl
theorem m_825 : Cond.constant "FoldedFamilyModel" 136 (-1000000) ∈ gw := gw_mem 825 (by decide +kernel) rfl
theorem m_826 : Cond.methodLink "FoldedFamilyModel" 137 ⟨"FoldedFamilyModel", "plant", "()V"⟩ ∈ gw := gw_mem 826 (by decide +kernel) rfl
theorem m_828 : Cond.instanceMethod ⟨"FoldedFamilyModel", "plant", "()V"⟩ ∈ gw := gw_mem 828 (by decide +kernel) rfl
set_option maxRecDepth 100000 in
theorem m_829 : Cond.code ⟨"FoldedFamilyModel", "plant", "()V"⟩ prog_10_method_8_code 6 none ∈ gw := gw_mem 829 rfl rfl
theorem m_830 : Cond.methodLink "FoldedFamilyModel" 90 ⟨"FoldedFamilyModel", "node", "(III)I"⟩ ∈ gw := gw_mem 830 (by decide +kernel) rfl
theorem m_832 : Cond.instanceMethod ⟨"FoldedFamilyModel", "node", "(III)I"⟩ ∈ gw := gw_mem 832 (by decide +kernel) rfl
set_option maxRecDepth 100000 in
theorem m_833 : Cond.code ⟨"FoldedFamilyModel", "node", "(III)I"⟩ prog_10_method_6_code 4 (some .int) ∈ gw := gw_mem 833 rfl rfl
theorem m_834 : Cond.methodLink "FoldedFamilyModel" 94 ⟨"FoldedFamilyModel", "push", "(IIII)I"⟩ ∈ gw := gw_mem 834 (by decide +kernel) rfl
theorem m_836 : Cond.instanceMethod ⟨"FoldedFamilyModel", "push", "(IIII)I"⟩ ∈ gw := gw_mem 836 (by decide +kernel) rfl
set_option maxRecDepth 100000 in
theorem m_837 : Cond.code ⟨"FoldedFamilyModel", "push", "(IIII)I"⟩ prog_10_method_7_code 5 (some .int) ∈ gw := gw_mem 837 rfl rfl
theorem m_838 : Cond.methodLink "FoldedFamilyModel" 140 ⟨"FoldedFamilyModel", "settle", "()V"⟩ ∈ gw := gw_mem 838 (by decide +kernel) rfl
theorem m_840 : Cond.instanceMethod ⟨"FoldedFamilyModel", "settle", "()V"⟩ ∈ gw := gw_mem 840 (by decide +kernel) rfl
set_option maxRecDepth 100000 in
theorem m_841 : Cond.code ⟨"FoldedFamilyModel", "settle", "()V"⟩ prog_10_method_10_code 3 none ∈ gw := gw_mem 841 rfl rfl
theorem m_842 : Cond.methodLink "FoldedFamilyModel" 101 ⟨"FoldedFamilyModel", "state", "(II)V"⟩ ∈ gw := gw_mem 842 (by decide +kernel) rfl
theorem m_844 : Cond.instanceMethod ⟨"FoldedFamilyModel", "state", "(II)V"⟩ ∈ gw := gw_mem 844 (by decide +kernel) rfl
set_option maxRecDepth 100000 in
theorem m_845 : Cond.code ⟨"FoldedFamilyModel", "state", "(II)V"⟩ prog_10_method_9_code 3 none ∈ gw := gw_mem 845 rfl rfl
theorem m_846 : Cond.methodLink "FoldedFamilyModel" 143 ⟨"FoldedFamilyModel", "scoreSteps", "(I)V"⟩ ∈ gw := gw_mem 846 (by decide +kernel) rfl
theorem m_848 : Cond.instanceMethod ⟨"FoldedFamilyModel", "scoreSteps", "(I)V"⟩ ∈ gw := gw_mem 848 (by decide +kernel) rfl
set_option maxRecDepth 100000 in
theorem m_849 : Cond.code ⟨"FoldedFamilyModel", "scoreSteps", "(I)V"⟩ prog_10_method_18_code 6 none ∈ gw := gw_mem 849 rfl rfl
theorem m_850 : Cond.methodLink "FoldedFamilyModel" 119 ⟨"FoldedFamilyModel", "targetOf", "(II)I"⟩ ∈ gw := gw_mem 850 (by decide +kernel) rfl
theorem m_852 : Cond.instanceMethod ⟨"FoldedFamilyModel", "targetOf", "(II)I"⟩ ∈ gw := gw_mem 852 (by decide +kernel) rfl
set_option maxRecDepth 100000 in
theorem m_853 : Cond.code ⟨"FoldedFamilyModel", "targetOf", "(II)I"⟩ prog_10_method_12_code 9 (some .int) ∈ gw := gw_mem 853 rfl rfl
theorem m_854 : Cond.methodLink "FoldedFamilyModel" 105 ⟨"FoldedFamilyModel", "inserts", "(I)Z"⟩ ∈ gw := gw_mem 854 (by decide +kernel) rfl
theorem m_855 : Cond.static ⟨"FoldedFamilyModel", "inserts", "(I)Z"⟩ ∈ gw := gw_mem 855 (by decide +kernel) rfl
set_option maxRecDepth 100000 in
theorem m_856 : Cond.code ⟨"FoldedFamilyModel", "inserts", "(I)Z"⟩ prog_10_method_11_code 1 (some .boolean) ∈ gw := gw_mem 856 rfl rfl
theorem m_857 : Cond.methodLink "FoldedFamilyModel" 122 ⟨"FoldedFamilyModel", "rowsFrom", "(II)I"⟩ ∈ gw := gw_mem 857 (by decide +kernel) rfl
theorem m_859 : Cond.instanceMethod ⟨"FoldedFamilyModel", "rowsFrom", "(II)I"⟩ ∈ gw := gw_mem 859 (by decide +kernel) rfl
set_option maxRecDepth 100000 in
theorem m_860 : Cond.code ⟨"FoldedFamilyModel", "rowsFrom", "(II)I"⟩ prog_10_method_17_code 5 (some .int) ∈ gw := gw_mem 860 rfl rfl
theorem m_861 : Cond.methodLink "FoldedFamilyModel" 115 ⟨"FoldedFamilyModel", "kindAt", "(II)I"⟩ ∈ gw := gw_mem 861 (by decide +kernel) rfl
theorem m_863 : Cond.instanceMethod ⟨"FoldedFamilyModel", "kindAt", "(II)I"⟩ ∈ gw := gw_mem 863 (by decide +kernel) rfl
set_option maxRecDepth 100000 in
theorem m_864 : Cond.code ⟨"FoldedFamilyModel", "kindAt", "(II)I"⟩ prog_10_method_15_code 6 (some .int) ∈ gw := gw_mem 864 rfl rfl
theorem m_865 : Cond.methodLink "FoldedFamilyModel" 125 ⟨"FoldedFamilyModel", "rowsIn", "(I)I"⟩ ∈ gw := gw_mem 865 (by decide +kernel) rfl
theorem m_867 : Cond.instanceMethod ⟨"FoldedFamilyModel", "rowsIn", "(I)I"⟩ ∈ gw := gw_mem 867 (by decide +kernel) rfl
set_option maxRecDepth 100000 in
theorem m_868 : Cond.code ⟨"FoldedFamilyModel", "rowsIn", "(I)I"⟩ prog_10_method_16_code 4 (some .int) ∈ gw := gw_mem 868 rfl rfl
theorem m_869 : Cond.methodLink "FoldedFamilyModel" 129 ⟨"FoldedFamilyModel", "log", "(II)I"⟩ ∈ gw := gw_mem 869 (by decide +kernel) rfl
theorem m_870 : Cond.static ⟨"FoldedFamilyModel", "log", "(II)I"⟩ ∈ gw := gw_mem 870 (by decide +kernel) rfl
set_option maxRecDepth 100000 in
theorem m_871 : Cond.code ⟨"FoldedFamilyModel", "log", "(II)I"⟩ prog_10_method_14_code 7 (some .int) ∈ gw := gw_mem 871 rfl rfl
theorem m_872 : Cond.methodLink "FoldedFamilyModel" 109 ⟨"FoldedFamilyModel", "eighth", "(I)J"⟩ ∈ gw := gw_mem 872 (by decide +kernel) rfl
theorem m_873 : Cond.static ⟨"FoldedFamilyModel", "eighth", "(I)J"⟩ ∈ gw := gw_mem 873 (by decide +kernel) rfl
set_option maxRecDepth 100000 in
theorem m_874 : Cond.code ⟨"FoldedFamilyModel", "eighth", "(I)J"⟩ prog_10_method_13_code 4 (some .long) ∈ gw := gw_mem 874 rfl rfl
theorem m_875 : Cond.constantLong "FoldedFamilyModel" 113 (2) ∈ gw := gw_mem 875 (by decide +kernel) rfl
theorem m_876 : Cond.methodLink "FoldedFamilyModel" 147 ⟨"FoldedFamilyModel", "scoreLetters", "(I)V"⟩ ∈ gw := gw_mem 876 (by decide +kernel) rfl
theorem m_878 : Cond.instanceMethod ⟨"FoldedFamilyModel", "scoreLetters", "(I)V"⟩ ∈ gw := gw_mem 878 (by decide +kernel) rfl
set_option maxRecDepth 100000 in
theorem m_879 : Cond.code ⟨"FoldedFamilyModel", "scoreLetters", "(I)V"⟩ prog_10_method_19_code 10 none ∈ gw := gw_mem 879 rfl rfl
theorem m_880 : Cond.methodLink "FoldedFamilyLaw" 39 ⟨"FoldedFamilyModel", "kind", "(I)I"⟩ ∈ gw := gw_mem 880 (by decide +kernel) rfl
theorem m_881 : Cond.instanceMethod ⟨"FoldedFamilyModel", "kind", "(I)I"⟩ ∈ gw := gw_mem 881 (by decide +kernel) rfl
theorem m_882 : Cond.selects "FoldedFamilyModel" ⟨"FoldedFamilyModel", "kind", "(I)I"⟩ ⟨"FoldedFamilyModel", "kind", "(I)I"⟩ ∈ gw := gw_mem 882 (by decide +kernel) rfl
set_option maxRecDepth 100000 in
theorem m_883 : Cond.code ⟨"FoldedFamilyModel", "kind", "(I)I"⟩ prog_10_method_22_code 2 (some .int) ∈ gw := gw_mem 883 rfl rfl
theorem m_884 : Cond.methodLink "FoldedFamilyModel" 153 ⟨"FoldedFamilyModel", "isState", "(I)Z"⟩ ∈ gw := gw_mem 884 (by decide +kernel) rfl
theorem m_886 : Cond.instanceMethod ⟨"FoldedFamilyModel", "isState", "(I)Z"⟩ ∈ gw := gw_mem 886 (by decide +kernel) rfl
set_option maxRecDepth 100000 in
theorem m_887 : Cond.code ⟨"FoldedFamilyModel", "isState", "(I)Z"⟩ prog_10_method_21_code 2 (some .boolean) ∈ gw := gw_mem 887 rfl rfl
theorem m_888 : Cond.methodLink "FoldedFamilyLaw" 43 ⟨"FoldedFamilyModel", "node", "(I)I"⟩ ∈ gw := gw_mem 888 (by decide +kernel) rfl
theorem m_889 : Cond.instanceMethod ⟨"FoldedFamilyModel", "node", "(I)I"⟩ ∈ gw := gw_mem 889 (by decide +kernel) rfl
theorem m_890 : Cond.selects "FoldedFamilyModel" ⟨"FoldedFamilyModel", "node", "(I)I"⟩ ⟨"FoldedFamilyModel", "node", "(I)I"⟩ ∈ gw := gw_mem 890 (by decide +kernel) rfl
set_option maxRecDepth 100000 in
theorem m_891 : Cond.code ⟨"FoldedFamilyModel", "node", "(I)I"⟩ prog_10_method_23_code 2 (some .int) ∈ gw := gw_mem 891 rfl rfl
theorem m_892 : Cond.methodLink "FoldedFamilyLaw" 48 ⟨"FoldedFamilyModel", "target", "(II)I"⟩ ∈ gw := gw_mem 892 (by decide +kernel) rfl
theorem m_893 : Cond.instanceMethod ⟨"FoldedFamilyModel", "target", "(II)I"⟩ ∈ gw := gw_mem 893 (by decide +kernel) rfl
theorem m_894 : Cond.selects "FoldedFamilyModel" ⟨"FoldedFamilyModel", "target", "(II)I"⟩ ⟨"FoldedFamilyModel", "target", "(II)I"⟩ ∈ gw := gw_mem 894 (by decide +kernel) rfl
set_option maxRecDepth 100000 in
theorem m_895 : Cond.code ⟨"FoldedFamilyModel", "target", "(II)I"⟩ prog_10_method_24_code 4 (some .int) ∈ gw := gw_mem 895 rfl rfl
theorem m_896 : Cond.methodLink "FoldedFamilyLaw" 52 ⟨"FoldedFamilyModel", "step", "(II)I"⟩ ∈ gw := gw_mem 896 (by decide +kernel) rfl
theorem m_897 : Cond.instanceMethod ⟨"FoldedFamilyModel", "step", "(II)I"⟩ ∈ gw := gw_mem 897 (by decide +kernel) rfl
theorem m_898 : Cond.selects "FoldedFamilyModel" ⟨"FoldedFamilyModel", "step", "(II)I"⟩ ⟨"FoldedFamilyModel", "step", "(II)I"⟩ ∈ gw := gw_mem 898 (by decide +kernel) rfl
set_option maxRecDepth 100000 in
theorem m_899 : Cond.code ⟨"FoldedFamilyModel", "step", "(II)I"⟩ prog_10_method_25_code 3 (some .int) ∈ gw := gw_mem 899 rfl rfl
theorem m_900 : Cond.methodLink "FoldedFamilyLaw" 57 ⟨"FoldedFamilyModel", "emits", "(III)I"⟩ ∈ gw := gw_mem 900 (by decide +kernel) rfl
theorem m_901 : Cond.instanceMethod ⟨"FoldedFamilyModel", "emits", "(III)I"⟩ ∈ gw := gw_mem 901 (by decide +kernel) rfl
theorem m_902 : Cond.selects "FoldedFamilyModel" ⟨"FoldedFamilyModel", "emits", "(III)I"⟩ ⟨"FoldedFamilyModel", "emits", "(III)I"⟩ ∈ gw := gw_mem 902 (by decide +kernel) rfl
set_option maxRecDepth 100000 in
theorem m_903 : Cond.code ⟨"FoldedFamilyModel", "emits", "(III)I"⟩ prog_10_method_27_code 5 (some .int) ∈ gw := gw_mem 903 rfl rfl
theorem m_904 : Cond.methodLink "FoldedFamilyModel" 156 ⟨"FoldedFamilyModel", "isLetter", "(I)Z"⟩ ∈ gw := gw_mem 904 (by decide +kernel) rfl
theorem m_905 : Cond.static ⟨"FoldedFamilyModel", "isLetter", "(I)Z"⟩ ∈ gw := gw_mem 905 (by decide +kernel) rfl
set_option maxRecDepth 100000 in
theorem m_906 : Cond.code ⟨"FoldedFamilyModel", "isLetter", "(I)Z"⟩ prog_10_method_26_code 1 (some .boolean) ∈ gw := gw_mem 906 rfl rfl
theorem m_907 : Cond.methodLink "FoldedFamilyLaw" 61 ⟨"FoldedFamilyModel", "feed", "(II)I"⟩ ∈ gw := gw_mem 907 (by decide +kernel) rfl
theorem m_908 : Cond.instanceMethod ⟨"FoldedFamilyModel", "feed", "(II)I"⟩ ∈ gw := gw_mem 908 (by decide +kernel) rfl
theorem m_909 : Cond.selects "FoldedFamilyModel" ⟨"FoldedFamilyModel", "feed", "(II)I"⟩ ⟨"FoldedFamilyModel", "feed", "(II)I"⟩ ∈ gw := gw_mem 909 (by decide +kernel) rfl
set_option maxRecDepth 100000 in
theorem m_910 : Cond.code ⟨"FoldedFamilyModel", "feed", "(II)I"⟩ prog_10_method_28_code 4 (some .int) ∈ gw := gw_mem 910 rfl rfl
theorem m_911 : Cond.methodLink "FoldedFamilyLaw" 65 ⟨"FoldedFamilyModel", "erase", "()V"⟩ ∈ gw := gw_mem 911 (by decide +kernel) rfl
theorem m_912 : Cond.instanceMethod ⟨"FoldedFamilyModel", "erase", "()V"⟩ ∈ gw := gw_mem 912 (by decide +kernel) rfl
theorem m_913 : Cond.selects "FoldedFamilyModel" ⟨"FoldedFamilyModel", "erase", "()V"⟩ ⟨"FoldedFamilyModel", "erase", "()V"⟩ ∈ gw := gw_mem 913 (by decide +kernel) rfl
set_option maxRecDepth 100000 in
theorem m_914 : Cond.code ⟨"FoldedFamilyModel", "erase", "()V"⟩ prog_10_method_29_code 1 none ∈ gw := gw_mem 914 rfl rfl
theorem m_915 : Cond.methodLink "FoldedFamilyLaw" 69 ⟨"FoldedFamilyModel", "value", "(III)I"⟩ ∈ gw := gw_mem 915 (by decide +kernel) rfl
theorem m_916 : Cond.instanceMethod ⟨"FoldedFamilyModel", "value", "(III)I"⟩ ∈ gw := gw_mem 916 (by decide +kernel) rfl
theorem m_917 : Cond.selects "FoldedFamilyModel" ⟨"FoldedFamilyModel", "value", "(III)I"⟩ ⟨"FoldedFamilyModel", "value", "(III)I"⟩ ∈ gw := gw_mem 917 (by decide +kernel) rfl
set_option maxRecDepth 100000 in
theorem m_918 : Cond.code ⟨"FoldedFamilyModel", "value", "(III)I"⟩ prog_10_method_38_code 4 (some .int) ∈ gw := gw_mem 918 rfl rfl
theorem m_919 : Cond.methodLink "FoldedFamilyModel" 183 ⟨"FoldedFamilyModel", "work", "()V"⟩ ∈ gw := gw_mem 919 (by decide +kernel) rfl
theorem m_921 : Cond.instanceMethod ⟨"FoldedFamilyModel", "work", "()V"⟩ ∈ gw := gw_mem 921 (by decide +kernel) rfl
set_option maxRecDepth 100000 in
theorem m_922 : Cond.code ⟨"FoldedFamilyModel", "work", "()V"⟩ prog_10_method_37_code 6 none ∈ gw := gw_mem 922 rfl rfl
theorem m_923 : Cond.methodLink "FoldedFamilyModel" 180 ⟨"FoldedFamilyModel", "better", "(III)I"⟩ ∈ gw := gw_mem 923 (by decide +kernel) rfl
theorem m_925 : Cond.instanceMethod ⟨"FoldedFamilyModel", "better", "(III)I"⟩ ∈ gw := gw_mem 925 (by decide +kernel) rfl
set_option maxRecDepth 100000 in
theorem m_926 : Cond.code ⟨"FoldedFamilyModel", "better", "(III)I"⟩ prog_10_method_36_code 7 (some .int) ∈ gw := gw_mem 926 rfl rfl
theorem m_927 : Cond.methodLink "FoldedFamilyModel" 174 ⟨"FoldedFamilyModel", "by", "(IIII)I"⟩ ∈ gw := gw_mem 927 (by decide +kernel) rfl
theorem m_929 : Cond.instanceMethod ⟨"FoldedFamilyModel", "by", "(IIII)I"⟩ ∈ gw := gw_mem 929 (by decide +kernel) rfl
set_option maxRecDepth 100000 in
theorem m_930 : Cond.code ⟨"FoldedFamilyModel", "by", "(IIII)I"⟩ prog_10_method_34_code 10 (some .int) ∈ gw := gw_mem 930 rfl rfl
theorem m_931 : Cond.methodLink "FoldedFamilyModel" 162 ⟨"FoldedFamilyModel", "emitsLeft", "(I)Z"⟩ ∈ gw := gw_mem 931 (by decide +kernel) rfl
theorem m_932 : Cond.static ⟨"FoldedFamilyModel", "emitsLeft", "(I)Z"⟩ ∈ gw := gw_mem 932 (by decide +kernel) rfl
set_option maxRecDepth 100000 in
theorem m_933 : Cond.code ⟨"FoldedFamilyModel", "emitsLeft", "(I)Z"⟩ prog_10_method_31_code 1 (some .boolean) ∈ gw := gw_mem 933 rfl rfl
theorem m_934 : Cond.methodLink "FoldedFamilyModel" 165 ⟨"FoldedFamilyModel", "emitsRight", "(I)Z"⟩ ∈ gw := gw_mem 934 (by decide +kernel) rfl
theorem m_935 : Cond.static ⟨"FoldedFamilyModel", "emitsRight", "(I)Z"⟩ ∈ gw := gw_mem 935 (by decide +kernel) rfl
set_option maxRecDepth 100000 in
theorem m_936 : Cond.code ⟨"FoldedFamilyModel", "emitsRight", "(I)Z"⟩ prog_10_method_32_code 1 (some .boolean) ∈ gw := gw_mem 936 rfl rfl
theorem m_937 : Cond.methodLink "FoldedFamilyModel" 168 ⟨"FoldedFamilyModel", "cell", "(III)I"⟩ ∈ gw := gw_mem 937 (by decide +kernel) rfl
theorem m_938 : Cond.static ⟨"FoldedFamilyModel", "cell", "(III)I"⟩ ∈ gw := gw_mem 938 (by decide +kernel) rfl
set_option maxRecDepth 100000 in
theorem m_939 : Cond.code ⟨"FoldedFamilyModel", "cell", "(III)I"⟩ prog_10_method_30_code 3 (some .int) ∈ gw := gw_mem 939 rfl rfl
theorem m_940 : Cond.methodLink "FoldedFamilyModel" 171 ⟨"FoldedFamilyModel", "letterScore", "(III)I"⟩ ∈ gw := gw_mem 940 (by decide +kernel) rfl
theorem m_942 : Cond.instanceMethod ⟨"FoldedFamilyModel", "letterScore", "(III)I"⟩ ∈ gw := gw_mem 942 (by decide +kernel) rfl
set_option maxRecDepth 100000 in
theorem m_943 : Cond.code ⟨"FoldedFamilyModel", "letterScore", "(III)I"⟩ prog_10_method_33_code 6 (some .int) ∈ gw := gw_mem 943 rfl rfl
theorem m_944 : Cond.methodLink "FoldedFamilyModel" 177 ⟨"FoldedFamilyModel", "bySplit", "(IIII)I"⟩ ∈ gw := gw_mem 944 (by decide +kernel) rfl
theorem m_946 : Cond.instanceMethod ⟨"FoldedFamilyModel", "bySplit", "(IIII)I"⟩ ∈ gw := gw_mem 946 (by decide +kernel) rfl
set_option maxRecDepth 100000 in
theorem m_947 : Cond.code ⟨"FoldedFamilyModel", "bySplit", "(IIII)I"⟩ prog_10_method_35_code 7 (some .int) ∈ gw := gw_mem 947 rfl rfl
theorem m_948 : Cond.methodLink "FoldedFamilyLaw" 73 ⟨"FoldedFamilyModel", "scan", "(II)I"⟩ ∈ gw := gw_mem 948 (by decide +kernel) rfl
theorem m_949 : Cond.instanceMethod ⟨"FoldedFamilyModel", "scan", "(II)I"⟩ ∈ gw := gw_mem 949 (by decide +kernel) rfl
theorem m_950 : Cond.selects "FoldedFamilyModel" ⟨"FoldedFamilyModel", "scan", "(II)I"⟩ ⟨"FoldedFamilyModel", "scan", "(II)I"⟩ ∈ gw := gw_mem 950 (by decide +kernel) rfl
set_option maxRecDepth 100000 in
theorem m_951 : Cond.code ⟨"FoldedFamilyModel", "scan", "(II)I"⟩ prog_10_method_40_code 10 (some .int) ∈ gw := gw_mem 951 rfl rfl
theorem m_952 : Cond.methodLink "FoldedFamilyModel" 186 ⟨"FoldedFamilyModel", "free", "(II)Z"⟩ ∈ gw := gw_mem 952 (by decide +kernel) rfl
theorem m_954 : Cond.instanceMethod ⟨"FoldedFamilyModel", "free", "(II)Z"⟩ ∈ gw := gw_mem 954 (by decide +kernel) rfl
set_option maxRecDepth 100000 in
theorem m_955 : Cond.code ⟨"FoldedFamilyModel", "free", "(II)Z"⟩ prog_10_method_39_code 5 (some .boolean) ∈ gw := gw_mem 955 rfl rfl
theorem m_956 : Cond.methodLink "FoldedFamilyLaw" 77 ⟨"FoldedFamilyModel", "hit", "(II)I"⟩ ∈ gw := gw_mem 956 (by decide +kernel) rfl
theorem m_957 : Cond.instanceMethod ⟨"FoldedFamilyModel", "hit", "(II)I"⟩ ∈ gw := gw_mem 957 (by decide +kernel) rfl
theorem m_958 : Cond.selects "FoldedFamilyModel" ⟨"FoldedFamilyModel", "hit", "(II)I"⟩ ⟨"FoldedFamilyModel", "hit", "(II)I"⟩ ∈ gw := gw_mem 958 (by decide +kernel) rfl
set_option maxRecDepth 100000 in
theorem m_959 : Cond.code ⟨"FoldedFamilyModel", "hit", "(II)I"⟩ prog_10_method_42_code 3 (some .int) ∈ gw := gw_mem 959 rfl rfl
theorem m_960 : Cond.methodLink "FoldedFamilyModel" 193 ⟨"FoldedFamilyModel", "write", "(I)V"⟩ ∈ gw := gw_mem 960 (by decide +kernel) rfl
theorem m_962 : Cond.instanceMethod ⟨"FoldedFamilyModel", "write", "(I)V"⟩ ∈ gw := gw_mem 962 (by decide +kernel) rfl
set_option maxRecDepth 100000 in
theorem m_963 : Cond.code ⟨"FoldedFamilyModel", "write", "(I)V"⟩ prog_10_method_41_code 10 none ∈ gw := gw_mem 963 rfl rfl
theorem m_964 : Cond.methodLink "FoldedFamilyLaw" 81 ⟨"FoldedFamilyModel", "derived", "(III)I"⟩ ∈ gw := gw_mem 964 (by decide +kernel) rfl
theorem m_965 : Cond.instanceMethod ⟨"FoldedFamilyModel", "derived", "(III)I"⟩ ∈ gw := gw_mem 965 (by decide +kernel) rfl
theorem m_966 : Cond.selects "FoldedFamilyModel" ⟨"FoldedFamilyModel", "derived", "(III)I"⟩ ⟨"FoldedFamilyModel", "derived", "(III)I"⟩ ∈ gw := gw_mem 966 (by decide +kernel) rfl
set_option maxRecDepth 100000 in
theorem m_967 : Cond.code ⟨"FoldedFamilyModel", "derived", "(III)I"⟩ prog_10_method_43_code 4 (some .int) ∈ gw := gw_mem 967 rfl rfl
theorem m_arr0 : Cond.arrayClass .int ∈ gw := gw_mem 100 (by decide +kernel) rfl
theorem m_arr1 : Cond.arrayClass .char ∈ gw := gw_mem 99 (by decide +kernel) rfl
theorem m_arr2 : Cond.arrayClass .boolean ∈ gw := gw_mem 220 (by decide +kernel) rfl
set_option maxRecDepth 100000 in
theorem m_objcode : Cond.code objectInit ⟨#[0xb1]⟩ 1 none ∈ gw := gw_mem 67 rfl rfl
theorem z_Co_32 : xSN R_Co 32 "FoldedFamily" y_Fa_isLetter prog_1_method_18_code 1 (some .boolean) 1 := ⟨m_279, List.mem_of_getElem? (i := 3) rfl, m_278, m_49, ⟨by decide +kernel, by decide +kernel, by decide +kernel⟩⟩
theorem z_Fa_193 : xV R_Fa 193 R_Gr y_Gr_forget prog_4_method_3_code 1 none 0 := ⟨m_287, m_284, m_285, m_286, m_53, ⟨by decide +kernel, by decide +kernel, by decide +kernel⟩⟩
theorem z_Fa_106 : xV R_Fa 106 R_Hi y_Hi_forget prog_5_method_3_code 1 none 0 := ⟨m_291, m_288, m_289, m_290, m_56, ⟨by decide +kernel, by decide +kernel, by decide +kernel⟩⟩
theorem z_Fa_75 : xSt R_Fa 75 y_Fa_isMark prog_1_method_17_code 1 (some .boolean) 1 := ⟨m_268, m_266, m_267, m_49, ⟨by decide +kernel, by decide +kernel, by decide +kernel⟩⟩
theorem z_Fa_79 : xV R_Fa 79 R_Co y_Co_isFull prog_2_method_3_code 1 (some .boolean) 0 := ⟨m_272, m_269, m_270, m_271, m_50, ⟨by decide +kernel, by decide +kernel, by decide +kernel⟩⟩
theorem z_Fa_83 : xV R_Fa 83 R_Co y_Co_add prog_2_method_4_code 5 none 2 := ⟨m_276, m_273, m_274, m_275, m_50, ⟨by decide +kernel, by decide +kernel, by decide +kernel⟩⟩
theorem z_Fa_87 : xV R_Fa 87 R_Fa y_Fa_dropGrammar prog_1_method_16_code 1 none 0 := ⟨m_283, m_280, m_282, m_0, m_49, ⟨by decide +kernel, by decide +kernel, by decide +kernel⟩⟩
theorem z_Fa_90 : xV R_Fa 90 R_Co y_Co_removeAll prog_2_method_5_code 1 none 0 := ⟨m_299, m_296, m_297, m_298, m_50, ⟨by decide +kernel, by decide +kernel, by decide +kernel⟩⟩
theorem z_Tr_45 : xV R_Tr 45 R_Co y_Co_isPaired prog_2_method_7_code 2 (some .boolean) 1 := ⟨m_328, m_325, m_326, m_327, m_50, ⟨by decide +kernel, by decide +kernel, by decide +kernel⟩⟩
theorem z_Tr_49 : xV R_Tr 49 R_Co y_Co_partner prog_2_method_8_code 2 (some .int) 1 := ⟨m_332, m_329, m_330, m_331, m_50, ⟨by decide +kernel, by decide +kernel, by decide +kernel⟩⟩
theorem z_Tr_53 : xV R_Tr 53 R_Tr y_Tr_growFork prog_7_method_9_code 6 none 3 := ⟨m_336, m_333, m_335, m_3, m_52, ⟨by decide +kernel, by decide +kernel, by decide +kernel⟩⟩
theorem z_Tr_32 : xV R_Tr 32 R_Tr y_Tr_add prog_7_method_10_code 4 none 3 := ⟨m_316, m_313, m_315, m_1, m_52, ⟨by decide +kernel, by decide +kernel, by decide +kernel⟩⟩
theorem z_Tr_42 : xV R_Tr 42 R_Tr y_Tr_growPart prog_7_method_8_code 4 none 3 := ⟨m_324, m_321, m_323, m_2, m_52, ⟨by decide +kernel, by decide +kernel, by decide +kernel⟩⟩
theorem z_Tr_36 : xV R_Tr 36 R_Co y_Co_count prog_2_method_2_code 1 (some .int) 0 := ⟨m_320, m_317, m_318, m_319, m_50, ⟨by decide +kernel, by decide +kernel, by decide +kernel⟩⟩
theorem z_Co_36 : xV R_Co 36 R_Co y_Co_rowsWith prog_2_method_10_code 3 (some .int) 2 := ⟨m_391, m_388, m_389, m_390, m_50, ⟨by decide +kernel, by decide +kernel, by decide +kernel⟩⟩
theorem z_Gr_82 : xV R_Gr 82 R_Co y_Co_allRows prog_2_method_9_code 1 (some .int) 0 := ⟨m_379, m_376, m_377, m_378, m_50, ⟨by decide +kernel, by decide +kernel, by decide +kernel⟩⟩
theorem z_Gr_87 : xV R_Gr 87 R_Tr y_Tr_left prog_7_method_4_code 2 (some .int) 1 := ⟨m_383, m_380, m_381, m_382, m_52, ⟨by decide +kernel, by decide +kernel, by decide +kernel⟩⟩
theorem z_Gr_90 : xV R_Gr 90 R_Co y_Co_rowsWithAny prog_2_method_11_code 4 (some .int) 1 := ⟨m_387, m_384, m_385, m_386, m_50, ⟨by decide +kernel, by decide +kernel, by decide +kernel⟩⟩
theorem z_Gr_93 : xV R_Gr 93 R_Tr y_Tr_right prog_7_method_5_code 2 (some .int) 1 := ⟨m_395, m_392, m_393, m_394, m_52, ⟨by decide +kernel, by decide +kernel, by decide +kernel⟩⟩
theorem z_Gr_65 : xV R_Gr 65 R_Tr y_Tr_size prog_7_method_2_code 1 (some .int) 0 := ⟨m_348, m_345, m_346, m_347, m_52, ⟨by decide +kernel, by decide +kernel, by decide +kernel⟩⟩
theorem z_Gr_70 : xV R_Gr 70 R_Tr y_Tr_kindOf prog_7_method_3_code 2 (some .int) 1 := ⟨m_352, m_349, m_350, m_351, m_52, ⟨by decide +kernel, by decide +kernel, by decide +kernel⟩⟩
theorem z_Gr_74 : xSN R_Gr 74 "FoldedFamily" y_Fa_statesOf prog_1_method_23_code 1 (some (.array .int)) 1 := ⟨m_355, List.mem_of_getElem? (i := 4) rfl, m_354, m_49, ⟨by decide +kernel, by decide +kernel, by decide +kernel⟩⟩
theorem z_Gr_78 : xV R_Gr 78 R_Gr y_Gr_rowsIn prog_4_method_14_code 6 (some .int) 2 := ⟨m_375, m_372, m_374, m_5, m_53, ⟨by decide +kernel, by decide +kernel, by decide +kernel⟩⟩
theorem z_Gr_107 : xSN R_Gr 107 "FoldedFamily" y_Fa_isInsert prog_1_method_19_code 1 (some .boolean) 1 := ⟨m_414, List.mem_of_getElem? (i := 5) rfl, m_413, m_49, ⟨by decide +kernel, by decide +kernel, by decide +kernel⟩⟩
theorem z_Gr_96 : xV R_Gr 96 R_Gr y_Gr_addTarget prog_4_method_17_code 3 none 2 := ⟨m_403, m_400, m_402, m_7, m_53, ⟨by decide +kernel, by decide +kernel, by decide +kernel⟩⟩
theorem z_Gr_103 : xV R_Gr 103 R_Gr y_Gr_addStates prog_4_method_16_code 5 none 3 := ⟨m_411, m_408, m_410, m_8, m_53, ⟨by decide +kernel, by decide +kernel, by decide +kernel⟩⟩
theorem z_Gr_100 : xV R_Gr 100 R_Tr y_Tr_second prog_7_method_6_code 2 (some .int) 1 := ⟨m_407, m_404, m_405, m_406, m_52, ⟨by decide +kernel, by decide +kernel, by decide +kernel⟩⟩
theorem z_Fa_225 : xSt R_Fa 225 y_Fa_eighthPower prog_1_method_25_code 5 (some .long) 1 := ⟨m_434, m_432, m_433, m_49, ⟨by decide +kernel, by decide +kernel, by decide +kernel⟩⟩
theorem z_Gr_110 : xSt R_Gr 110 y_Ig_bitCount prog_11_method_49_code 1 (some .int) 1 := ⟨m_421, m_419, m_420, m_59, ⟨by decide +kernel, by decide +kernel, by decide +kernel⟩⟩
theorem z_Gr_115 : xV R_Gr 115 R_Gr y_Gr_targetOf prog_4_method_9_code 3 (some .int) 2 := ⟨m_428, m_425, m_426, m_427, m_53, ⟨by decide +kernel, by decide +kernel, by decide +kernel⟩⟩
theorem z_Gr_118 : xSN R_Gr 118 "FoldedFamily" y_Fa_log prog_1_method_24_code 7 (some .int) 2 := ⟨m_431, List.mem_of_getElem? (i := 6) rfl, m_430, m_49, ⟨by decide +kernel, by decide +kernel, by decide +kernel⟩⟩
theorem z_Fa_194 : xSt R_Fa 194 y_Fa_lettersBefore prog_1_method_20_code 1 (some .int) 1 := ⟨m_445, m_443, m_444, m_49, ⟨by decide +kernel, by decide +kernel, by decide +kernel⟩⟩
theorem z_Fa_197 : xSt R_Fa 197 y_Fa_lettersBehind prog_1_method_21_code 1 (some .int) 1 := ⟨m_448, m_446, m_447, m_49, ⟨by decide +kernel, by decide +kernel, by decide +kernel⟩⟩
theorem z_Gr_131 : xV R_Gr 131 R_Co y_Co_rowsWith prog_2_method_10_code 3 (some .int) 2 := ⟨m_391, m_457, m_389, m_390, m_50, ⟨by decide +kernel, by decide +kernel, by decide +kernel⟩⟩
theorem z_Gr_128 : xV R_Gr 128 R_Gr y_Gr_rowsWithLetters prog_4_method_21_code 6 (some .int) 3 := ⟨m_456, m_453, m_455, m_12, m_53, ⟨by decide +kernel, by decide +kernel, by decide +kernel⟩⟩
theorem z_Gr_121 : xSN R_Gr 121 "FoldedFamily" y_Fa_lettersOf prog_1_method_22_code 1 (some .int) 1 := ⟨m_442, List.mem_of_getElem? (i := 7) rfl, m_441, m_49, ⟨by decide +kernel, by decide +kernel, by decide +kernel⟩⟩
theorem z_Gr_124 : xV R_Gr 124 R_Gr y_Gr_scoreOfLetters prog_4_method_20_code 6 (some .int) 3 := ⟨m_452, m_449, m_451, m_11, m_53, ⟨by decide +kernel, by decide +kernel, by decide +kernel⟩⟩
theorem z_Gr_52 : xV R_Gr 52 R_Gr y_Gr_layStates prog_4_method_13_code 4 none 0 := ⟨m_344, m_341, m_343, m_4, m_53, ⟨by decide +kernel, by decide +kernel, by decide +kernel⟩⟩
theorem z_Gr_55 : xV R_Gr 55 R_Gr y_Gr_addTargets prog_4_method_15_code 3 none 1 := ⟨m_399, m_396, m_398, m_6, m_53, ⟨by decide +kernel, by decide +kernel, by decide +kernel⟩⟩
theorem z_Gr_59 : xV R_Gr 59 R_Gr y_Gr_scoreSteps prog_4_method_18_code 5 none 1 := ⟨m_418, m_415, m_417, m_9, m_53, ⟨by decide +kernel, by decide +kernel, by decide +kernel⟩⟩
theorem z_Gr_62 : xV R_Gr 62 R_Gr y_Gr_scoreLetters prog_4_method_19_code 5 none 1 := ⟨m_439, m_436, m_438, m_10, m_53, ⟨by decide +kernel, by decide +kernel, by decide +kernel⟩⟩
theorem z_Fa_93 : xV R_Fa 93 R_Co y_Co_pairUp prog_2_method_6_code 3 (some .boolean) 0 := ⟨m_307, m_304, m_305, m_306, m_50, ⟨by decide +kernel, by decide +kernel, by decide +kernel⟩⟩
theorem z_Fa_97 : xV R_Fa 97 R_Tr y_Tr_grow prog_7_method_7_code 1 none 0 := ⟨m_312, m_309, m_310, m_311, m_52, ⟨by decide +kernel, by decide +kernel, by decide +kernel⟩⟩
theorem z_Fa_100 : xV R_Fa 100 R_Gr y_Gr_make prog_4_method_12_code 2 none 0 := ⟨m_340, m_337, m_338, m_339, m_53, ⟨by decide +kernel, by decide +kernel, by decide +kernel⟩⟩
theorem z_Fa_103 : xV R_Fa 103 R_Va y_Va_forget prog_8_method_3_code 1 none 0 := ⟨m_461, m_458, m_459, m_460, m_55, ⟨by decide +kernel, by decide +kernel, by decide +kernel⟩⟩
theorem z_Fa_107 : xV R_Fa 107 R_Gr y_Gr_size prog_4_method_2_code 1 (some .int) 0 := ⟨m_465, m_462, m_463, m_464, m_53, ⟨by decide +kernel, by decide +kernel, by decide +kernel⟩⟩
theorem z_Fa_111 : xV R_Fa 111 R_Gr y_Gr_hasState prog_4_method_4_code 2 (some .boolean) 1 := ⟨m_473, m_470, m_471, m_472, m_53, ⟨by decide +kernel, by decide +kernel, by decide +kernel⟩⟩
theorem z_Fa_115 : xV R_Fa 115 R_Gr y_Gr_kindOf prog_4_method_5_code 2 (some .int) 1 := ⟨m_477, m_474, m_475, m_476, m_53, ⟨by decide +kernel, by decide +kernel, by decide +kernel⟩⟩
theorem z_Fa_119 : xV R_Fa 119 R_Gr y_Gr_nodeOf prog_4_method_6_code 2 (some .int) 1 := ⟨m_485, m_482, m_483, m_484, m_53, ⟨by decide +kernel, by decide +kernel, by decide +kernel⟩⟩
theorem z_Gr_48 : xV R_Gr 48 R_Gr y_Gr_hasState prog_4_method_4_code 2 (some .boolean) 1 := ⟨m_473, m_494, m_471, m_472, m_53, ⟨by decide +kernel, by decide +kernel, by decide +kernel⟩⟩
theorem z_Fa_122 : xV R_Fa 122 R_Gr y_Gr_hasTarget prog_4_method_7_code 3 (some .boolean) 2 := ⟨m_493, m_490, m_491, m_492, m_53, ⟨by decide +kernel, by decide +kernel, by decide +kernel⟩⟩
theorem z_Fa_126 : xV R_Fa 126 R_Gr y_Gr_targetOf prog_4_method_9_code 3 (some .int) 2 := ⟨m_428, m_495, m_426, m_427, m_53, ⟨by decide +kernel, by decide +kernel, by decide +kernel⟩⟩
theorem z_Fa_129 : xV R_Fa 129 R_Gr y_Gr_stepScore prog_4_method_10_code 3 (some .int) 2 := ⟨m_503, m_500, m_501, m_502, m_53, ⟨by decide +kernel, by decide +kernel, by decide +kernel⟩⟩
theorem z_Fa_132 : xSt R_Fa 132 y_Fa_isLetter prog_1_method_18_code 1 (some .boolean) 1 := ⟨m_279, m_508, m_278, m_49, ⟨by decide +kernel, by decide +kernel, by decide +kernel⟩⟩
theorem z_Fa_139 : xSt R_Fa 139 y_Fa_lettersOf prog_1_method_22_code 1 (some .int) 1 := ⟨m_442, m_513, m_441, m_49, ⟨by decide +kernel, by decide +kernel, by decide +kernel⟩⟩
theorem z_Fa_135 : xV R_Fa 135 R_Gr y_Gr_letterScore prog_4_method_11_code 4 (some .int) 3 := ⟨m_512, m_509, m_510, m_511, m_53, ⟨by decide +kernel, by decide +kernel, by decide +kernel⟩⟩
theorem z_Fa_142 : xV R_Fa 142 R_Tx y_Tx_room prog_6_method_3_code 1 (some .int) 0 := ⟨m_521, m_518, m_519, m_520, m_54, ⟨by decide +kernel, by decide +kernel, by decide +kernel⟩⟩
theorem z_Fa_145 : xV R_Fa 145 R_Tx y_Tx_append prog_6_method_6_code 4 none 2 := ⟨m_525, m_522, m_523, m_524, m_54, ⟨by decide +kernel, by decide +kernel, by decide +kernel⟩⟩
theorem z_Fa_149 : xV R_Fa 149 R_Tx y_Tx_length prog_6_method_2_code 1 (some .int) 0 := ⟨m_529, m_526, m_527, m_528, m_54, ⟨by decide +kernel, by decide +kernel, by decide +kernel⟩⟩
theorem z_Fa_152 : xV R_Fa 152 R_Tx y_Tx_empty prog_6_method_7_code 1 none 0 := ⟨m_537, m_534, m_535, m_536, m_54, ⟨by decide +kernel, by decide +kernel, by decide +kernel⟩⟩
theorem z_Va_38 : xSt R_Va 38 y_Va_place prog_8_method_14_code 3 (some .int) 3 := ⟨m_554, m_552, m_553, m_55, ⟨by decide +kernel, by decide +kernel, by decide +kernel⟩⟩
theorem z_Va_84 : xV R_Va 84 R_Gr y_Gr_targetOf prog_4_method_9_code 3 (some .int) 2 := ⟨m_428, m_569, m_426, m_427, m_53, ⟨by decide +kernel, by decide +kernel, by decide +kernel⟩⟩
theorem z_Va_45 : xV R_Va 45 R_Va y_Va_of prog_8_method_5_code 4 (some .int) 3 := ⟨m_573, m_570, m_571, m_572, m_55, ⟨by decide +kernel, by decide +kernel, by decide +kernel⟩⟩
theorem z_Va_87 : xV R_Va 87 R_Gr y_Gr_stepScore prog_4_method_10_code 3 (some .int) 2 := ⟨m_503, m_589, m_501, m_502, m_53, ⟨by decide +kernel, by decide +kernel, by decide +kernel⟩⟩
theorem z_Va_49 : xV R_Va 49 R_Gr y_Gr_kindOf prog_4_method_5_code 2 (some .int) 1 := ⟨m_477, m_559, m_475, m_476, m_53, ⟨by decide +kernel, by decide +kernel, by decide +kernel⟩⟩
theorem z_Va_90 : xV R_Va 90 R_Tx y_Tx_letter prog_6_method_4_code 2 (some .int) 1 := ⟨m_597, m_594, m_595, m_596, m_54, ⟨by decide +kernel, by decide +kernel, by decide +kernel⟩⟩
theorem z_Va_93 : xV R_Va 93 R_Gr y_Gr_letterScore prog_4_method_11_code 4 (some .int) 3 := ⟨m_512, m_598, m_510, m_511, m_53, ⟨by decide +kernel, by decide +kernel, by decide +kernel⟩⟩
theorem z_Va_59 : xSN R_Va 59 "FoldedFamily" y_Fa_lettersBefore prog_1_method_20_code 1 (some .int) 1 := ⟨m_445, List.mem_of_getElem? (i := 8) rfl, m_444, m_49, ⟨by decide +kernel, by decide +kernel, by decide +kernel⟩⟩
theorem z_Va_62 : xSN R_Va 62 "FoldedFamily" y_Fa_lettersOf prog_1_method_22_code 1 (some .int) 1 := ⟨m_442, List.mem_of_getElem? (i := 9) rfl, m_441, m_49, ⟨by decide +kernel, by decide +kernel, by decide +kernel⟩⟩
theorem z_Va_56 : xV R_Va 56 R_Gr y_Gr_targetCount prog_4_method_8_code 2 (some .int) 1 := ⟨m_584, m_581, m_582, m_583, m_53, ⟨by decide +kernel, by decide +kernel, by decide +kernel⟩⟩
theorem z_Va_65 : xV R_Va 65 R_Va y_Va_throughTarget prog_8_method_12_code 6 (some .int) 4 := ⟨m_588, m_585, m_587, m_17, m_55, ⟨by decide +kernel, by decide +kernel, by decide +kernel⟩⟩
theorem z_Va_53 : xV R_Va 53 R_Va y_Va_emitted prog_8_method_13_code 4 (some .int) 3 := ⟨m_593, m_590, m_592, m_18, m_55, ⟨by decide +kernel, by decide +kernel, by decide +kernel⟩⟩
theorem z_Va_69 : xV R_Va 69 R_Va y_Va_throughSplit prog_8_method_11_code 7 (some .int) 4 := ⟨m_568, m_565, m_567, m_15, m_55, ⟨by decide +kernel, by decide +kernel, by decide +kernel⟩⟩
theorem z_Va_72 : xV R_Va 72 R_Va y_Va_greatestOfSplits prog_8_method_9_code 6 (some .int) 3 := ⟨m_564, m_561, m_563, m_14, m_55, ⟨by decide +kernel, by decide +kernel, by decide +kernel⟩⟩
theorem z_Va_75 : xV R_Va 75 R_Va y_Va_greatestOfTargets prog_8_method_10_code 9 (some .int) 3 := ⟨m_578, m_575, m_577, m_16, m_55, ⟨by decide +kernel, by decide +kernel, by decide +kernel⟩⟩
theorem z_Va_27 : xV R_Va 27 R_Tx y_Tx_length prog_6_method_2_code 1 (some .int) 0 := ⟨m_529, m_550, m_527, m_528, m_54, ⟨by decide +kernel, by decide +kernel, by decide +kernel⟩⟩
theorem z_Va_33 : xV R_Va 33 R_Gr y_Gr_size prog_4_method_2_code 1 (some .int) 0 := ⟨m_465, m_551, m_463, m_464, m_53, ⟨by decide +kernel, by decide +kernel, by decide +kernel⟩⟩
theorem z_Va_42 : xV R_Va 42 R_Va y_Va_reckon prog_8_method_8_code 4 (some .int) 3 := ⟨m_558, m_555, m_557, m_13, m_55, ⟨by decide +kernel, by decide +kernel, by decide +kernel⟩⟩
theorem z_Fa_155 : xV R_Fa 155 R_Tx y_Tx_hasPart prog_6_method_5_code 3 (some .boolean) 2 := ⟨m_545, m_542, m_543, m_544, m_54, ⟨by decide +kernel, by decide +kernel, by decide +kernel⟩⟩
theorem z_Fa_158 : xV R_Fa 158 R_Va y_Va_catchUp prog_8_method_4_code 4 none 0 := ⟨m_549, m_546, m_547, m_548, m_55, ⟨by decide +kernel, by decide +kernel, by decide +kernel⟩⟩
theorem z_Fa_161 : xV R_Fa 161 R_Va y_Va_of prog_8_method_5_code 4 (some .int) 3 := ⟨m_573, m_599, m_571, m_572, m_55, ⟨by decide +kernel, by decide +kernel, by decide +kernel⟩⟩
theorem z_Hi_39 : xV R_Hi 39 R_Hi y_Hi_freeEnd prog_5_method_10_code 4 (some .int) 2 := ⟨m_616, m_613, m_615, m_20, m_56, ⟨by decide +kernel, by decide +kernel, by decide +kernel⟩⟩
theorem z_Hi_42 : xV R_Hi 42 R_Va y_Va_of prog_8_method_5_code 4 (some .int) 3 := ⟨m_573, m_617, m_571, m_572, m_55, ⟨by decide +kernel, by decide +kernel, by decide +kernel⟩⟩
theorem z_Hi_49 : xV R_Hi 49 R_Hi y_Hi_note prog_5_method_11_code 4 none 3 := ⟨m_622, m_619, m_621, m_21, m_56, ⟨by decide +kernel, by decide +kernel, by decide +kernel⟩⟩
theorem z_Hi_53 : xV R_Hi 53 R_Hi y_Hi_takeNoted prog_5_method_12_code 2 none 0 := ⟨m_626, m_623, m_625, m_22, m_56, ⟨by decide +kernel, by decide +kernel, by decide +kernel⟩⟩
theorem z_Hi_29 : xV R_Hi 29 R_Hi y_Hi_findNext prog_5_method_9_code 10 (some .boolean) 4 := ⟨m_611, m_608, m_610, m_19, m_56, ⟨by decide +kernel, by decide +kernel, by decide +kernel⟩⟩
theorem z_Fa_164 : xV R_Fa 164 R_Hi y_Hi_find prog_5_method_8_code 7 none 4 := ⟨m_607, m_604, m_605, m_606, m_56, ⟨by decide +kernel, by decide +kernel, by decide +kernel⟩⟩
theorem z_Fa_168 : xV R_Fa 168 R_Hi y_Hi_count prog_5_method_2_code 1 (some .int) 0 := ⟨m_630, m_627, m_628, m_629, m_56, ⟨by decide +kernel, by decide +kernel, by decide +kernel⟩⟩
theorem z_De_29 : xV R_De 29 R_De y_De_note prog_3_method_10_code 4 none 3 := ⟨m_662, m_659, m_661, m_24, m_57, ⟨by decide +kernel, by decide +kernel, by decide +kernel⟩⟩
theorem z_De_33 : xV R_De 33 R_Va y_Va_grammar prog_8_method_2_code 1 (some (.object "FoldedFamily$Grammar")) 0 := ⟨m_666, m_663, m_664, m_665, m_55, ⟨by decide +kernel, by decide +kernel, by decide +kernel⟩⟩
theorem z_De_39 : xV R_De 39 R_Gr y_Gr_kindOf prog_4_method_5_code 2 (some .int) 1 := ⟨m_477, m_667, m_475, m_476, m_53, ⟨by decide +kernel, by decide +kernel, by decide +kernel⟩⟩
theorem z_De_48 : xV R_De 48 R_De y_De_writeRest prog_3_method_9_code 8 none 4 := ⟨m_681, m_678, m_680, m_26, m_57, ⟨by decide +kernel, by decide +kernel, by decide +kernel⟩⟩
theorem z_De_45 : xV R_De 45 R_De y_De_writeParts prog_3_method_8_code 6 none 4 := ⟨m_671, m_668, m_670, m_25, m_57, ⟨by decide +kernel, by decide +kernel, by decide +kernel⟩⟩
theorem z_De_51 : xV R_De 51 R_Va y_Va_bestSplit prog_8_method_7_code 6 (some .int) 3 := ⟨m_675, m_672, m_673, m_674, m_55, ⟨by decide +kernel, by decide +kernel, by decide +kernel⟩⟩
theorem z_De_56 : xV R_De 56 R_Gr y_Gr_targetOf prog_4_method_9_code 3 (some .int) 2 := ⟨m_428, m_677, m_426, m_427, m_53, ⟨by decide +kernel, by decide +kernel, by decide +kernel⟩⟩
theorem z_De_25 : xV R_De 25 R_De y_De_writeFrom prog_3_method_7_code 6 none 4 := ⟨m_658, m_655, m_657, m_23, m_57, ⟨by decide +kernel, by decide +kernel, by decide +kernel⟩⟩
theorem z_De_60 : xV R_De 60 R_Va y_Va_bestTarget prog_8_method_6_code 7 (some .int) 3 := ⟨m_685, m_682, m_683, m_684, m_55, ⟨by decide +kernel, by decide +kernel, by decide +kernel⟩⟩
theorem z_De_63 : xSN R_De 63 "FoldedFamily" y_Fa_lettersBefore prog_1_method_20_code 1 (some .int) 1 := ⟨m_445, List.mem_of_getElem? (i := 10) rfl, m_444, m_49, ⟨by decide +kernel, by decide +kernel, by decide +kernel⟩⟩
theorem z_De_66 : xSN R_De 66 "FoldedFamily" y_Fa_lettersOf prog_1_method_22_code 1 (some .int) 1 := ⟨m_442, List.mem_of_getElem? (i := 11) rfl, m_441, m_49, ⟨by decide +kernel, by decide +kernel, by decide +kernel⟩⟩
theorem z_Fa_171 : xV R_Fa 171 R_Hi y_Hi_has prog_5_method_4_code 2 (some .boolean) 1 := ⟨m_638, m_635, m_636, m_637, m_56, ⟨by decide +kernel, by decide +kernel, by decide +kernel⟩⟩
theorem z_Fa_174 : xV R_Fa 174 R_Hi y_Hi_begin prog_5_method_5_code 2 (some .int) 1 := ⟨m_642, m_639, m_640, m_641, m_56, ⟨by decide +kernel, by decide +kernel, by decide +kernel⟩⟩
theorem z_Fa_177 : xV R_Fa 177 R_Hi y_Hi_letters prog_5_method_6_code 2 (some .int) 1 := ⟨m_646, m_643, m_644, m_645, m_56, ⟨by decide +kernel, by decide +kernel, by decide +kernel⟩⟩
theorem z_Fa_180 : xV R_Fa 180 R_Hi y_Hi_score prog_5_method_7_code 2 (some .int) 1 := ⟨m_650, m_647, m_648, m_649, m_56, ⟨by decide +kernel, by decide +kernel, by decide +kernel⟩⟩
theorem z_Fa_183 : xV R_Fa 183 R_De y_De_write prog_3_method_6_code 4 none 3 := ⟨m_654, m_651, m_652, m_653, m_57, ⟨by decide +kernel, by decide +kernel, by decide +kernel⟩⟩
theorem z_Fa_187 : xV R_Fa 187 R_De y_De_length prog_3_method_2_code 1 (some .int) 0 := ⟨m_691, m_688, m_689, m_690, m_57, ⟨by decide +kernel, by decide +kernel, by decide +kernel⟩⟩
theorem z_Fa_188 : xV R_Fa 188 R_De y_De_state prog_3_method_3_code 2 (some .int) 1 := ⟨m_699, m_696, m_697, m_698, m_57, ⟨by decide +kernel, by decide +kernel, by decide +kernel⟩⟩
theorem z_Fa_191 : xV R_Fa 191 R_De y_De_begin prog_3_method_4_code 2 (some .int) 1 := ⟨m_703, m_700, m_701, m_702, m_57, ⟨by decide +kernel, by decide +kernel, by decide +kernel⟩⟩
theorem z_Fa_192 : xV R_Fa 192 R_De y_De_letters prog_3_method_5_code 2 (some .int) 1 := ⟨m_707, m_704, m_705, m_706, m_57, ⟨by decide +kernel, by decide +kernel, by decide +kernel⟩⟩
theorem z_Mo_84 : xV R_Mo 84 R_Mo y_Mo_changed prog_10_method_2_code 1 none 0 := ⟨m_812, m_809, m_811, m_27, m_58, ⟨by decide +kernel, by decide +kernel, by decide +kernel⟩⟩
theorem z_Mo_90 : xV R_Mo 90 R_Mo y_Mo_node3 prog_10_method_6_code 4 (some .int) 3 := ⟨m_833, m_830, m_832, m_30, m_58, ⟨by decide +kernel, by decide +kernel, by decide +kernel⟩⟩
theorem z_Mo_94 : xV R_Mo 94 R_Mo y_Mo_push prog_10_method_7_code 5 (some .int) 4 := ⟨m_837, m_834, m_836, m_31, m_58, ⟨by decide +kernel, by decide +kernel, by decide +kernel⟩⟩
theorem z_Mo_101 : xV R_Mo 101 R_Mo y_Mo_state prog_10_method_9_code 3 none 2 := ⟨m_845, m_842, m_844, m_33, m_58, ⟨by decide +kernel, by decide +kernel, by decide +kernel⟩⟩
theorem z_Mo_105 : xSt R_Mo 105 y_Mo_inserts prog_10_method_11_code 1 (some .boolean) 1 := ⟨m_856, m_854, m_855, m_58, ⟨by decide +kernel, by decide +kernel, by decide +kernel⟩⟩
theorem z_Mo_109 : xSt R_Mo 109 y_Mo_eighth prog_10_method_13_code 4 (some .long) 1 := ⟨m_874, m_872, m_873, m_58, ⟨by decide +kernel, by decide +kernel, by decide +kernel⟩⟩
theorem z_Mo_115 : xV R_Mo 115 R_Mo y_Mo_kindAt prog_10_method_15_code 6 (some .int) 2 := ⟨m_864, m_861, m_863, m_37, m_58, ⟨by decide +kernel, by decide +kernel, by decide +kernel⟩⟩
theorem z_Mo_119 : xV R_Mo 119 R_Mo y_Mo_targetOf prog_10_method_12_code 9 (some .int) 2 := ⟨m_853, m_850, m_852, m_35, m_58, ⟨by decide +kernel, by decide +kernel, by decide +kernel⟩⟩
theorem z_Mo_125 : xV R_Mo 125 R_Mo y_Mo_rowsIn prog_10_method_16_code 4 (some .int) 1 := ⟨m_868, m_865, m_867, m_38, m_58, ⟨by decide +kernel, by decide +kernel, by decide +kernel⟩⟩
theorem z_Mo_129 : xSt R_Mo 129 y_Mo_log prog_10_method_14_code 7 (some .int) 2 := ⟨m_871, m_869, m_870, m_58, ⟨by decide +kernel, by decide +kernel, by decide +kernel⟩⟩
theorem z_Mo_122 : xV R_Mo 122 R_Mo y_Mo_rowsFrom prog_10_method_17_code 5 (some .int) 2 := ⟨m_860, m_857, m_859, m_36, m_58, ⟨by decide +kernel, by decide +kernel, by decide +kernel⟩⟩
theorem z_Mo_132 : xV R_Mo 132 R_Mo y_Mo_pair prog_10_method_5_code 6 (some .boolean) 0 := ⟨m_824, m_821, m_823, m_28, m_58, ⟨by decide +kernel, by decide +kernel, by decide +kernel⟩⟩
theorem z_Mo_137 : xV R_Mo 137 R_Mo y_Mo_plant prog_10_method_8_code 6 none 0 := ⟨m_829, m_826, m_828, m_29, m_58, ⟨by decide +kernel, by decide +kernel, by decide +kernel⟩⟩
theorem z_Mo_140 : xV R_Mo 140 R_Mo y_Mo_settle prog_10_method_10_code 3 none 0 := ⟨m_841, m_838, m_840, m_32, m_58, ⟨by decide +kernel, by decide +kernel, by decide +kernel⟩⟩
theorem z_Mo_143 : xV R_Mo 143 R_Mo y_Mo_scoreSteps prog_10_method_18_code 6 none 1 := ⟨m_849, m_846, m_848, m_34, m_58, ⟨by decide +kernel, by decide +kernel, by decide +kernel⟩⟩
theorem z_Mo_147 : xV R_Mo 147 R_Mo y_Mo_scoreLetters prog_10_method_19_code 10 none 1 := ⟨m_879, m_876, m_878, m_39, m_58, ⟨by decide +kernel, by decide +kernel, by decide +kernel⟩⟩
theorem z_Mo_153 : xV R_Mo 153 R_Mo y_Mo_isState prog_10_method_21_code 2 (some .boolean) 1 := ⟨m_887, m_884, m_886, m_40, m_58, ⟨by decide +kernel, by decide +kernel, by decide +kernel⟩⟩
theorem z_Mo_156 : xSt R_Mo 156 y_Mo_isLetter prog_10_method_26_code 1 (some .boolean) 1 := ⟨m_906, m_904, m_905, m_58, ⟨by decide +kernel, by decide +kernel, by decide +kernel⟩⟩
theorem z_Mo_162 : xSt R_Mo 162 y_Mo_emitsLeft prog_10_method_31_code 1 (some .boolean) 1 := ⟨m_933, m_931, m_932, m_58, ⟨by decide +kernel, by decide +kernel, by decide +kernel⟩⟩
theorem z_Mo_165 : xSt R_Mo 165 y_Mo_emitsRight prog_10_method_32_code 1 (some .boolean) 1 := ⟨m_936, m_934, m_935, m_58, ⟨by decide +kernel, by decide +kernel, by decide +kernel⟩⟩
theorem z_Mo_168 : xSt R_Mo 168 y_Mo_cell prog_10_method_30_code 3 (some .int) 3 := ⟨m_939, m_937, m_938, m_58, ⟨by decide +kernel, by decide +kernel, by decide +kernel⟩⟩
theorem z_Mo_171 : xV R_Mo 171 R_Mo y_Mo_letterScore prog_10_method_33_code 6 (some .int) 3 := ⟨m_943, m_940, m_942, m_44, m_58, ⟨by decide +kernel, by decide +kernel, by decide +kernel⟩⟩
theorem z_Mo_174 : xV R_Mo 174 R_Mo y_Mo_by prog_10_method_34_code 10 (some .int) 4 := ⟨m_930, m_927, m_929, m_43, m_58, ⟨by decide +kernel, by decide +kernel, by decide +kernel⟩⟩
theorem z_Mo_177 : xV R_Mo 177 R_Mo y_Mo_bySplit prog_10_method_35_code 7 (some .int) 4 := ⟨m_947, m_944, m_946, m_45, m_58, ⟨by decide +kernel, by decide +kernel, by decide +kernel⟩⟩
theorem z_Mo_180 : xV R_Mo 180 R_Mo y_Mo_better prog_10_method_36_code 7 (some .int) 3 := ⟨m_926, m_923, m_925, m_42, m_58, ⟨by decide +kernel, by decide +kernel, by decide +kernel⟩⟩
theorem z_Mo_183 : xV R_Mo 183 R_Mo y_Mo_work prog_10_method_37_code 6 none 0 := ⟨m_922, m_919, m_921, m_41, m_58, ⟨by decide +kernel, by decide +kernel, by decide +kernel⟩⟩
theorem z_Mo_186 : xV R_Mo 186 R_Mo y_Mo_free prog_10_method_39_code 5 (some .boolean) 2 := ⟨m_955, m_952, m_954, m_46, m_58, ⟨by decide +kernel, by decide +kernel, by decide +kernel⟩⟩
theorem z_Mo_193 : xV R_Mo 193 R_Mo y_Mo_write prog_10_method_41_code 10 none 1 := ⟨m_963, m_960, m_962, m_47, m_58, ⟨by decide +kernel, by decide +kernel, by decide +kernel⟩⟩
theorem z_La_21 : xV R_La 21 R_Fa y_Fa_column prog_1_method_2_code 3 (some .boolean) 2 := ⟨m_265, m_262, m_263, m_264, m_49, ⟨by decide +kernel, by decide +kernel, by decide +kernel⟩⟩
theorem z_La_25 : xV R_La 25 R_Mo y_Mo_column prog_10_method_3_code 5 (some .boolean) 2 := ⟨m_808, m_805, m_806, m_807, m_58, ⟨by decide +kernel, by decide +kernel, by decide +kernel⟩⟩
theorem z_La_26 : xV R_La 26 R_Fa y_Fa_clear prog_1_method_3_code 1 none 0 := ⟨m_295, m_292, m_293, m_294, m_49, ⟨by decide +kernel, by decide +kernel, by decide +kernel⟩⟩
theorem z_La_29 : xV R_La 29 R_Mo y_Mo_clear prog_10_method_4_code 1 none 0 := ⟨m_816, m_813, m_814, m_815, m_58, ⟨by decide +kernel, by decide +kernel, by decide +kernel⟩⟩
theorem z_La_30 : xV R_La 30 R_Fa y_Fa_build prog_1_method_4_code 1 (some .int) 0 := ⟨m_303, m_300, m_301, m_302, m_49, ⟨by decide +kernel, by decide +kernel, by decide +kernel⟩⟩
theorem z_La_34 : xV R_La 34 R_Mo y_Mo_build prog_10_method_20_code 2 (some .int) 0 := ⟨m_820, m_817, m_818, m_819, m_58, ⟨by decide +kernel, by decide +kernel, by decide +kernel⟩⟩
theorem z_La_35 : xV R_La 35 R_Fa y_Fa_kind prog_1_method_5_code 2 (some .int) 1 := ⟨m_469, m_466, m_467, m_468, m_49, ⟨by decide +kernel, by decide +kernel, by decide +kernel⟩⟩
theorem z_La_39 : xV R_La 39 R_Mo y_Mo_kind prog_10_method_22_code 2 (some .int) 1 := ⟨m_883, m_880, m_881, m_882, m_58, ⟨by decide +kernel, by decide +kernel, by decide +kernel⟩⟩
theorem z_La_40 : xV R_La 40 R_Fa y_Fa_node prog_1_method_6_code 2 (some .int) 1 := ⟨m_481, m_478, m_479, m_480, m_49, ⟨by decide +kernel, by decide +kernel, by decide +kernel⟩⟩
theorem z_La_43 : xV R_La 43 R_Mo y_Mo_node1 prog_10_method_23_code 2 (some .int) 1 := ⟨m_891, m_888, m_889, m_890, m_58, ⟨by decide +kernel, by decide +kernel, by decide +kernel⟩⟩
theorem z_La_44 : xV R_La 44 R_Fa y_Fa_target prog_1_method_7_code 3 (some .int) 2 := ⟨m_489, m_486, m_487, m_488, m_49, ⟨by decide +kernel, by decide +kernel, by decide +kernel⟩⟩
theorem z_La_48 : xV R_La 48 R_Mo y_Mo_target prog_10_method_24_code 4 (some .int) 2 := ⟨m_895, m_892, m_893, m_894, m_58, ⟨by decide +kernel, by decide +kernel, by decide +kernel⟩⟩
theorem z_La_49 : xV R_La 49 R_Fa y_Fa_step prog_1_method_8_code 3 (some .int) 2 := ⟨m_499, m_496, m_497, m_498, m_49, ⟨by decide +kernel, by decide +kernel, by decide +kernel⟩⟩
theorem z_La_52 : xV R_La 52 R_Mo y_Mo_step prog_10_method_25_code 3 (some .int) 2 := ⟨m_899, m_896, m_897, m_898, m_58, ⟨by decide +kernel, by decide +kernel, by decide +kernel⟩⟩
theorem z_La_53 : xV R_La 53 R_Fa y_Fa_emits prog_1_method_9_code 5 (some .int) 3 := ⟨m_507, m_504, m_505, m_506, m_49, ⟨by decide +kernel, by decide +kernel, by decide +kernel⟩⟩
theorem z_La_57 : xV R_La 57 R_Mo y_Mo_emits prog_10_method_27_code 5 (some .int) 3 := ⟨m_903, m_900, m_901, m_902, m_58, ⟨by decide +kernel, by decide +kernel, by decide +kernel⟩⟩
theorem z_La_58 : xV R_La 58 R_Fa y_Fa_feed prog_1_method_10_code 3 (some .int) 2 := ⟨m_517, m_514, m_515, m_516, m_49, ⟨by decide +kernel, by decide +kernel, by decide +kernel⟩⟩
theorem z_La_61 : xV R_La 61 R_Mo y_Mo_feed prog_10_method_28_code 4 (some .int) 2 := ⟨m_910, m_907, m_908, m_909, m_58, ⟨by decide +kernel, by decide +kernel, by decide +kernel⟩⟩
theorem z_La_62 : xV R_La 62 R_Fa y_Fa_erase prog_1_method_11_code 1 none 0 := ⟨m_533, m_530, m_531, m_532, m_49, ⟨by decide +kernel, by decide +kernel, by decide +kernel⟩⟩
theorem z_La_65 : xV R_La 65 R_Mo y_Mo_erase prog_10_method_29_code 1 none 0 := ⟨m_914, m_911, m_912, m_913, m_58, ⟨by decide +kernel, by decide +kernel, by decide +kernel⟩⟩
theorem z_La_66 : xV R_La 66 R_Fa y_Fa_value prog_1_method_12_code 4 (some .int) 3 := ⟨m_541, m_538, m_539, m_540, m_49, ⟨by decide +kernel, by decide +kernel, by decide +kernel⟩⟩
theorem z_La_69 : xV R_La 69 R_Mo y_Mo_value prog_10_method_38_code 4 (some .int) 3 := ⟨m_918, m_915, m_916, m_917, m_58, ⟨by decide +kernel, by decide +kernel, by decide +kernel⟩⟩
theorem z_La_70 : xV R_La 70 R_Fa y_Fa_scan prog_1_method_13_code 3 (some .int) 2 := ⟨m_603, m_600, m_601, m_602, m_49, ⟨by decide +kernel, by decide +kernel, by decide +kernel⟩⟩
theorem z_La_73 : xV R_La 73 R_Mo y_Mo_scan prog_10_method_40_code 10 (some .int) 2 := ⟨m_951, m_948, m_949, m_950, m_58, ⟨by decide +kernel, by decide +kernel, by decide +kernel⟩⟩
theorem z_La_74 : xV R_La 74 R_Fa y_Fa_hit prog_1_method_14_code 3 (some .int) 2 := ⟨m_634, m_631, m_632, m_633, m_49, ⟨by decide +kernel, by decide +kernel, by decide +kernel⟩⟩
theorem z_La_77 : xV R_La 77 R_Mo y_Mo_hit prog_10_method_42_code 3 (some .int) 2 := ⟨m_959, m_956, m_957, m_958, m_58, ⟨by decide +kernel, by decide +kernel, by decide +kernel⟩⟩
theorem z_La_78 : xV R_La 78 R_Fa y_Fa_derived prog_1_method_15_code 4 (some .int) 3 := ⟨m_695, m_692, m_693, m_694, m_49, ⟨by decide +kernel, by decide +kernel, by decide +kernel⟩⟩
theorem z_La_81 : xV R_La 81 R_Mo y_Mo_derived prog_10_method_43_code 4 (some .int) 3 := ⟨m_967, m_964, m_965, m_966, m_58, ⟨by decide +kernel, by decide +kernel, by decide +kernel⟩⟩
