section
-- ===== PART A: goes FIRST, ahead of the names: the tables' words, and 'selects' of the private methods out of them =====
/-- a private method of a class that the tables say can be made, by its rows of tables_1 -/
def lw_okq (q : MethodName × Nat) : Prop := (q.1.cls ≠ "java/lang/invoke/MethodHandle" ∧ q.1.cls ≠ "java/lang/invoke/VarHandle") ∧ Cond.instantiable q.1.cls q.2 ∈ tables_1 ∧ Cond.privateMethod q.1 ∈ tables_1 ∧ Cond.instanceMethod q.1 ∈ tables_1
theorem lw_p0 : lw_okq (⟨"FoldedFamily", "dropGrammar", "()V"⟩, 7) := ⟨⟨by decide +kernel, by decide +kernel⟩, List.mem_of_getElem? (i := 13) (by decide +kernel), List.mem_of_getElem? (i := 233) (by decide +kernel), List.mem_of_getElem? (i := 234) (by decide +kernel)⟩
theorem lw_p1 : lw_okq (⟨"FoldedFamily$Tree", "add", "(III)V"⟩, 6) := ⟨⟨by decide +kernel, by decide +kernel⟩, List.mem_of_getElem? (i := 54) (by decide +kernel), List.mem_of_getElem? (i := 266) (by decide +kernel), List.mem_of_getElem? (i := 267) (by decide +kernel)⟩
theorem lw_p2 : lw_okq (⟨"FoldedFamily$Tree", "growPart", "(III)V"⟩, 6) := ⟨⟨by decide +kernel, by decide +kernel⟩, List.mem_of_getElem? (i := 54) (by decide +kernel), List.mem_of_getElem? (i := 274) (by decide +kernel), List.mem_of_getElem? (i := 275) (by decide +kernel)⟩
theorem lw_p3 : lw_okq (⟨"FoldedFamily$Tree", "growFork", "(III)V"⟩, 6) := ⟨⟨by decide +kernel, by decide +kernel⟩, List.mem_of_getElem? (i := 54) (by decide +kernel), List.mem_of_getElem? (i := 286) (by decide +kernel), List.mem_of_getElem? (i := 287) (by decide +kernel)⟩
theorem lw_p4 : lw_okq (⟨"FoldedFamily$Grammar", "layStates", "()V"⟩, 11) := ⟨⟨by decide +kernel, by decide +kernel⟩, List.mem_of_getElem? (i := 79) (by decide +kernel), List.mem_of_getElem? (i := 294) (by decide +kernel), List.mem_of_getElem? (i := 295) (by decide +kernel)⟩
theorem lw_p5 : lw_okq (⟨"FoldedFamily$Grammar", "rowsIn", "(II)I"⟩, 11) := ⟨⟨by decide +kernel, by decide +kernel⟩, List.mem_of_getElem? (i := 79) (by decide +kernel), List.mem_of_getElem? (i := 325) (by decide +kernel), List.mem_of_getElem? (i := 326) (by decide +kernel)⟩
theorem lw_p6 : lw_okq (⟨"FoldedFamily$Grammar", "addTargets", "(I)V"⟩, 11) := ⟨⟨by decide +kernel, by decide +kernel⟩, List.mem_of_getElem? (i := 79) (by decide +kernel), List.mem_of_getElem? (i := 349) (by decide +kernel), List.mem_of_getElem? (i := 350) (by decide +kernel)⟩
theorem lw_p7 : lw_okq (⟨"FoldedFamily$Grammar", "addTarget", "(II)V"⟩, 11) := ⟨⟨by decide +kernel, by decide +kernel⟩, List.mem_of_getElem? (i := 79) (by decide +kernel), List.mem_of_getElem? (i := 353) (by decide +kernel), List.mem_of_getElem? (i := 354) (by decide +kernel)⟩
theorem lw_p8 : lw_okq (⟨"FoldedFamily$Grammar", "addStates", "(IIZ)V"⟩, 11) := ⟨⟨by decide +kernel, by decide +kernel⟩, List.mem_of_getElem? (i := 79) (by decide +kernel), List.mem_of_getElem? (i := 361) (by decide +kernel), List.mem_of_getElem? (i := 362) (by decide +kernel)⟩
theorem lw_p9 : lw_okq (⟨"FoldedFamily$Grammar", "scoreSteps", "(I)V"⟩, 11) := ⟨⟨by decide +kernel, by decide +kernel⟩, List.mem_of_getElem? (i := 79) (by decide +kernel), List.mem_of_getElem? (i := 368) (by decide +kernel), List.mem_of_getElem? (i := 369) (by decide +kernel)⟩
theorem lw_p10 : lw_okq (⟨"FoldedFamily$Grammar", "scoreLetters", "(I)V"⟩, 11) := ⟨⟨by decide +kernel, by decide +kernel⟩, List.mem_of_getElem? (i := 79) (by decide +kernel), List.mem_of_getElem? (i := 389) (by decide +kernel), List.mem_of_getElem? (i := 390) (by decide +kernel)⟩
theorem lw_p11 : lw_okq (⟨"FoldedFamily$Grammar", "scoreOfLetters", "(III)I"⟩, 11) := ⟨⟨by decide +kernel, by decide +kernel⟩, List.mem_of_getElem? (i := 79) (by decide +kernel), List.mem_of_getElem? (i := 402) (by decide +kernel), List.mem_of_getElem? (i := 403) (by decide +kernel)⟩
theorem lw_p12 : lw_okq (⟨"FoldedFamily$Grammar", "rowsWithLetters", "(III)I"⟩, 11) := ⟨⟨by decide +kernel, by decide +kernel⟩, List.mem_of_getElem? (i := 79) (by decide +kernel), List.mem_of_getElem? (i := 406) (by decide +kernel), List.mem_of_getElem? (i := 407) (by decide +kernel)⟩
theorem lw_p13 : lw_okq (⟨"FoldedFamily$Values", "reckon", "(III)I"⟩, 4) := ⟨⟨by decide +kernel, by decide +kernel⟩, List.mem_of_getElem? (i := 132) (by decide +kernel), List.mem_of_getElem? (i := 508) (by decide +kernel), List.mem_of_getElem? (i := 509) (by decide +kernel)⟩
theorem lw_p14 : lw_okq (⟨"FoldedFamily$Values", "greatestOfSplits", "(III)I"⟩, 4) := ⟨⟨by decide +kernel, by decide +kernel⟩, List.mem_of_getElem? (i := 132) (by decide +kernel), List.mem_of_getElem? (i := 514) (by decide +kernel), List.mem_of_getElem? (i := 515) (by decide +kernel)⟩
theorem lw_p15 : lw_okq (⟨"FoldedFamily$Values", "throughSplit", "(IIII)I"⟩, 4) := ⟨⟨by decide +kernel, by decide +kernel⟩, List.mem_of_getElem? (i := 132) (by decide +kernel), List.mem_of_getElem? (i := 518) (by decide +kernel), List.mem_of_getElem? (i := 519) (by decide +kernel)⟩
def lw_privs_1 : List (MethodName × Nat) := [(⟨"FoldedFamily", "dropGrammar", "()V"⟩, 7), (⟨"FoldedFamily$Tree", "add", "(III)V"⟩, 6), (⟨"FoldedFamily$Tree", "growPart", "(III)V"⟩, 6), (⟨"FoldedFamily$Tree", "growFork", "(III)V"⟩, 6), (⟨"FoldedFamily$Grammar", "layStates", "()V"⟩, 11), (⟨"FoldedFamily$Grammar", "rowsIn", "(II)I"⟩, 11), (⟨"FoldedFamily$Grammar", "addTargets", "(I)V"⟩, 11), (⟨"FoldedFamily$Grammar", "addTarget", "(II)V"⟩, 11), (⟨"FoldedFamily$Grammar", "addStates", "(IIZ)V"⟩, 11), (⟨"FoldedFamily$Grammar", "scoreSteps", "(I)V"⟩, 11), (⟨"FoldedFamily$Grammar", "scoreLetters", "(I)V"⟩, 11), (⟨"FoldedFamily$Grammar", "scoreOfLetters", "(III)I"⟩, 11), (⟨"FoldedFamily$Grammar", "rowsWithLetters", "(III)I"⟩, 11), (⟨"FoldedFamily$Values", "reckon", "(III)I"⟩, 4), (⟨"FoldedFamily$Values", "greatestOfSplits", "(III)I"⟩, 4), (⟨"FoldedFamily$Values", "throughSplit", "(IIII)I"⟩, 4)]
theorem lw_r1 : ∀ q ∈ lw_privs_1, lw_okq q := List.forall_mem_cons.mpr ⟨lw_p0, List.forall_mem_cons.mpr ⟨lw_p1, List.forall_mem_cons.mpr ⟨lw_p2, List.forall_mem_cons.mpr ⟨lw_p3, List.forall_mem_cons.mpr ⟨lw_p4, List.forall_mem_cons.mpr ⟨lw_p5, List.forall_mem_cons.mpr ⟨lw_p6, List.forall_mem_cons.mpr ⟨lw_p7, List.forall_mem_cons.mpr ⟨lw_p8, List.forall_mem_cons.mpr ⟨lw_p9, List.forall_mem_cons.mpr ⟨lw_p10, List.forall_mem_cons.mpr ⟨lw_p11, List.forall_mem_cons.mpr ⟨lw_p12, List.forall_mem_cons.mpr ⟨lw_p13, List.forall_mem_cons.mpr ⟨lw_p14, List.forall_mem_cons.mpr ⟨lw_p15, fun _ h => absurd h List.not_mem_nil⟩⟩⟩⟩⟩⟩⟩⟩⟩⟩⟩⟩⟩⟩⟩⟩
theorem lw_p16 : lw_okq (⟨"FoldedFamily$Values", "greatestOfTargets", "(III)I"⟩, 4) := ⟨⟨by decide +kernel, by decide +kernel⟩, List.mem_of_getElem? (i := 132) (by decide +kernel), List.mem_of_getElem? (i := 528) (by decide +kernel), List.mem_of_getElem? (i := 529) (by decide +kernel)⟩
theorem lw_p17 : lw_okq (⟨"FoldedFamily$Values", "throughTarget", "(IIII)I"⟩, 4) := ⟨⟨by decide +kernel, by decide +kernel⟩, List.mem_of_getElem? (i := 132) (by decide +kernel), List.mem_of_getElem? (i := 538) (by decide +kernel), List.mem_of_getElem? (i := 539) (by decide +kernel)⟩
theorem lw_p18 : lw_okq (⟨"FoldedFamily$Values", "emitted", "(III)I"⟩, 4) := ⟨⟨by decide +kernel, by decide +kernel⟩, List.mem_of_getElem? (i := 132) (by decide +kernel), List.mem_of_getElem? (i := 543) (by decide +kernel), List.mem_of_getElem? (i := 544) (by decide +kernel)⟩
theorem lw_p19 : lw_okq (⟨"FoldedFamily$Hits", "findNext", "(LFoldedFamily$Values;III)Z"⟩, 5) := ⟨⟨by decide +kernel, by decide +kernel⟩, List.mem_of_getElem? (i := 151) (by decide +kernel), List.mem_of_getElem? (i := 561) (by decide +kernel), List.mem_of_getElem? (i := 562) (by decide +kernel)⟩
theorem lw_p20 : lw_okq (⟨"FoldedFamily$Hits", "freeEnd", "(II)I"⟩, 5) := ⟨⟨by decide +kernel, by decide +kernel⟩, List.mem_of_getElem? (i := 151) (by decide +kernel), List.mem_of_getElem? (i := 566) (by decide +kernel), List.mem_of_getElem? (i := 567) (by decide +kernel)⟩
theorem lw_p21 : lw_okq (⟨"FoldedFamily$Hits", "note", "(III)V"⟩, 5) := ⟨⟨by decide +kernel, by decide +kernel⟩, List.mem_of_getElem? (i := 151) (by decide +kernel), List.mem_of_getElem? (i := 572) (by decide +kernel), List.mem_of_getElem? (i := 573) (by decide +kernel)⟩
theorem lw_p22 : lw_okq (⟨"FoldedFamily$Hits", "takeNoted", "()V"⟩, 5) := ⟨⟨by decide +kernel, by decide +kernel⟩, List.mem_of_getElem? (i := 151) (by decide +kernel), List.mem_of_getElem? (i := 576) (by decide +kernel), List.mem_of_getElem? (i := 577) (by decide +kernel)⟩
theorem lw_p23 : lw_okq (⟨"FoldedFamily$Derivation", "writeFrom", "(LFoldedFamily$Values;III)V"⟩, 4) := ⟨⟨by decide +kernel, by decide +kernel⟩, List.mem_of_getElem? (i := 174) (by decide +kernel), List.mem_of_getElem? (i := 608) (by decide +kernel), List.mem_of_getElem? (i := 609) (by decide +kernel)⟩
theorem lw_p24 : lw_okq (⟨"FoldedFamily$Derivation", "note", "(III)V"⟩, 4) := ⟨⟨by decide +kernel, by decide +kernel⟩, List.mem_of_getElem? (i := 174) (by decide +kernel), List.mem_of_getElem? (i := 612) (by decide +kernel), List.mem_of_getElem? (i := 613) (by decide +kernel)⟩
theorem lw_p25 : lw_okq (⟨"FoldedFamily$Derivation", "writeParts", "(LFoldedFamily$Values;III)V"⟩, 4) := ⟨⟨by decide +kernel, by decide +kernel⟩, List.mem_of_getElem? (i := 174) (by decide +kernel), List.mem_of_getElem? (i := 621) (by decide +kernel), List.mem_of_getElem? (i := 622) (by decide +kernel)⟩
theorem lw_p26 : lw_okq (⟨"FoldedFamily$Derivation", "writeRest", "(LFoldedFamily$Values;III)V"⟩, 4) := ⟨⟨by decide +kernel, by decide +kernel⟩, List.mem_of_getElem? (i := 174) (by decide +kernel), List.mem_of_getElem? (i := 631) (by decide +kernel), List.mem_of_getElem? (i := 632) (by decide +kernel)⟩
theorem lw_p27 : lw_okq (⟨"FoldedFamilyModel", "changed", "()V"⟩, 29) := ⟨⟨by decide +kernel, by decide +kernel⟩, List.mem_of_getElem? (i := 664) (by decide +kernel), List.mem_of_getElem? (i := 762) (by decide +kernel), List.mem_of_getElem? (i := 763) (by decide +kernel)⟩
theorem lw_p28 : lw_okq (⟨"FoldedFamilyModel", "pair", "()Z"⟩, 29) := ⟨⟨by decide +kernel, by decide +kernel⟩, List.mem_of_getElem? (i := 664) (by decide +kernel), List.mem_of_getElem? (i := 774) (by decide +kernel), List.mem_of_getElem? (i := 775) (by decide +kernel)⟩
theorem lw_p29 : lw_okq (⟨"FoldedFamilyModel", "plant", "()V"⟩, 29) := ⟨⟨by decide +kernel, by decide +kernel⟩, List.mem_of_getElem? (i := 664) (by decide +kernel), List.mem_of_getElem? (i := 779) (by decide +kernel), List.mem_of_getElem? (i := 780) (by decide +kernel)⟩
theorem lw_p30 : lw_okq (⟨"FoldedFamilyModel", "node", "(III)I"⟩, 29) := ⟨⟨by decide +kernel, by decide +kernel⟩, List.mem_of_getElem? (i := 664) (by decide +kernel), List.mem_of_getElem? (i := 783) (by decide +kernel), List.mem_of_getElem? (i := 784) (by decide +kernel)⟩
theorem lw_p31 : lw_okq (⟨"FoldedFamilyModel", "push", "(IIII)I"⟩, 29) := ⟨⟨by decide +kernel, by decide +kernel⟩, List.mem_of_getElem? (i := 664) (by decide +kernel), List.mem_of_getElem? (i := 787) (by decide +kernel), List.mem_of_getElem? (i := 788) (by decide +kernel)⟩
def lw_privs_2 : List (MethodName × Nat) := [(⟨"FoldedFamily$Values", "greatestOfTargets", "(III)I"⟩, 4), (⟨"FoldedFamily$Values", "throughTarget", "(IIII)I"⟩, 4), (⟨"FoldedFamily$Values", "emitted", "(III)I"⟩, 4), (⟨"FoldedFamily$Hits", "findNext", "(LFoldedFamily$Values;III)Z"⟩, 5), (⟨"FoldedFamily$Hits", "freeEnd", "(II)I"⟩, 5), (⟨"FoldedFamily$Hits", "note", "(III)V"⟩, 5), (⟨"FoldedFamily$Hits", "takeNoted", "()V"⟩, 5), (⟨"FoldedFamily$Derivation", "writeFrom", "(LFoldedFamily$Values;III)V"⟩, 4), (⟨"FoldedFamily$Derivation", "note", "(III)V"⟩, 4), (⟨"FoldedFamily$Derivation", "writeParts", "(LFoldedFamily$Values;III)V"⟩, 4), (⟨"FoldedFamily$Derivation", "writeRest", "(LFoldedFamily$Values;III)V"⟩, 4), (⟨"FoldedFamilyModel", "changed", "()V"⟩, 29), (⟨"FoldedFamilyModel", "pair", "()Z"⟩, 29), (⟨"FoldedFamilyModel", "plant", "()V"⟩, 29), (⟨"FoldedFamilyModel", "node", "(III)I"⟩, 29), (⟨"FoldedFamilyModel", "push", "(IIII)I"⟩, 29)]
theorem lw_r2 : ∀ q ∈ lw_privs_2, lw_okq q := List.forall_mem_cons.mpr ⟨lw_p16, List.forall_mem_cons.mpr ⟨lw_p17, List.forall_mem_cons.mpr ⟨lw_p18, List.forall_mem_cons.mpr ⟨lw_p19, List.forall_mem_cons.mpr ⟨lw_p20, List.forall_mem_cons.mpr ⟨lw_p21, List.forall_mem_cons.mpr ⟨lw_p22, List.forall_mem_cons.mpr ⟨lw_p23, List.forall_mem_cons.mpr ⟨lw_p24, List.forall_mem_cons.mpr ⟨lw_p25, List.forall_mem_cons.mpr ⟨lw_p26, List.forall_mem_cons.mpr ⟨lw_p27, List.forall_mem_cons.mpr ⟨lw_p28, List.forall_mem_cons.mpr ⟨lw_p29, List.forall_mem_cons.mpr ⟨lw_p30, List.forall_mem_cons.mpr ⟨lw_p31, fun _ h => absurd h List.not_mem_nil⟩⟩⟩⟩⟩⟩⟩⟩⟩⟩⟩⟩⟩⟩⟩⟩
theorem lw_p32 : lw_okq (⟨"FoldedFamilyModel", "settle", "()V"⟩, 29) := ⟨⟨by decide +kernel, by decide +kernel⟩, List.mem_of_getElem? (i := 664) (by decide +kernel), List.mem_of_getElem? (i := 791) (by decide +kernel), List.mem_of_getElem? (i := 792) (by decide +kernel)⟩
theorem lw_p33 : lw_okq (⟨"FoldedFamilyModel", "state", "(II)V"⟩, 29) := ⟨⟨by decide +kernel, by decide +kernel⟩, List.mem_of_getElem? (i := 664) (by decide +kernel), List.mem_of_getElem? (i := 795) (by decide +kernel), List.mem_of_getElem? (i := 796) (by decide +kernel)⟩
theorem lw_p34 : lw_okq (⟨"FoldedFamilyModel", "scoreSteps", "(I)V"⟩, 29) := ⟨⟨by decide +kernel, by decide +kernel⟩, List.mem_of_getElem? (i := 664) (by decide +kernel), List.mem_of_getElem? (i := 799) (by decide +kernel), List.mem_of_getElem? (i := 800) (by decide +kernel)⟩
theorem lw_p35 : lw_okq (⟨"FoldedFamilyModel", "targetOf", "(II)I"⟩, 29) := ⟨⟨by decide +kernel, by decide +kernel⟩, List.mem_of_getElem? (i := 664) (by decide +kernel), List.mem_of_getElem? (i := 803) (by decide +kernel), List.mem_of_getElem? (i := 804) (by decide +kernel)⟩
theorem lw_p36 : lw_okq (⟨"FoldedFamilyModel", "rowsFrom", "(II)I"⟩, 29) := ⟨⟨by decide +kernel, by decide +kernel⟩, List.mem_of_getElem? (i := 664) (by decide +kernel), List.mem_of_getElem? (i := 810) (by decide +kernel), List.mem_of_getElem? (i := 811) (by decide +kernel)⟩
theorem lw_p37 : lw_okq (⟨"FoldedFamilyModel", "kindAt", "(II)I"⟩, 29) := ⟨⟨by decide +kernel, by decide +kernel⟩, List.mem_of_getElem? (i := 664) (by decide +kernel), List.mem_of_getElem? (i := 814) (by decide +kernel), List.mem_of_getElem? (i := 815) (by decide +kernel)⟩
theorem lw_p38 : lw_okq (⟨"FoldedFamilyModel", "rowsIn", "(I)I"⟩, 29) := ⟨⟨by decide +kernel, by decide +kernel⟩, List.mem_of_getElem? (i := 664) (by decide +kernel), List.mem_of_getElem? (i := 818) (by decide +kernel), List.mem_of_getElem? (i := 819) (by decide +kernel)⟩
theorem lw_p39 : lw_okq (⟨"FoldedFamilyModel", "scoreLetters", "(I)V"⟩, 29) := ⟨⟨by decide +kernel, by decide +kernel⟩, List.mem_of_getElem? (i := 664) (by decide +kernel), List.mem_of_getElem? (i := 829) (by decide +kernel), List.mem_of_getElem? (i := 830) (by decide +kernel)⟩
theorem lw_p40 : lw_okq (⟨"FoldedFamilyModel", "isState", "(I)Z"⟩, 29) := ⟨⟨by decide +kernel, by decide +kernel⟩, List.mem_of_getElem? (i := 664) (by decide +kernel), List.mem_of_getElem? (i := 837) (by decide +kernel), List.mem_of_getElem? (i := 838) (by decide +kernel)⟩
theorem lw_p41 : lw_okq (⟨"FoldedFamilyModel", "work", "()V"⟩, 29) := ⟨⟨by decide +kernel, by decide +kernel⟩, List.mem_of_getElem? (i := 664) (by decide +kernel), List.mem_of_getElem? (i := 872) (by decide +kernel), List.mem_of_getElem? (i := 873) (by decide +kernel)⟩
theorem lw_p42 : lw_okq (⟨"FoldedFamilyModel", "better", "(III)I"⟩, 29) := ⟨⟨by decide +kernel, by decide +kernel⟩, List.mem_of_getElem? (i := 664) (by decide +kernel), List.mem_of_getElem? (i := 876) (by decide +kernel), List.mem_of_getElem? (i := 877) (by decide +kernel)⟩
theorem lw_p43 : lw_okq (⟨"FoldedFamilyModel", "by", "(IIII)I"⟩, 29) := ⟨⟨by decide +kernel, by decide +kernel⟩, List.mem_of_getElem? (i := 664) (by decide +kernel), List.mem_of_getElem? (i := 880) (by decide +kernel), List.mem_of_getElem? (i := 881) (by decide +kernel)⟩
theorem lw_p44 : lw_okq (⟨"FoldedFamilyModel", "letterScore", "(III)I"⟩, 29) := ⟨⟨by decide +kernel, by decide +kernel⟩, List.mem_of_getElem? (i := 664) (by decide +kernel), List.mem_of_getElem? (i := 893) (by decide +kernel), List.mem_of_getElem? (i := 894) (by decide +kernel)⟩
theorem lw_p45 : lw_okq (⟨"FoldedFamilyModel", "bySplit", "(IIII)I"⟩, 29) := ⟨⟨by decide +kernel, by decide +kernel⟩, List.mem_of_getElem? (i := 664) (by decide +kernel), List.mem_of_getElem? (i := 897) (by decide +kernel), List.mem_of_getElem? (i := 898) (by decide +kernel)⟩
theorem lw_p46 : lw_okq (⟨"FoldedFamilyModel", "free", "(II)Z"⟩, 29) := ⟨⟨by decide +kernel, by decide +kernel⟩, List.mem_of_getElem? (i := 664) (by decide +kernel), List.mem_of_getElem? (i := 905) (by decide +kernel), List.mem_of_getElem? (i := 906) (by decide +kernel)⟩
theorem lw_p47 : lw_okq (⟨"FoldedFamilyModel", "write", "(I)V"⟩, 29) := ⟨⟨by decide +kernel, by decide +kernel⟩, List.mem_of_getElem? (i := 664) (by decide +kernel), List.mem_of_getElem? (i := 913) (by decide +kernel), List.mem_of_getElem? (i := 914) (by decide +kernel)⟩
def lw_privs_3 : List (MethodName × Nat) := [(⟨"FoldedFamilyModel", "settle", "()V"⟩, 29), (⟨"FoldedFamilyModel", "state", "(II)V"⟩, 29), (⟨"FoldedFamilyModel", "scoreSteps", "(I)V"⟩, 29), (⟨"FoldedFamilyModel", "targetOf", "(II)I"⟩, 29), (⟨"FoldedFamilyModel", "rowsFrom", "(II)I"⟩, 29), (⟨"FoldedFamilyModel", "kindAt", "(II)I"⟩, 29), (⟨"FoldedFamilyModel", "rowsIn", "(I)I"⟩, 29), (⟨"FoldedFamilyModel", "scoreLetters", "(I)V"⟩, 29), (⟨"FoldedFamilyModel", "isState", "(I)Z"⟩, 29), (⟨"FoldedFamilyModel", "work", "()V"⟩, 29), (⟨"FoldedFamilyModel", "better", "(III)I"⟩, 29), (⟨"FoldedFamilyModel", "by", "(IIII)I"⟩, 29), (⟨"FoldedFamilyModel", "letterScore", "(III)I"⟩, 29), (⟨"FoldedFamilyModel", "bySplit", "(IIII)I"⟩, 29), (⟨"FoldedFamilyModel", "free", "(II)Z"⟩, 29), (⟨"FoldedFamilyModel", "write", "(I)V"⟩, 29)]
theorem lw_r3 : ∀ q ∈ lw_privs_3, lw_okq q := List.forall_mem_cons.mpr ⟨lw_p32, List.forall_mem_cons.mpr ⟨lw_p33, List.forall_mem_cons.mpr ⟨lw_p34, List.forall_mem_cons.mpr ⟨lw_p35, List.forall_mem_cons.mpr ⟨lw_p36, List.forall_mem_cons.mpr ⟨lw_p37, List.forall_mem_cons.mpr ⟨lw_p38, List.forall_mem_cons.mpr ⟨lw_p39, List.forall_mem_cons.mpr ⟨lw_p40, List.forall_mem_cons.mpr ⟨lw_p41, List.forall_mem_cons.mpr ⟨lw_p42, List.forall_mem_cons.mpr ⟨lw_p43, List.forall_mem_cons.mpr ⟨lw_p44, List.forall_mem_cons.mpr ⟨lw_p45, List.forall_mem_cons.mpr ⟨lw_p46, List.forall_mem_cons.mpr ⟨lw_p47, fun _ h => absurd h List.not_mem_nil⟩⟩⟩⟩⟩⟩⟩⟩⟩⟩⟩⟩⟩⟩⟩⟩
def lw_privs : List (MethodName × Nat) := lw_privs_1 ++ (lw_privs_2 ++ (lw_privs_3))
def lw_tbl : List Cond := k2_sels lw_privs ++ tables_1
theorem lw_privs_ok : ∀ q ∈ lw_privs, lw_okq q := by
  show ∀ q ∈ lw_privs_1 ++ (lw_privs_2 ++ (lw_privs_3)), lw_okq q
  exact List.forall_mem_append.mpr ⟨lw_r1, List.forall_mem_append.mpr ⟨lw_r2, lw_r3⟩⟩
end
section
/-! 02.frame: the good words of the tables, pure words (guards, binds), contracts over one world of a system, calls over it -/
def gw : List Cond := lw_tbl.filter goodWord
theorem gw_mem (i : Nat) {w : Cond} (h : lw_tbl[i]? = some w) (hg : goodWord w = true) : w ∈ gw := List.mem_filter.mpr ⟨List.mem_of_getElem? h, hg⟩
theorem gw_good {c : Cond} (h : c ∈ gw) : GoodIn gw (c :: gw) := by
  have key : ∀ w ∈ gw, w ∈ gw ∧ ((w.onTables && w.keeps) = true ∨ ∃ ty, w = .arrayClass ty) := fun w hw => ⟨hw, good_of_word (List.mem_filter.mp hw).2⟩
  intro w hw
  rcases List.mem_cons.mp hw with rfl | hw
  · exact key _ h
  · exact key _ hw
/-- pure words -/
def xin (i : Int32) (n : Nat) : Bool := !(decide (i < 0)) && decide (i.toNatClampNeg < n)
theorem xin_of {i : Int32} {n : Nat} (h : xin i n = true) : vp_in i n := by
  unfold xin at h
  simp only [Bool.and_eq_true, Bool.not_eq_true', decide_eq_false_iff_not, decide_eq_true_eq] at h
  intro q
  rcases q with q | q
  · exact h.1 q
  · exact absurd h.2 (Nat.not_lt.mpr q)
def gd {α : Type} (b : Bool) (x : Option α) : Option α := match b with
  | true => x
  | false => none
theorem gd_inv {α : Type} {b : Bool} {x : Option α} {z : α} (h : gd b x = some z) : b = true ∧ x = some z := by
  cases b
  · cases h
  · exact ⟨rfl, h⟩
theorem gdi {α : Type} {i : Int32} {n : Nat} {x : Option α} {z : α} (h : gd (xin i n) x = some z) : vp_in i n ∧ x = some z := ⟨xin_of (gd_inv h).1, (gd_inv h).2⟩
def xbool (v : Int32) : Bool := v == 0 || v == 1
theorem xbool_nar {v : Int32} (h : xbool v = true) : narrow .boolean (.int v) = .int v := by
  unfold xbool at h
  simp only [Bool.or_eq_true, beq_iff_eq] at h
  rcases h with rfl | rfl <;> rfl
theorem xif_t {α : Type} {c : Prop} [Decidable c] {a b z : α} (hc : c) (h : (if c then a else b) = z) : a = z := by rw [if_pos hc] at h; exact h
theorem xif_f {α : Type} {c : Prop} [Decidable c] {a b z : α} (hc : ¬ c) (h : (if c then a else b) = z) : b = z := by rw [if_neg hc] at h; exact h
def ob1 {α γ : Type} (x : Option α) (k : α → Option γ) : Option γ := x.bind k
def ob2 {α β γ : Type} (x : Option (α × β)) (k : α → β → Option γ) : Option γ := x.bind fun q => k q.1 q.2
def ob3 {α β δ γ : Type} (x : Option (α × β × δ)) (k : α → β → δ → Option γ) : Option γ := x.bind fun q => k q.1 q.2.1 q.2.2
def ob4 {α β δ ε γ : Type} (x : Option (α × β × δ × ε)) (k : α → β → δ → ε → Option γ) : Option γ := x.bind fun q => k q.1 q.2.1 q.2.2.1 q.2.2.2
def ob5 {α β δ ε ζ γ : Type} (x : Option (α × β × δ × ε × ζ)) (k : α → β → δ → ε → ζ → Option γ) : Option γ := x.bind fun q => k q.1 q.2.1 q.2.2.1 q.2.2.2.1 q.2.2.2.2
def ob6 {α β δ ε ζ η γ : Type} (x : Option (α × β × δ × ε × ζ × η)) (k : α → β → δ → ε → ζ → η → Option γ) : Option γ := x.bind fun q => k q.1 q.2.1 q.2.2.1 q.2.2.2.1 q.2.2.2.2.1 q.2.2.2.2.2
def ob7 {α β δ ε ζ η θ γ : Type} (x : Option (α × β × δ × ε × ζ × η × θ)) (k : α → β → δ → ε → ζ → η → θ → Option γ) : Option γ := x.bind fun q => k q.1 q.2.1 q.2.2.1 q.2.2.2.1 q.2.2.2.2.1 q.2.2.2.2.2.1 q.2.2.2.2.2.2
def ob8 {α β δ ε ζ η θ ι γ : Type} (x : Option (α × β × δ × ε × ζ × η × θ × ι)) (k : α → β → δ → ε → ζ → η → θ → ι → Option γ) : Option γ := x.bind fun q => k q.1 q.2.1 q.2.2.1 q.2.2.2.1 q.2.2.2.2.1 q.2.2.2.2.2.1 q.2.2.2.2.2.2.1 q.2.2.2.2.2.2.2
theorem ob1_inv {α γ : Type} {x : Option α} {k : α → Option γ} {z : γ} (h : ob1 x k = some z) : ∃ a, x = some a ∧ k a = some z := by
  cases x with
  | none => cases h
  | some q => exact ⟨q, rfl, h⟩
theorem ob2_inv {α β γ : Type} {x : Option (α × β)} {k : α → β → Option γ} {z : γ} (h : ob2 x k = some z) : ∃ a b, x = some (a, b) ∧ k a b = some z := by
  cases x with
  | none => cases h
  | some q => exact ⟨q.1, q.2, rfl, h⟩
theorem ob3_inv {α β δ γ : Type} {x : Option (α × β × δ)} {k : α → β → δ → Option γ} {z : γ} (h : ob3 x k = some z) : ∃ a b c, x = some (a, b, c) ∧ k a b c = some z := by
  cases x with
  | none => cases h
  | some q => exact ⟨q.1, q.2.1, q.2.2, rfl, h⟩
theorem ob4_inv {α β δ ε γ : Type} {x : Option (α × β × δ × ε)} {k : α → β → δ → ε → Option γ} {z : γ} (h : ob4 x k = some z) : ∃ a b c d, x = some (a, b, c, d) ∧ k a b c d = some z := by
  cases x with
  | none => cases h
  | some q => exact ⟨q.1, q.2.1, q.2.2.1, q.2.2.2, rfl, h⟩
theorem ob5_inv {α β δ ε ζ γ : Type} {x : Option (α × β × δ × ε × ζ)} {k : α → β → δ → ε → ζ → Option γ} {z : γ} (h : ob5 x k = some z) : ∃ a b c d e, x = some (a, b, c, d, e) ∧ k a b c d e = some z := by
  cases x with
  | none => cases h
  | some q => exact ⟨q.1, q.2.1, q.2.2.1, q.2.2.2.1, q.2.2.2.2, rfl, h⟩
theorem ob6_inv {α β δ ε ζ η γ : Type} {x : Option (α × β × δ × ε × ζ × η)} {k : α → β → δ → ε → ζ → η → Option γ} {z : γ} (h : ob6 x k = some z) : ∃ a b c d e f, x = some (a, b, c, d, e, f) ∧ k a b c d e f = some z := by
  cases x with
  | none => cases h
  | some q => exact ⟨q.1, q.2.1, q.2.2.1, q.2.2.2.1, q.2.2.2.2.1, q.2.2.2.2.2, rfl, h⟩
theorem ob7_inv {α β δ ε ζ η θ γ : Type} {x : Option (α × β × δ × ε × ζ × η × θ)} {k : α → β → δ → ε → ζ → η → θ → Option γ} {z : γ} (h : ob7 x k = some z) : ∃ a b c d e f g, x = some (a, b, c, d, e, f, g) ∧ k a b c d e f g = some z := by
  cases x with
  | none => cases h
  | some q => exact ⟨q.1, q.2.1, q.2.2.1, q.2.2.2.1, q.2.2.2.2.1, q.2.2.2.2.2.1, q.2.2.2.2.2.2, rfl, h⟩
theorem ob8_inv {α β δ ε ζ η θ ι γ : Type} {x : Option (α × β × δ × ε × ζ × η × θ × ι)} {k : α → β → δ → ε → ζ → η → θ → ι → Option γ} {z : γ} (h : ob8 x k = some z) : ∃ a b c d e f g i, x = some (a, b, c, d, e, f, g, i) ∧ k a b c d e f g i = some z := by
  cases x with
  | none => cases h
  | some q => exact ⟨q.1, q.2.1, q.2.2.1, q.2.2.2.1, q.2.2.2.2.1, q.2.2.2.2.2.1, q.2.2.2.2.2.2.1, q.2.2.2.2.2.2.2, rfl, h⟩
theorem os1 {α : Type} {a a' : α} (h : some a = some a') : a = a' := Option.some.inj h
theorem os2 {α β : Type} {a a' : α} {b b' : β} (h : some (a, b) = some (a', b')) : a = a' ∧ b = b' := by cases h; exact ⟨rfl, rfl⟩
theorem os3 {α β δ : Type} {a a' : α} {b b' : β} {c c' : δ} (h : some (a, b, c) = some (a', b', c')) : a = a' ∧ b = b' ∧ c = c' := by cases h; exact ⟨rfl, rfl, rfl⟩
theorem os4 {α β δ ε : Type} {a a' : α} {b b' : β} {c c' : δ} {d d' : ε} (h : some (a, b, c, d) = some (a', b', c', d')) : a = a' ∧ b = b' ∧ c = c' ∧ d = d' := by cases h; exact ⟨rfl, rfl, rfl, rfl⟩
theorem os5 {α β δ ε ζ : Type} {a a' : α} {b b' : β} {c c' : δ} {d d' : ε} {e e' : ζ} (h : some (a, b, c, d, e) = some (a', b', c', d', e')) : a = a' ∧ b = b' ∧ c = c' ∧ d = d' ∧ e = e' := by cases h; exact ⟨rfl, rfl, rfl, rfl, rfl⟩
theorem os6 {α β δ ε ζ η : Type} {a a' : α} {b b' : β} {c c' : δ} {d d' : ε} {e e' : ζ} {f f' : η} (h : some (a, b, c, d, e, f) = some (a', b', c', d', e', f')) : a = a' ∧ b = b' ∧ c = c' ∧ d = d' ∧ e = e' ∧ f = f' := by cases h; exact ⟨rfl, rfl, rfl, rfl, rfl, rfl⟩
theorem os7 {α β δ ε ζ η θ : Type} {a a' : α} {b b' : β} {c c' : δ} {d d' : ε} {e e' : ζ} {f f' : η} {g g' : θ} (h : some (a, b, c, d, e, f, g) = some (a', b', c', d', e', f', g')) : a = a' ∧ b = b' ∧ c = c' ∧ d = d' ∧ e = e' ∧ f = f' ∧ g = g' := by cases h; exact ⟨rfl, rfl, rfl, rfl, rfl, rfl, rfl⟩
theorem os8 {α β δ ε ζ η θ ι : Type} {a a' : α} {b b' : β} {c c' : δ} {d d' : ε} {e e' : ζ} {f f' : η} {g g' : θ} {i i' : ι} (h : some (a, b, c, d, e, f, g, i) = some (a', b', c', d', e', f', g', i')) : a = a' ∧ b = b' ∧ c = c' ∧ d = d' ∧ e = e' ∧ f = f' ∧ g = g' ∧ i = i' := by cases h; exact ⟨rfl, rfl, rfl, rfl, rfl, rfl, rfl, rfl⟩
def ushr32 (x y : Int32) : Int32 := (x.toUInt32 >>> (y.toUInt32 &&& Int32.toUInt32 31)).toInt32
def chr16 (x : Int32) : Int32 := (x.toUInt32 % 65536).toInt32
def imax (x y : Int32) : Int32 := if x < y then y else x
def imin (x y : Int32) : Int32 := if y < x then y else x
/-- the nest mates' links that static calls use -/
def nstl : List (String × Nat × MethodName × String) := [("FoldedFamily$Columns", 32, ⟨"FoldedFamily", "isLetter", "(I)Z"⟩, "FoldedFamily"), ("FoldedFamily$Grammar", 74, ⟨"FoldedFamily", "statesOf", "(I)[I"⟩, "FoldedFamily"), ("FoldedFamily$Grammar", 107, ⟨"FoldedFamily", "isInsert", "(I)Z"⟩, "FoldedFamily"), ("FoldedFamily$Grammar", 118, ⟨"FoldedFamily", "log", "(II)I"⟩, "FoldedFamily"), ("FoldedFamily$Grammar", 121, ⟨"FoldedFamily", "lettersOf", "(I)I"⟩, "FoldedFamily"), ("FoldedFamily$Values", 59, ⟨"FoldedFamily", "lettersBefore", "(I)I"⟩, "FoldedFamily"), ("FoldedFamily$Values", 62, ⟨"FoldedFamily", "lettersOf", "(I)I"⟩, "FoldedFamily"), ("FoldedFamily$Derivation", 63, ⟨"FoldedFamily", "lettersBefore", "(I)I"⟩, "FoldedFamily"), ("FoldedFamily$Derivation", 66, ⟨"FoldedFamily", "lettersOf", "(I)I"⟩, "FoldedFamily")]
def xN (U : State) : Prop := ∀ q ∈ nstl, va_Nw (.methodLinkNest q.1 q.2.1 q.2.2.1 q.2.2.2) U
theorem xN.warm {s U : State} (hW : s.WarmedH U.vm) (h : xN s) : xN U := fun q hq => va_Nw.warmM hW (h q hq)
theorem xN.same {u U : State} (e : u.vm = U.vm) (h : xN u) : xN U := fun q hq => va_Nw.same rfl e (h q hq)
/-- a contract over one world w -/
def xPre (D : va_G) (cl : List vw_C) (tys : List (ClassId × FieldType)) (w : va_W) (sz : Nat) (av : List Value) : Array Value → State → Prop := va_Pc av (fun U => U.heap.size = sz ∧ va_P D cl w U.heap ∧ va_K D cl tys U ∧ va_D (fun _ => True) w ∧ xN U)
def xQi (D : va_G) (cl : List vw_C) (w w' : va_W) (sz : Nat) (r : Int32) : Array Value → State → Outcome → State → Prop := va_Qi (S := Unit) (fun r' _ => r' = r) (fun _ t => va_P D cl w' t.heap) (va_A w sz)
def xQl (D : va_G) (cl : List vw_C) (w w' : va_W) (sz : Nat) (r : Int64) : Array Value → State → Outcome → State → Prop := va_Ql (S := Unit) (fun r' _ => r' = r) (fun _ t => va_P D cl w' t.heap) (va_A w sz)
def xQv (D : va_G) (cl : List vw_C) (w w' : va_W) (sz : Nat) : Array Value → State → Outcome → State → Prop := va_Qv (S := Unit) (fun _ => True) (fun _ t => va_P D cl w' t.heap) (va_A w sz)
def xQr (D : va_G) (cl : List vw_C) (w w' : va_W) (sz : Nat) (r : Nat) : Array Value → State → Outcome → State → Prop := va_Qr (S := Unit) (fun _ => True) (fun _ a t => a = r ∧ va_P D cl w' t.heap) (va_A w sz)
theorem xPre_blind {D : va_G} {cl : List vw_C} {tys : List (ClassId × FieldType)} {w : va_W} {sz : Nat} {av : List Value} : FrameBlind (xPre D cl tys w sz av) := by
  intro a U g mk q
  obtain ⟨q0, q1, qP, qK, qD, qN⟩ := q
  exact ⟨q0, q1, qP, va_K.moved (u := U) (U := U.calling g mk a) (Vm.Alike.refl U.vm) qK, qD, xN.same (u := U) (U := U.calling g mk a) rfl qN⟩
theorem xD_same {A : Nat → Prop} {w w' : va_W} (h : va_D A w) (e : w.map Prod.fst = w'.map Prod.fst) : va_D A w' := by
  have key : ∀ (k : Nat) (q : Nat × va_E), w'[k]? = some q → ∃ q', w[k]? = some q' ∧ q'.1 = q.1 := by
    intro k q hk
    have h1 : (w'.map Prod.fst)[k]? = some q.1 := by rw [List.getElem?_map, hk]; rfl
    rw [← e, List.getElem?_map] at h1
    cases hw : w[k]? with
    | none => rw [hw] at h1; cases h1
    | some q' => rw [hw] at h1; exact ⟨q', rfl, Option.some.inj h1⟩
  refine ⟨fun i j p q hp hq hpq => ?_, fun k q hk => ?_⟩
  · obtain ⟨p', h1, e1⟩ := key i p hp
    obtain ⟨q', h2, e2⟩ := key j q hq
    exact h.1 i j p' q' h1 h2 (by rw [e1, e2]; exact hpq)
  · obtain ⟨q', h1, e1⟩ := key k q hk
    rw [← e1]
    exact h.2 k q' h1
theorem xfree {A : Nat → Prop} {w : va_W} {H0 H : Heap} {locs : List Loc} (hD : va_D A w) (hS : va_S A H0 H locs) (hA : ∀ q, H0.size ≤ q → A q) : ∀ q, va_A w H.size q → A q := by
  intro q h
  rcases h with ⟨k, e, h⟩ | h
  · exact hD.2 k _ h
  · exact hA q (Nat.le_trans hS.1 h)
section XM
variable {l : Launch} {y : MethodName} {b : ByteArray} {nL : Nat} {rm : Room} {D : va_G} {cl : List vw_C} {tys : List (ClassId × FieldType)} {w w' : va_W} {sz : Nat} {av : List Value}
theorem xmet {ret : Option FieldType} {Qc : Array Value → State → Outcome → State → Prop} (hy : plainName y.cls = true) (hn : (lg_sl av).length ≤ nL)
    (body : ∀ (p : Program) (e : Env) (s : State) (m : MethodId) (below : List Frame) (meth : Method) (c : Code) (A : Nat → Prop) (ls : Array Slot), s.heap.size = sz → va_A w sz = A → p.tables.exec = Jvm.exec → c.code = b → meth.sig.returnType = ret → meth.locks = false → c.maxLocals = nL → (∀ u ∈ gw, u.before av.toArray s = true) → s.vm.findClass y.cls = some m.cls → va_K D cl tys s → xN s → (∀ q : Nat, s.heap.size ≤ q → A q) → va_P D cl w s.heap → va_D A w → va_S A s.heap s.heap [] → lv_has ls nL (lv_args 0 av) →
      W p l e rm s m av.toArray below meth c s.heap [] 0 0 (MQ below Qc av.toArray s 0 0 A) (F0 m 0 ls [])) :
    Met l y (.code y b nL ret :: gw) rm (xPre D cl tys w sz av) Qc 0 0 (va_A w sz) := by
  refine Met.ofW (cc := b) (maxL := nL) (ret := ret) hy rfl ?_
  intro p e s m args below meth c s₁ B hml hv
  obtain ⟨rfl, hsz, hP, hK, hD0, hN⟩ := hv
  have hts : ∀ u ∈ gw, u.before av.toArray s = true := fun u hu => atoms_spec (ws := Cond.code y b nL ret :: gw) B.pre u (List.mem_cons_of_mem _ hu)
  have hown : s.vm.findClass y.cls = some m.cls := findClass_of_methodNamed B.named
  have hl := lv_entry av (n := nL) hn
  rw [lg_entry_eq]
  exact body p e s m below meth c _ _ hsz rfl B.exec B.bytes B.returns B.notSynchronized hml hts hown hK hN (fun q h => Or.inr (by rw [← hsz]; exact h)) hP (hD0.self (sz := sz)) va_S.rf hl
theorem xmet_i {r : Int32} (hy : plainName y.cls = true) (hn : (lg_sl av).length ≤ nL)
    (body : ∀ (p : Program) (e : Env) (s : State) (m : MethodId) (below : List Frame) (meth : Method) (c : Code) (A : Nat → Prop) (ls : Array Slot) (Q : State → Prop), p.tables.exec = Jvm.exec → c.code = b → c.maxLocals = nL → (∀ u ∈ gw, u.before av.toArray s = true) → s.vm.findClass y.cls = some m.cls → va_K D cl tys s → xN s → (∀ q : Nat, s.heap.size ≤ q → A q) → va_P D cl w s.heap → va_D A w → va_S A s.heap s.heap [] → lv_has ls nL (lv_args 0 av) →
      (∀ (H : Heap) (locs : List Loc) (pc : Nat) (ls : Array Slot) (v : Int32), decode b pc = .ok (.ireturn, 1) → v = r → va_P D cl w' H → va_S A s.heap H locs → W p l e rm s m av.toArray below meth c H locs 0 0 Q (F0 m pc ls [.int v])) →
      W p l e rm s m av.toArray below meth c s.heap [] 0 0 Q (F0 m 0 ls [])) :
    Met l y (.code y b nL (some .int) :: gw) rm (xPre D cl tys w sz av) (xQi D cl w w' sz r) 0 0 (va_A w sz) := by
  refine xmet hy hn ?_
  intro p e s m below meth c A ls hsz hAe hx hb hr hlocks hml hts hown hK hN hA hP hD hS hl
  refine body p e s m below meth c A ls _ hx hb hml hts hown hK hN hA hP hD hS hl ?_
  intro H locs pc ls v hdg hv hP hS
  exact W.iret (v := v) hx hb hr (fun t ht hW => ⟨⟨v, (), rfl, hv, by show va_P D cl w' t.heap; rw [ht]; exact hP⟩, by rw [hAe]; exact hS.F ht⟩) hS.2.2 hdg hlocks
theorem xmet_z {r : Int32} (hy : plainName y.cls = true) (hn : (lg_sl av).length ≤ nL)
    (body : ∀ (p : Program) (e : Env) (s : State) (m : MethodId) (below : List Frame) (meth : Method) (c : Code) (A : Nat → Prop) (ls : Array Slot) (Q : State → Prop), p.tables.exec = Jvm.exec → c.code = b → c.maxLocals = nL → (∀ u ∈ gw, u.before av.toArray s = true) → s.vm.findClass y.cls = some m.cls → va_K D cl tys s → xN s → (∀ q : Nat, s.heap.size ≤ q → A q) → va_P D cl w s.heap → va_D A w → va_S A s.heap s.heap [] → lv_has ls nL (lv_args 0 av) →
      (∀ (H : Heap) (locs : List Loc) (pc : Nat) (ls : Array Slot) (v : Int32), decode b pc = .ok (.ireturn, 1) → v = r → narrow .boolean (.int v) = .int v → va_P D cl w' H → va_S A s.heap H locs → W p l e rm s m av.toArray below meth c H locs 0 0 Q (F0 m pc ls [.int v])) →
      W p l e rm s m av.toArray below meth c s.heap [] 0 0 Q (F0 m 0 ls [])) :
    Met l y (.code y b nL (some .boolean) :: gw) rm (xPre D cl tys w sz av) (xQi D cl w w' sz r) 0 0 (va_A w sz) := by
  refine xmet hy hn ?_
  intro p e s m below meth c A ls hsz hAe hx hb hr hlocks hml hts hown hK hN hA hP hD hS hl
  refine body p e s m below meth c A ls _ hx hb hml hts hown hK hN hA hP hD hS hl ?_
  intro H locs pc ls v hdg hv hnar hP hS
  exact W.zret (v := v) hx hb hr hnar (fun t ht hW => ⟨⟨v, (), rfl, hv, by show va_P D cl w' t.heap; rw [ht]; exact hP⟩, by rw [hAe]; exact hS.F ht⟩) hS.2.2 hdg hlocks
theorem xmet_v (hy : plainName y.cls = true) (hn : (lg_sl av).length ≤ nL)
    (body : ∀ (p : Program) (e : Env) (s : State) (m : MethodId) (below : List Frame) (meth : Method) (c : Code) (A : Nat → Prop) (ls : Array Slot) (Q : State → Prop), p.tables.exec = Jvm.exec → c.code = b → c.maxLocals = nL → (∀ u ∈ gw, u.before av.toArray s = true) → s.vm.findClass y.cls = some m.cls → va_K D cl tys s → xN s → (∀ q : Nat, s.heap.size ≤ q → A q) → va_P D cl w s.heap → va_D A w → va_S A s.heap s.heap [] → lv_has ls nL (lv_args 0 av) →
      (∀ (H : Heap) (locs : List Loc) (pc : Nat) (ls : Array Slot), decode b pc = .ok (.return_, 1) → va_P D cl w' H → va_S A s.heap H locs → W p l e rm s m av.toArray below meth c H locs 0 0 Q (F0 m pc ls [])) →
      W p l e rm s m av.toArray below meth c s.heap [] 0 0 Q (F0 m 0 ls [])) :
    Met l y (.code y b nL none :: gw) rm (xPre D cl tys w sz av) (xQv D cl w w' sz) 0 0 (va_A w sz) := by
  refine xmet hy hn ?_
  intro p e s m below meth c A ls hsz hAe hx hb hr hlocks hml hts hown hK hN hA hP hD hS hl
  refine body p e s m below meth c A ls _ hx hb hml hts hown hK hN hA hP hD hS hl ?_
  intro H locs pc ls hdg hP hS
  exact W.vret hx hb hr (fun t ht hW => ⟨⟨(), rfl, trivial, by show va_P D cl w' t.heap; rw [ht]; exact hP⟩, by rw [hAe]; exact hS.F ht⟩) hS.2.2 hdg hlocks
theorem xmet_l {r : Int64} (hy : plainName y.cls = true) (hn : (lg_sl av).length ≤ nL)
    (body : ∀ (p : Program) (e : Env) (s : State) (m : MethodId) (below : List Frame) (meth : Method) (c : Code) (A : Nat → Prop) (ls : Array Slot) (Q : State → Prop), p.tables.exec = Jvm.exec → c.code = b → c.maxLocals = nL → (∀ u ∈ gw, u.before av.toArray s = true) → s.vm.findClass y.cls = some m.cls → va_K D cl tys s → xN s → (∀ q : Nat, s.heap.size ≤ q → A q) → va_P D cl w s.heap → va_D A w → va_S A s.heap s.heap [] → lv_has ls nL (lv_args 0 av) →
      (∀ (H : Heap) (locs : List Loc) (pc : Nat) (ls : Array Slot) (v : Int64), decode b pc = .ok (.lreturn, 1) → v = r → va_P D cl w' H → va_S A s.heap H locs → W p l e rm s m av.toArray below meth c H locs 0 0 Q (F0 m pc ls [.long v])) →
      W p l e rm s m av.toArray below meth c s.heap [] 0 0 Q (F0 m 0 ls [])) :
    Met l y (.code y b nL (some .long) :: gw) rm (xPre D cl tys w sz av) (xQl D cl w w' sz r) 0 0 (va_A w sz) := by
  refine xmet hy hn ?_
  intro p e s m below meth c A ls hsz hAe hx hb hr hlocks hml hts hown hK hN hA hP hD hS hl
  refine body p e s m below meth c A ls _ hx hb hml hts hown hK hN hA hP hD hS hl ?_
  intro H locs pc ls v hdg hv hP hS
  exact W.lret (v := v) hx hb hr (fun t ht hW => ⟨⟨v, (), rfl, hv, by show va_P D cl w' t.heap; rw [ht]; exact hP⟩, by rw [hAe]; exact hS.F ht⟩) hS.2.2 hdg hlocks
end XM
/-- what a call's site needs of the tables -/
def xV (own : String) (index : Nat) (C : String) (y : MethodName) (bytes : ByteArray) (maxL : Nat) (ret : Option FieldType) (n : Nat) : Prop := Cond.code y bytes maxL ret ∈ gw ∧ Cond.methodLink own index y ∈ gw ∧ Cond.instanceMethod y ∈ gw ∧ Cond.selects C y y ∈ gw ∧ Cond.initialized y.cls ∈ gw ∧ (y.cls ≠ "java/lang/invoke/MethodHandle" ∧ y.cls ≠ "java/lang/invoke/VarHandle" ∧ (parseMethodDescriptor y.desc).map (fun d => d.parameters.length) = some n)
def xSt (own : String) (index : Nat) (y : MethodName) (bytes : ByteArray) (maxL : Nat) (ret : Option FieldType) (n : Nat) : Prop := Cond.code y bytes maxL ret ∈ gw ∧ Cond.methodLink own index y ∈ gw ∧ Cond.static y ∈ gw ∧ Cond.initialized y.cls ∈ gw ∧ (y.cls ≠ "java/lang/invoke/MethodHandle" ∧ y.cls ≠ "java/lang/invoke/VarHandle" ∧ (parseMethodDescriptor y.desc).map (fun d => d.parameters.length) = some n)
def xSN (own : String) (index : Nat) (host : String) (y : MethodName) (bytes : ByteArray) (maxL : Nat) (ret : Option FieldType) (n : Nat) : Prop := Cond.code y bytes maxL ret ∈ gw ∧ (own, index, y, host) ∈ nstl ∧ Cond.static y ∈ gw ∧ Cond.initialized y.cls ∈ gw ∧ (y.cls ≠ "java/lang/invoke/MethodHandle" ∧ y.cls ≠ "java/lang/invoke/VarHandle" ∧ (parseMethodDescriptor y.desc).map (fun d => d.parameters.length) = some n)
section XC
variable {p : Program} {l : Launch} {e : Env} {R : Room} {s : State} {m : MethodId} {args : Array Value} {below : List Frame} {meth : Method} {c : Code} {H : Heap} {locs : List Loc} {cells slots : Nat} {Q : State → Prop} {pc : Nat} {ls : Array Slot} {st0 rest : List Value} {cc : ByteArray} {nL : Nat} {own : String} {index n maxL : Nat} {y : MethodName} {bytes : ByteArray} {ret : Option FieldType} {rm : Room} {D : va_G} {cl : List vw_C} {tys : List (ClassId × FieldType)} {w w' : va_W} {As : List Value} {bA : Nat} {A : Nat → Prop} {H0 : Heap}
theorem xrunV {C : String} {Qc : Array Value → State → Outcome → State → Prop} (S : CallFix p m c cc nL s args gw own) (hM : Met l y (.code y bytes maxL ret :: gw) rm (xPre D cl tys w H.size (.ref bA :: As)) Qc 0 0 (va_A w H.size)) (Z : xV own index C y bytes maxL ret n) (hR : (rm.cells = 0 ∧ rm.slots = 0) ∧ rm.frames + 1 ≤ R.frames ∧ 8 + (maxL + 11) + rm.locals ≤ R.locals) (hK : va_K D cl tys s) (hP : va_P D cl w H) (hD : va_D A w) (hN : xN s)
    (hrc : ∃ cell : Cell, H[bA]? = some cell ∧ cell.vm.isStatics = false ∧ s.vm.findClass C = some cell.cls) (hn : As.length = n) (hsize : ls.size = nL) (hstack : st0 = As.reverse ++ .ref bA :: rest) (hW : (rest.map fun v => v.category).sum ≤ 8) (hdg : decode cc pc = .ok (.invokevirtual index, 3)) (hf : cells ≤ R.cells ∧ slots ≤ R.slots) :
    va_Run p l e R s m args below meth c H locs cells slots 0 0 (F0 m pc ls st0) rest (Qc (Value.ref bA :: As).toArray) (va_A w H.size) := by
  obtain ⟨z1, z2, z3, z4, z5, z6⟩ := Z
  have ht := S.2.2.2.2
  refine va_runV S hM ⟨callB_of n ht (gw_good z1) rfl hR.1.1 hR.1.2 (ht _ z5) (ht _ z2) z6 hR.2, ht _ z3, ht _ z4⟩ ⟨xPre_blind, hrc, fun U hU hW => ⟨rfl, by rw [hU], by rw [hU]; exact hP, va_K.moved hW.alike hK, hD.weaken (fun _ _ _ _ => trivial), xN.warm hW hN⟩⟩ rfl hn hsize hstack (lv_room hW) hdg hf
theorem xrunS {Qc : Array Value → State → Outcome → State → Prop} (S : CallFix p m c cc nL s args gw own) (hM : Met l y (.code y bytes maxL ret :: gw) rm (xPre D cl tys w H.size As) Qc 0 0 (va_A w H.size)) (Z : xSt own index y bytes maxL ret n) (hR : (rm.cells = 0 ∧ rm.slots = 0) ∧ rm.frames + 1 ≤ R.frames ∧ 8 + (maxL + 11) + rm.locals ≤ R.locals) (hK : va_K D cl tys s) (hP : va_P D cl w H) (hD : va_D A w) (hN : xN s)
    (hn : As.length = n) (hsize : ls.size = nL) (hstack : st0 = As.reverse ++ rest) (hW : (rest.map fun v => v.category).sum ≤ 8) (hdg : decode cc pc = .ok (.invokestatic index, 3)) (hf : cells ≤ R.cells ∧ slots ≤ R.slots) :
    va_Run p l e R s m args below meth c H locs cells slots 0 0 (F0 m pc ls st0) rest (Qc As.toArray) (va_A w H.size) := by
  obtain ⟨z1, z2, z3, z5, z6⟩ := Z
  have ht := S.2.2.2.2
  refine va_runS S hM ⟨callB_of n ht (gw_good z1) rfl hR.1.1 hR.1.2 (ht _ z5) (ht _ z2) z6 hR.2, ht _ z3⟩ ⟨xPre_blind, fun U hU hW => ⟨rfl, by rw [hU], by rw [hU]; exact hP, va_K.moved hW.alike hK, hD.weaken (fun _ _ _ _ => trivial), xN.warm hW hN⟩⟩ rfl hn hsize hstack (lv_room hW) hdg hf
theorem xrunSN {host : String} {Qc : Array Value → State → Outcome → State → Prop} (S : CallFix p m c cc nL s args gw own) (hM : Met l y (.code y bytes maxL ret :: gw) rm (xPre D cl tys w H.size As) Qc 0 0 (va_A w H.size)) (Z : xSN own index host y bytes maxL ret n) (hR : (rm.cells = 0 ∧ rm.slots = 0) ∧ rm.frames + 1 ≤ R.frames ∧ 8 + (maxL + 11) + rm.locals ≤ R.locals) (hK : va_K D cl tys s) (hP : va_P D cl w H) (hD : va_D A w) (hN : xN s)
    (hn : As.length = n) (hsize : ls.size = nL) (hstack : st0 = As.reverse ++ rest) (hW : (rest.map fun v => v.category).sum ≤ 8) (hdg : decode cc pc = .ok (.invokestatic index, 3)) (hf : cells ≤ R.cells ∧ slots ≤ R.slots) :
    va_Run p l e R s m args below meth c H locs cells slots 0 0 (F0 m pc ls st0) rest (Qc As.toArray) (va_A w H.size) := by
  obtain ⟨z1, z2, z3, z5, z6⟩ := Z
  have ht := S.2.2.2.2
  refine va_runSN S hM ⟨va_cnB n ht (gw_good z1) rfl hR.1.1 hR.1.2 (hN _ z2) (ht _ z5) z6 hR.2, ht _ z3, trivial⟩ ⟨xPre_blind, fun U hU hW => ⟨rfl, by rw [hU], by rw [hU]; exact hP, va_K.moved hW.alike hK, hD.weaken (fun _ _ _ _ => trivial), xN.warm hW hN⟩⟩ rfl hn hsize hstack (lv_room hW) hdg hf
theorem xk_i {r : Int32} {a : Array Value} (hr : va_Run p l e R s m args below meth c H locs cells slots 0 0 (F0 m pc ls st0) rest (xQi D cl w w' H.size r a) (va_A w H.size)) (hS : va_S A H0 H locs) (hD : va_D A w) (same : w.map Prod.fst = w'.map Prod.fst) (hA : ∀ q, H0.size ≤ q → A q)
    (kk : ∀ (H1 : Heap) (locs1 : List Loc), va_P D cl w' H1 → va_D A w' → va_S A H0 H1 locs1 → W p l e R s m args below meth c H1 locs1 cells slots Q (F0 m (pc + 3) ls (.int r :: rest))) : W p l e R s m args below meth c H locs cells slots Q (F0 m pc ls st0) := by
  have hF := xfree hD hS hA
  refine va_calli hr hS (fun q _ h => hF q h) hF (fun r' u t H1 locs1 ht hvm hw hB hz1 hk1 hS1 => ?_)
  rw [hw]
  exact kk H1 locs1 (by rw [← ht]; exact hB) (xD_same hD same) hS1
theorem xk_l {r : Int64} {a : Array Value} (hr : va_Run p l e R s m args below meth c H locs cells slots 0 0 (F0 m pc ls st0) rest (xQl D cl w w' H.size r a) (va_A w H.size)) (hS : va_S A H0 H locs) (hD : va_D A w) (same : w.map Prod.fst = w'.map Prod.fst) (hA : ∀ q, H0.size ≤ q → A q)
    (kk : ∀ (H1 : Heap) (locs1 : List Loc), va_P D cl w' H1 → va_D A w' → va_S A H0 H1 locs1 → W p l e R s m args below meth c H1 locs1 cells slots Q (F0 m (pc + 3) ls (.long r :: rest))) : W p l e R s m args below meth c H locs cells slots Q (F0 m pc ls st0) := by
  have hF := xfree hD hS hA
  refine va_calll hr hS (fun q _ h => hF q h) hF (fun r' u t H1 locs1 ht hvm hw hB hz1 hk1 hS1 => ?_)
  rw [hw]
  exact kk H1 locs1 (by rw [← ht]; exact hB) (xD_same hD same) hS1
theorem xk_v {a : Array Value} (hr : va_Run p l e R s m args below meth c H locs cells slots 0 0 (F0 m pc ls st0) rest (xQv D cl w w' H.size a) (va_A w H.size)) (hS : va_S A H0 H locs) (hD : va_D A w) (same : w.map Prod.fst = w'.map Prod.fst) (hA : ∀ q, H0.size ≤ q → A q)
    (kk : ∀ (H1 : Heap) (locs1 : List Loc), va_P D cl w' H1 → va_D A w' → va_S A H0 H1 locs1 → W p l e R s m args below meth c H1 locs1 cells slots Q (F0 m (pc + 3) ls rest)) : W p l e R s m args below meth c H locs cells slots Q (F0 m pc ls st0) := by
  have hF := xfree hD hS hA
  refine va_callv hr hS (fun q _ h => hF q h) hF (fun u t H1 locs1 ht hvm hw hB hz1 hk1 hS1 => ?_)
  exact kk H1 locs1 (by rw [← ht]; exact hB) (xD_same hD same) hS1
theorem xk_r {r : Nat} {a : Array Value} (hr : va_Run p l e R s m args below meth c H locs cells slots 0 0 (F0 m pc ls st0) rest (xQr D cl w w' H.size r a) (va_A w H.size)) (hS : va_S A H0 H locs) (hD : va_D A w) (same : w.map Prod.fst = w'.map Prod.fst) (hA : ∀ q, H0.size ≤ q → A q)
    (kk : ∀ (H1 : Heap) (locs1 : List Loc), va_P D cl w' H1 → va_D A w' → va_S A H0 H1 locs1 → W p l e R s m args below meth c H1 locs1 cells slots Q (F0 m (pc + 3) ls (.ref r :: rest))) : W p l e R s m args below meth c H locs cells slots Q (F0 m pc ls st0) := by
  have hF := xfree hD hS hA
  refine va_callr hr hS (fun q _ h => hF q h) hF (fun u ra t H1 locs1 ht hvm hw hB hz1 hk1 hS1 => ?_)
  rw [hB.1]
  exact kk H1 locs1 (by rw [← ht]; exact hB.2) (xD_same hD same) hS1
end XC
end
section
/-! 03.names: classes, fields, worlds, methods (written by wip/gen) -/
abbrev R_Fa : String := "FoldedFamily"
def F_Fa : u_T := fun k => match k with
  | 0 => ("FoldedFamily", "columns", "LFoldedFamily$Columns;", true)
  | 1 => ("FoldedFamily", "tree", "LFoldedFamily$Tree;", true)
  | 2 => ("FoldedFamily", "grammar", "LFoldedFamily$Grammar;", true)
  | 3 => ("FoldedFamily", "text", "LFoldedFamily$Text;", true)
  | 4 => ("FoldedFamily", "values", "LFoldedFamily$Values;", true)
  | 5 => ("FoldedFamily", "hits", "LFoldedFamily$Hits;", true)
  | _ => ("FoldedFamily", "derivation", "LFoldedFamily$Derivation;", true)
def t_Fa : Nat → FieldType := fun k => match k with
  | 0 => .object "FoldedFamily$Columns"
  | 1 => .object "FoldedFamily$Tree"
  | 2 => .object "FoldedFamily$Grammar"
  | 3 => .object "FoldedFamily$Text"
  | 4 => .object "FoldedFamily$Values"
  | 5 => .object "FoldedFamily$Hits"
  | _ => .object "FoldedFamily$Derivation"
theorem n_Fa : ∀ a, a < 7 → ∀ b, b < 7 → a ≠ b → (F_Fa a).2.1 ≠ (F_Fa b).2.1 := by decide +kernel
theorem t_Fa_ok : ∀ k, k < 7 → parseFieldDescriptor (F_Fa k).2.2.1 = some (t_Fa k) := by decide +kernel
theorem iw_Fa : ∀ w ∈ u_ws R_Fa F_Fa 7, w ∈ gw := by decide +kernel
abbrev R_Co : String := "FoldedFamily$Columns"
def F_Co : u_T := fun k => match k with
  | 0 => ("FoldedFamily$Columns", "rows", "I", true)
  | 1 => ("FoldedFamily$Columns", "marks", "[C", true)
  | 2 => ("FoldedFamily$Columns", "rowSets", "[I", true)
  | 3 => ("FoldedFamily$Columns", "partners", "[I", true)
  | 4 => ("FoldedFamily$Columns", "open", "[I", true)
  | _ => ("FoldedFamily$Columns", "count", "I", false)
def t_Co : Nat → FieldType := fun k => match k with
  | 0 => .int
  | 1 => .array .char
  | 2 => .array .int
  | 3 => .array .int
  | 4 => .array .int
  | _ => .int
theorem n_Co : ∀ a, a < 6 → ∀ b, b < 6 → a ≠ b → (F_Co a).2.1 ≠ (F_Co b).2.1 := by decide +kernel
theorem t_Co_ok : ∀ k, k < 6 → parseFieldDescriptor (F_Co k).2.2.1 = some (t_Co k) := by decide +kernel
theorem iw_Co : ∀ w ∈ u_ws R_Co F_Co 6, w ∈ gw := by decide +kernel
abbrev R_Tr : String := "FoldedFamily$Tree"
def F_Tr : u_T := fun k => match k with
  | 0 => ("FoldedFamily$Tree", "columns", "LFoldedFamily$Columns;", true)
  | 1 => ("FoldedFamily$Tree", "kinds", "[I", true)
  | 2 => ("FoldedFamily$Tree", "lefts", "[I", true)
  | 3 => ("FoldedFamily$Tree", "rights", "[I", true)
  | 4 => ("FoldedFamily$Tree", "seconds", "[I", true)
  | _ => ("FoldedFamily$Tree", "size", "I", false)
def t_Tr : Nat → FieldType := fun k => match k with
  | 0 => .object "FoldedFamily$Columns"
  | 1 => .array .int
  | 2 => .array .int
  | 3 => .array .int
  | 4 => .array .int
  | _ => .int
theorem n_Tr : ∀ a, a < 6 → ∀ b, b < 6 → a ≠ b → (F_Tr a).2.1 ≠ (F_Tr b).2.1 := by decide +kernel
theorem t_Tr_ok : ∀ k, k < 6 → parseFieldDescriptor (F_Tr k).2.2.1 = some (t_Tr k) := by decide +kernel
theorem iw_Tr : ∀ w ∈ u_ws R_Tr F_Tr 6, w ∈ gw := by decide +kernel
abbrev R_Gr : String := "FoldedFamily$Grammar"
def F_Gr : u_T := fun k => match k with
  | 0 => ("FoldedFamily$Grammar", "columns", "LFoldedFamily$Columns;", true)
  | 1 => ("FoldedFamily$Grammar", "tree", "LFoldedFamily$Tree;", true)
  | 2 => ("FoldedFamily$Grammar", "kinds", "[I", true)
  | 3 => ("FoldedFamily$Grammar", "nodes", "[I", true)
  | 4 => ("FoldedFamily$Grammar", "rowSets", "[I", true)
  | 5 => ("FoldedFamily$Grammar", "firstStates", "[I", true)
  | 6 => ("FoldedFamily$Grammar", "targetCounts", "[I", true)
  | 7 => ("FoldedFamily$Grammar", "targets", "[I", true)
  | 8 => ("FoldedFamily$Grammar", "stepScores", "[I", true)
  | 9 => ("FoldedFamily$Grammar", "letterScores", "[I", true)
  | _ => ("FoldedFamily$Grammar", "size", "I", false)
def t_Gr : Nat → FieldType := fun k => match k with
  | 0 => .object "FoldedFamily$Columns"
  | 1 => .object "FoldedFamily$Tree"
  | 2 => .array .int
  | 3 => .array .int
  | 4 => .array .int
  | 5 => .array .int
  | 6 => .array .int
  | 7 => .array .int
  | 8 => .array .int
  | 9 => .array .int
  | _ => .int
theorem n_Gr : ∀ a, a < 11 → ∀ b, b < 11 → a ≠ b → (F_Gr a).2.1 ≠ (F_Gr b).2.1 := by decide +kernel
theorem t_Gr_ok : ∀ k, k < 11 → parseFieldDescriptor (F_Gr k).2.2.1 = some (t_Gr k) := by decide +kernel
theorem iw_Gr : ∀ w ∈ u_ws R_Gr F_Gr 11, w ∈ gw := by decide +kernel
abbrev R_Tx : String := "FoldedFamily$Text"
def F_Tx : u_T := fun k => match k with
  | 0 => ("FoldedFamily$Text", "letters", "[I", true)
  | _ => ("FoldedFamily$Text", "length", "I", false)
def t_Tx : Nat → FieldType := fun k => match k with
  | 0 => .array .int
  | _ => .int
theorem n_Tx : ∀ a, a < 2 → ∀ b, b < 2 → a ≠ b → (F_Tx a).2.1 ≠ (F_Tx b).2.1 := by decide +kernel
theorem t_Tx_ok : ∀ k, k < 2 → parseFieldDescriptor (F_Tx k).2.2.1 = some (t_Tx k) := by decide +kernel
theorem iw_Tx : ∀ w ∈ u_ws R_Tx F_Tx 2, w ∈ gw := by decide +kernel
abbrev R_Va : String := "FoldedFamily$Values"
def F_Va : u_T := fun k => match k with
  | 0 => ("FoldedFamily$Values", "grammar", "LFoldedFamily$Grammar;", true)
  | 1 => ("FoldedFamily$Values", "text", "LFoldedFamily$Text;", true)
  | 2 => ("FoldedFamily$Values", "scores", "[I", true)
  | _ => ("FoldedFamily$Values", "knownEnds", "I", false)
def t_Va : Nat → FieldType := fun k => match k with
  | 0 => .object "FoldedFamily$Grammar"
  | 1 => .object "FoldedFamily$Text"
  | 2 => .array .int
  | _ => .int
theorem n_Va : ∀ a, a < 4 → ∀ b, b < 4 → a ≠ b → (F_Va a).2.1 ≠ (F_Va b).2.1 := by decide +kernel
theorem t_Va_ok : ∀ k, k < 4 → parseFieldDescriptor (F_Va k).2.2.1 = some (t_Va k) := by decide +kernel
theorem iw_Va : ∀ w ∈ u_ws R_Va F_Va 4, w ∈ gw := by decide +kernel
abbrev R_Hi : String := "FoldedFamily$Hits"
def F_Hi : u_T := fun k => match k with
  | 0 => ("FoldedFamily$Hits", "begins", "[I", true)
  | 1 => ("FoldedFamily$Hits", "lengths", "[I", true)
  | 2 => ("FoldedFamily$Hits", "scores", "[I", true)
  | 3 => ("FoldedFamily$Hits", "taken", "[Z", true)
  | _ => ("FoldedFamily$Hits", "count", "I", false)
def t_Hi : Nat → FieldType := fun k => match k with
  | 0 => .array .int
  | 1 => .array .int
  | 2 => .array .int
  | 3 => .array .boolean
  | _ => .int
theorem n_Hi : ∀ a, a < 5 → ∀ b, b < 5 → a ≠ b → (F_Hi a).2.1 ≠ (F_Hi b).2.1 := by decide +kernel
theorem t_Hi_ok : ∀ k, k < 5 → parseFieldDescriptor (F_Hi k).2.2.1 = some (t_Hi k) := by decide +kernel
theorem iw_Hi : ∀ w ∈ u_ws R_Hi F_Hi 5, w ∈ gw := by decide +kernel
abbrev R_De : String := "FoldedFamily$Derivation"
def F_De : u_T := fun k => match k with
  | 0 => ("FoldedFamily$Derivation", "states", "[I", true)
  | 1 => ("FoldedFamily$Derivation", "begins", "[I", true)
  | 2 => ("FoldedFamily$Derivation", "lengths", "[I", true)
  | _ => ("FoldedFamily$Derivation", "length", "I", false)
def t_De : Nat → FieldType := fun k => match k with
  | 0 => .array .int
  | 1 => .array .int
  | 2 => .array .int
  | _ => .int
theorem n_De : ∀ a, a < 4 → ∀ b, b < 4 → a ≠ b → (F_De a).2.1 ≠ (F_De b).2.1 := by decide +kernel
theorem t_De_ok : ∀ k, k < 4 → parseFieldDescriptor (F_De k).2.2.1 = some (t_De k) := by decide +kernel
theorem iw_De : ∀ w ∈ u_ws R_De F_De 4, w ∈ gw := by decide +kernel
abbrev R_Mo : String := "FoldedFamilyModel"
def F_Mo : u_T := fun k => match k with
  | 0 => ("FoldedFamilyModel", "rows", "I", true)
  | 1 => ("FoldedFamilyModel", "columns", "I", false)
  | 2 => ("FoldedFamilyModel", "marks", "[I", true)
  | 3 => ("FoldedFamilyModel", "letters", "[I", true)
  | 4 => ("FoldedFamilyModel", "mate", "[I", true)
  | 5 => ("FoldedFamilyModel", "made", "Z", false)
  | 6 => ("FoldedFamilyModel", "nodes", "I", false)
  | 7 => ("FoldedFamilyModel", "sort", "[I", true)
  | 8 => ("FoldedFamilyModel", "from", "[I", true)
  | 9 => ("FoldedFamilyModel", "to", "[I", true)
  | 10 => ("FoldedFamilyModel", "begin", "[I", true)
  | 11 => ("FoldedFamilyModel", "other", "[I", true)
  | 12 => ("FoldedFamilyModel", "states", "I", false)
  | 13 => ("FoldedFamilyModel", "kinds", "[I", true)
  | 14 => ("FoldedFamilyModel", "nodeOf", "[I", true)
  | 15 => ("FoldedFamilyModel", "steps", "[I", true)
  | 16 => ("FoldedFamilyModel", "emissions", "[I", true)
  | 17 => ("FoldedFamilyModel", "length", "I", false)
  | 18 => ("FoldedFamilyModel", "text", "[I", true)
  | 19 => ("FoldedFamilyModel", "worked", "Z", false)
  | 20 => ("FoldedFamilyModel", "values", "[I", true)
  | 21 => ("FoldedFamilyModel", "hits", "I", false)
  | 22 => ("FoldedFamilyModel", "hitAt", "[I", true)
  | 23 => ("FoldedFamilyModel", "hitLength", "[I", true)
  | 24 => ("FoldedFamilyModel", "written", "I", false)
  | 25 => ("FoldedFamilyModel", "listState", "[I", true)
  | 26 => ("FoldedFamilyModel", "listAt", "[I", true)
  | 27 => ("FoldedFamilyModel", "listLength", "[I", true)
  | _ => ("FoldedFamilyModel", "stack", "[I", true)
def t_Mo : Nat → FieldType := fun k => match k with
  | 0 => .int
  | 1 => .int
  | 2 => .array .int
  | 3 => .array .int
  | 4 => .array .int
  | 5 => .boolean
  | 6 => .int
  | 7 => .array .int
  | 8 => .array .int
  | 9 => .array .int
  | 10 => .array .int
  | 11 => .array .int
  | 12 => .int
  | 13 => .array .int
  | 14 => .array .int
  | 15 => .array .int
  | 16 => .array .int
  | 17 => .int
  | 18 => .array .int
  | 19 => .boolean
  | 20 => .array .int
  | 21 => .int
  | 22 => .array .int
  | 23 => .array .int
  | 24 => .int
  | 25 => .array .int
  | 26 => .array .int
  | 27 => .array .int
  | _ => .array .int
theorem n_Mo : ∀ a, a < 29 → ∀ b, b < 29 → a ≠ b → (F_Mo a).2.1 ≠ (F_Mo b).2.1 := by decide +kernel
theorem t_Mo_ok : ∀ k, k < 29 → parseFieldDescriptor (F_Mo k).2.2.1 = some (t_Mo k) := by decide +kernel
theorem iw_Mo : ∀ w ∈ u_ws R_Mo F_Mo 29, w ∈ gw := by decide +kernel
abbrev R_Ig : String := "java/lang/Integer"
abbrev R_La : String := "FoldedFamilyLaw"
abbrev classes : List vw_C := [(R_Fa, F_Fa, 7), (R_Co, F_Co, 6), (R_Tr, F_Tr, 6), (R_Gr, F_Gr, 11), (R_Tx, F_Tx, 2), (R_Va, F_Va, 4), (R_Hi, F_Hi, 5), (R_De, F_De, 4), (R_Mo, F_Mo, 29)]
abbrev tys3 (ty : Nat → ClassId) : List (ClassId × FieldType) := [(ty 0, .int), (ty 1, .char), (ty 2, .boolean)]
def wX (ty : Nat → ClassId) (ad : Nat → Nat) (co_rows : Int32) (co_marks : Nat → Int32) (co_rowSets : Nat → Int32) (co_partners : Nat → Int32) (co_open : Nat → Int32) (co_count : Int32) (tr_kinds : Nat → Int32) (tr_lefts : Nat → Int32) (tr_rights : Nat → Int32) (tr_seconds : Nat → Int32) (tr_size : Int32) (gr_kinds : Nat → Int32) (gr_nodes : Nat → Int32) (gr_rowSets : Nat → Int32) (gr_firstStates : Nat → Int32) (gr_targetCounts : Nat → Int32) (gr_targets : Nat → Int32) (gr_stepScores : Nat → Int32) (gr_letterScores : Nat → Int32) (gr_size : Int32) (tx_letters : Nat → Int32) (tx_length : Int32) (va_scores : Nat → Int32) (va_knownEnds : Int32) (hi_begins : Nat → Int32) (hi_lengths : Nat → Int32) (hi_scores : Nat → Int32) (hi_taken : Nat → Int32) (hi_count : Int32) (de_states : Nat → Int32) (de_begins : Nat → Int32) (de_lengths : Nat → Int32) (de_length : Int32) : va_W := [(ad 0, .inr (0, [.ref (ad 1), .ref (ad 6), .ref (ad 11), .ref (ad 20), .ref (ad 22), .ref (ad 24), .ref (ad 29)])), (ad 1, .inr (1, [.int co_rows, .ref (ad 2), .ref (ad 3), .ref (ad 4), .ref (ad 5), .int co_count])), (ad 2, .inl (ty 1, 8, .inl co_marks)), (ad 3, .inl (ty 0, 32, .inl co_rowSets)), (ad 4, .inl (ty 0, 8, .inl co_partners)), (ad 5, .inl (ty 0, 8, .inl co_open)), (ad 6, .inr (2, [.ref (ad 1), .ref (ad 7), .ref (ad 8), .ref (ad 9), .ref (ad 10), .int tr_size])), (ad 7, .inl (ty 0, 18, .inl tr_kinds)), (ad 8, .inl (ty 0, 18, .inl tr_lefts)), (ad 9, .inl (ty 0, 18, .inl tr_rights)), (ad 10, .inl (ty 0, 18, .inl tr_seconds)), (ad 11, .inr (3, [.ref (ad 1), .ref (ad 6), .ref (ad 12), .ref (ad 13), .ref (ad 14), .ref (ad 15), .ref (ad 16), .ref (ad 17), .ref (ad 18), .ref (ad 19), .int gr_size])), (ad 12, .inl (ty 0, 43, .inl gr_kinds)), (ad 13, .inl (ty 0, 43, .inl gr_nodes)), (ad 14, .inl (ty 0, 43, .inl gr_rowSets)), (ad 15, .inl (ty 0, 19, .inl gr_firstStates)), (ad 16, .inl (ty 0, 43, .inl gr_targetCounts)), (ad 17, .inl (ty 0, 258, .inl gr_targets)), (ad 18, .inl (ty 0, 258, .inl gr_stepScores)), (ad 19, .inl (ty 0, 688, .inl gr_letterScores)), (ad 20, .inr (4, [.ref (ad 21), .int tx_length])), (ad 21, .inl (ty 0, 24, .inl tx_letters)), (ad 22, .inr (5, [.ref (ad 11), .ref (ad 20), .ref (ad 23), .int va_knownEnds])), (ad 23, .inl (ty 0, 10621, .inl va_scores)), (ad 24, .inr (6, [.ref (ad 25), .ref (ad 26), .ref (ad 27), .ref (ad 28), .int hi_count])), (ad 25, .inl (ty 0, 24, .inl hi_begins)), (ad 26, .inl (ty 0, 24, .inl hi_lengths)), (ad 27, .inl (ty 0, 24, .inl hi_scores)), (ad 28, .inl (ty 2, 24, .inl hi_taken)), (ad 29, .inr (7, [.ref (ad 30), .ref (ad 31), .ref (ad 32), .int de_length])), (ad 30, .inl (ty 0, 30, .inl de_states)), (ad 31, .inl (ty 0, 30, .inl de_begins)), (ad 32, .inl (ty 0, 30, .inl de_lengths))]

def wY (ty : Nat → ClassId) (ad : Nat → Nat) (mo_rows : Int32) (mo_columns : Int32) (mo_marks : Nat → Int32) (mo_letters : Nat → Int32) (mo_mate : Nat → Int32) (mo_made : Int32) (mo_nodes : Int32) (mo_sort : Nat → Int32) (mo_from : Nat → Int32) (mo_to : Nat → Int32) (mo_begin : Nat → Int32) (mo_other : Nat → Int32) (mo_states : Int32) (mo_kinds : Nat → Int32) (mo_nodeOf : Nat → Int32) (mo_steps : Nat → Int32) (mo_emissions : Nat → Int32) (mo_length : Int32) (mo_text : Nat → Int32) (mo_worked : Int32) (mo_values : Nat → Int32) (mo_hits : Int32) (mo_hitAt : Nat → Int32) (mo_hitLength : Nat → Int32) (mo_written : Int32) (mo_listState : Nat → Int32) (mo_listAt : Nat → Int32) (mo_listLength : Nat → Int32) (mo_stack : Nat → Int32) : va_W := [(ad 0, .inr (8, [.int mo_rows, .int mo_columns, .ref (ad 1), .ref (ad 2), .ref (ad 3), .int mo_made, .int mo_nodes, .ref (ad 4), .ref (ad 5), .ref (ad 6), .ref (ad 7), .ref (ad 8), .int mo_states, .ref (ad 9), .ref (ad 10), .ref (ad 11), .ref (ad 12), .int mo_length, .ref (ad 13), .int mo_worked, .ref (ad 14), .int mo_hits, .ref (ad 15), .ref (ad 16), .int mo_written, .ref (ad 17), .ref (ad 18), .ref (ad 19), .ref (ad 20)])), (ad 1, .inl (ty 0, 8, .inl mo_marks)), (ad 2, .inl (ty 0, 32, .inl mo_letters)), (ad 3, .inl (ty 0, 8, .inl mo_mate)), (ad 4, .inl (ty 0, 24, .inl mo_sort)), (ad 5, .inl (ty 0, 24, .inl mo_from)), (ad 6, .inl (ty 0, 24, .inl mo_to)), (ad 7, .inl (ty 0, 25, .inl mo_begin)), (ad 8, .inl (ty 0, 24, .inl mo_other)), (ad 9, .inl (ty 0, 48, .inl mo_kinds)), (ad 10, .inl (ty 0, 48, .inl mo_nodeOf)), (ad 11, .inl (ty 0, 384, .inl mo_steps)), (ad 12, .inl (ty 0, 768, .inl mo_emissions)), (ad 13, .inl (ty 0, 24, .inl mo_text)), (ad 14, .inl (ty 0, 15600, .inl mo_values)), (ad 15, .inl (ty 0, 24, .inl mo_hitAt)), (ad 16, .inl (ty 0, 24, .inl mo_hitLength)), (ad 17, .inl (ty 0, 200, .inl mo_listState)), (ad 18, .inl (ty 0, 200, .inl mo_listAt)), (ad 19, .inl (ty 0, 200, .inl mo_listLength)), (ad 20, .inl (ty 0, 300, .inl mo_stack))]

abbrev y_Fa_init : MethodName := ⟨R_Fa, "<init>", "(I)V"⟩
abbrev y_Fa_column : MethodName := ⟨R_Fa, "column", "(CI)Z"⟩
abbrev y_Fa_clear : MethodName := ⟨R_Fa, "clear", "()V"⟩
abbrev y_Fa_build : MethodName := ⟨R_Fa, "build", "()I"⟩
abbrev y_Fa_kind : MethodName := ⟨R_Fa, "kind", "(I)I"⟩
abbrev y_Fa_node : MethodName := ⟨R_Fa, "node", "(I)I"⟩
abbrev y_Fa_target : MethodName := ⟨R_Fa, "target", "(II)I"⟩
abbrev y_Fa_step : MethodName := ⟨R_Fa, "step", "(II)I"⟩
abbrev y_Fa_emits : MethodName := ⟨R_Fa, "emits", "(III)I"⟩
abbrev y_Fa_feed : MethodName := ⟨R_Fa, "feed", "(II)I"⟩
abbrev y_Fa_erase : MethodName := ⟨R_Fa, "erase", "()V"⟩
abbrev y_Fa_value : MethodName := ⟨R_Fa, "value", "(III)I"⟩
abbrev y_Fa_scan : MethodName := ⟨R_Fa, "scan", "(II)I"⟩
abbrev y_Fa_hit : MethodName := ⟨R_Fa, "hit", "(II)I"⟩
abbrev y_Fa_derived : MethodName := ⟨R_Fa, "derived", "(III)I"⟩
abbrev y_Fa_dropGrammar : MethodName := ⟨R_Fa, "dropGrammar", "()V"⟩
abbrev y_Fa_isMark : MethodName := ⟨R_Fa, "isMark", "(C)Z"⟩
abbrev y_Fa_isLetter : MethodName := ⟨R_Fa, "isLetter", "(I)Z"⟩
abbrev y_Fa_isInsert : MethodName := ⟨R_Fa, "isInsert", "(I)Z"⟩
abbrev y_Fa_lettersBefore : MethodName := ⟨R_Fa, "lettersBefore", "(I)I"⟩
abbrev y_Fa_lettersBehind : MethodName := ⟨R_Fa, "lettersBehind", "(I)I"⟩
abbrev y_Fa_lettersOf : MethodName := ⟨R_Fa, "lettersOf", "(I)I"⟩
abbrev y_Fa_statesOf : MethodName := ⟨R_Fa, "statesOf", "(I)[I"⟩
abbrev y_Fa_log : MethodName := ⟨R_Fa, "log", "(II)I"⟩
abbrev y_Fa_eighthPower : MethodName := ⟨R_Fa, "eighthPower", "(I)J"⟩
abbrev y_Mo_init : MethodName := ⟨R_Mo, "<init>", "(I)V"⟩
abbrev y_Mo_changed : MethodName := ⟨R_Mo, "changed", "()V"⟩
abbrev y_Mo_column : MethodName := ⟨R_Mo, "column", "(CI)Z"⟩
abbrev y_Mo_clear : MethodName := ⟨R_Mo, "clear", "()V"⟩
abbrev y_Mo_pair : MethodName := ⟨R_Mo, "pair", "()Z"⟩
abbrev y_Mo_node3 : MethodName := ⟨R_Mo, "node", "(III)I"⟩
abbrev y_Mo_push : MethodName := ⟨R_Mo, "push", "(IIII)I"⟩
abbrev y_Mo_plant : MethodName := ⟨R_Mo, "plant", "()V"⟩
abbrev y_Mo_state : MethodName := ⟨R_Mo, "state", "(II)V"⟩
abbrev y_Mo_settle : MethodName := ⟨R_Mo, "settle", "()V"⟩
abbrev y_Mo_inserts : MethodName := ⟨R_Mo, "inserts", "(I)Z"⟩
abbrev y_Mo_targetOf : MethodName := ⟨R_Mo, "targetOf", "(II)I"⟩
abbrev y_Mo_eighth : MethodName := ⟨R_Mo, "eighth", "(I)J"⟩
abbrev y_Mo_log : MethodName := ⟨R_Mo, "log", "(II)I"⟩
abbrev y_Mo_kindAt : MethodName := ⟨R_Mo, "kindAt", "(II)I"⟩
abbrev y_Mo_rowsIn : MethodName := ⟨R_Mo, "rowsIn", "(I)I"⟩
abbrev y_Mo_rowsFrom : MethodName := ⟨R_Mo, "rowsFrom", "(II)I"⟩
abbrev y_Mo_scoreSteps : MethodName := ⟨R_Mo, "scoreSteps", "(I)V"⟩
abbrev y_Mo_scoreLetters : MethodName := ⟨R_Mo, "scoreLetters", "(I)V"⟩
abbrev y_Mo_build : MethodName := ⟨R_Mo, "build", "()I"⟩
abbrev y_Mo_isState : MethodName := ⟨R_Mo, "isState", "(I)Z"⟩
abbrev y_Mo_kind : MethodName := ⟨R_Mo, "kind", "(I)I"⟩
abbrev y_Mo_node1 : MethodName := ⟨R_Mo, "node", "(I)I"⟩
abbrev y_Mo_target : MethodName := ⟨R_Mo, "target", "(II)I"⟩
abbrev y_Mo_step : MethodName := ⟨R_Mo, "step", "(II)I"⟩
abbrev y_Mo_isLetter : MethodName := ⟨R_Mo, "isLetter", "(I)Z"⟩
abbrev y_Mo_emits : MethodName := ⟨R_Mo, "emits", "(III)I"⟩
abbrev y_Mo_feed : MethodName := ⟨R_Mo, "feed", "(II)I"⟩
abbrev y_Mo_erase : MethodName := ⟨R_Mo, "erase", "()V"⟩
abbrev y_Mo_cell : MethodName := ⟨R_Mo, "cell", "(III)I"⟩
abbrev y_Mo_emitsLeft : MethodName := ⟨R_Mo, "emitsLeft", "(I)Z"⟩
abbrev y_Mo_emitsRight : MethodName := ⟨R_Mo, "emitsRight", "(I)Z"⟩
abbrev y_Mo_letterScore : MethodName := ⟨R_Mo, "letterScore", "(III)I"⟩
abbrev y_Mo_by : MethodName := ⟨R_Mo, "by", "(IIII)I"⟩
abbrev y_Mo_bySplit : MethodName := ⟨R_Mo, "bySplit", "(IIII)I"⟩
abbrev y_Mo_better : MethodName := ⟨R_Mo, "better", "(III)I"⟩
abbrev y_Mo_work : MethodName := ⟨R_Mo, "work", "()V"⟩
abbrev y_Mo_value : MethodName := ⟨R_Mo, "value", "(III)I"⟩
abbrev y_Mo_free : MethodName := ⟨R_Mo, "free", "(II)Z"⟩
abbrev y_Mo_scan : MethodName := ⟨R_Mo, "scan", "(II)I"⟩
abbrev y_Mo_write : MethodName := ⟨R_Mo, "write", "(I)V"⟩
abbrev y_Mo_hit : MethodName := ⟨R_Mo, "hit", "(II)I"⟩
abbrev y_Mo_derived : MethodName := ⟨R_Mo, "derived", "(III)I"⟩
abbrev y_Co_init : MethodName := ⟨R_Co, "<init>", "(I)V"⟩
abbrev y_Co_count : MethodName := ⟨R_Co, "count", "()I"⟩
abbrev y_Co_isFull : MethodName := ⟨R_Co, "isFull", "()Z"⟩
abbrev y_Co_add : MethodName := ⟨R_Co, "add", "(CI)V"⟩
abbrev y_Co_removeAll : MethodName := ⟨R_Co, "removeAll", "()V"⟩
abbrev y_Co_pairUp : MethodName := ⟨R_Co, "pairUp", "()Z"⟩
abbrev y_Co_isPaired : MethodName := ⟨R_Co, "isPaired", "(I)Z"⟩
abbrev y_Co_partner : MethodName := ⟨R_Co, "partner", "(I)I"⟩
abbrev y_Co_allRows : MethodName := ⟨R_Co, "allRows", "()I"⟩
abbrev y_Co_rowsWith : MethodName := ⟨R_Co, "rowsWith", "(II)I"⟩
abbrev y_Co_rowsWithAny : MethodName := ⟨R_Co, "rowsWithAny", "(I)I"⟩
abbrev y_De_init : MethodName := ⟨R_De, "<init>", "()V"⟩
abbrev y_De_length : MethodName := ⟨R_De, "length", "()I"⟩
abbrev y_De_state : MethodName := ⟨R_De, "state", "(I)I"⟩
abbrev y_De_begin : MethodName := ⟨R_De, "begin", "(I)I"⟩
abbrev y_De_letters : MethodName := ⟨R_De, "letters", "(I)I"⟩
abbrev y_De_write : MethodName := ⟨R_De, "write", "(LFoldedFamily$Values;II)V"⟩
abbrev y_De_writeFrom : MethodName := ⟨R_De, "writeFrom", "(LFoldedFamily$Values;III)V"⟩
abbrev y_De_writeParts : MethodName := ⟨R_De, "writeParts", "(LFoldedFamily$Values;III)V"⟩
abbrev y_De_writeRest : MethodName := ⟨R_De, "writeRest", "(LFoldedFamily$Values;III)V"⟩
abbrev y_De_note : MethodName := ⟨R_De, "note", "(III)V"⟩
abbrev y_Gr_init : MethodName := ⟨R_Gr, "<init>", "(LFoldedFamily$Columns;LFoldedFamily$Tree;)V"⟩
abbrev y_Gr_size : MethodName := ⟨R_Gr, "size", "()I"⟩
abbrev y_Gr_forget : MethodName := ⟨R_Gr, "forget", "()V"⟩
abbrev y_Gr_hasState : MethodName := ⟨R_Gr, "hasState", "(I)Z"⟩
abbrev y_Gr_kindOf : MethodName := ⟨R_Gr, "kindOf", "(I)I"⟩
abbrev y_Gr_nodeOf : MethodName := ⟨R_Gr, "nodeOf", "(I)I"⟩
abbrev y_Gr_hasTarget : MethodName := ⟨R_Gr, "hasTarget", "(II)Z"⟩
abbrev y_Gr_targetCount : MethodName := ⟨R_Gr, "targetCount", "(I)I"⟩
abbrev y_Gr_targetOf : MethodName := ⟨R_Gr, "targetOf", "(II)I"⟩
abbrev y_Gr_stepScore : MethodName := ⟨R_Gr, "stepScore", "(II)I"⟩
abbrev y_Gr_letterScore : MethodName := ⟨R_Gr, "letterScore", "(III)I"⟩
abbrev y_Gr_make : MethodName := ⟨R_Gr, "make", "()V"⟩
abbrev y_Gr_layStates : MethodName := ⟨R_Gr, "layStates", "()V"⟩
abbrev y_Gr_rowsIn : MethodName := ⟨R_Gr, "rowsIn", "(II)I"⟩
abbrev y_Gr_addTargets : MethodName := ⟨R_Gr, "addTargets", "(I)V"⟩
abbrev y_Gr_addStates : MethodName := ⟨R_Gr, "addStates", "(IIZ)V"⟩
abbrev y_Gr_addTarget : MethodName := ⟨R_Gr, "addTarget", "(II)V"⟩
abbrev y_Gr_scoreSteps : MethodName := ⟨R_Gr, "scoreSteps", "(I)V"⟩
abbrev y_Gr_scoreLetters : MethodName := ⟨R_Gr, "scoreLetters", "(I)V"⟩
abbrev y_Gr_scoreOfLetters : MethodName := ⟨R_Gr, "scoreOfLetters", "(III)I"⟩
abbrev y_Gr_rowsWithLetters : MethodName := ⟨R_Gr, "rowsWithLetters", "(III)I"⟩
abbrev y_Hi_init : MethodName := ⟨R_Hi, "<init>", "()V"⟩
abbrev y_Hi_count : MethodName := ⟨R_Hi, "count", "()I"⟩
abbrev y_Hi_forget : MethodName := ⟨R_Hi, "forget", "()V"⟩
abbrev y_Hi_has : MethodName := ⟨R_Hi, "has", "(I)Z"⟩
abbrev y_Hi_begin : MethodName := ⟨R_Hi, "begin", "(I)I"⟩
abbrev y_Hi_letters : MethodName := ⟨R_Hi, "letters", "(I)I"⟩
abbrev y_Hi_score : MethodName := ⟨R_Hi, "score", "(I)I"⟩
abbrev y_Hi_find : MethodName := ⟨R_Hi, "find", "(LFoldedFamily$Values;III)V"⟩
abbrev y_Hi_findNext : MethodName := ⟨R_Hi, "findNext", "(LFoldedFamily$Values;III)Z"⟩
abbrev y_Hi_freeEnd : MethodName := ⟨R_Hi, "freeEnd", "(II)I"⟩
abbrev y_Hi_note : MethodName := ⟨R_Hi, "note", "(III)V"⟩
abbrev y_Hi_takeNoted : MethodName := ⟨R_Hi, "takeNoted", "()V"⟩
abbrev y_Tx_init : MethodName := ⟨R_Tx, "<init>", "()V"⟩
abbrev y_Tx_length : MethodName := ⟨R_Tx, "length", "()I"⟩
abbrev y_Tx_room : MethodName := ⟨R_Tx, "room", "()I"⟩
abbrev y_Tx_letter : MethodName := ⟨R_Tx, "letter", "(I)I"⟩
abbrev y_Tx_hasPart : MethodName := ⟨R_Tx, "hasPart", "(II)Z"⟩
abbrev y_Tx_append : MethodName := ⟨R_Tx, "append", "(II)V"⟩
abbrev y_Tx_empty : MethodName := ⟨R_Tx, "empty", "()V"⟩
abbrev y_Tr_init : MethodName := ⟨R_Tr, "<init>", "(LFoldedFamily$Columns;)V"⟩
abbrev y_Tr_size : MethodName := ⟨R_Tr, "size", "()I"⟩
abbrev y_Tr_kindOf : MethodName := ⟨R_Tr, "kindOf", "(I)I"⟩
abbrev y_Tr_left : MethodName := ⟨R_Tr, "left", "(I)I"⟩
abbrev y_Tr_right : MethodName := ⟨R_Tr, "right", "(I)I"⟩
abbrev y_Tr_second : MethodName := ⟨R_Tr, "second", "(I)I"⟩
abbrev y_Tr_grow : MethodName := ⟨R_Tr, "grow", "()V"⟩
abbrev y_Tr_growPart : MethodName := ⟨R_Tr, "growPart", "(III)V"⟩
abbrev y_Tr_growFork : MethodName := ⟨R_Tr, "growFork", "(III)V"⟩
abbrev y_Tr_add : MethodName := ⟨R_Tr, "add", "(III)V"⟩
abbrev y_Va_init : MethodName := ⟨R_Va, "<init>", "(LFoldedFamily$Grammar;LFoldedFamily$Text;)V"⟩
abbrev y_Va_grammar : MethodName := ⟨R_Va, "grammar", "()LFoldedFamily$Grammar;"⟩
abbrev y_Va_forget : MethodName := ⟨R_Va, "forget", "()V"⟩
abbrev y_Va_catchUp : MethodName := ⟨R_Va, "catchUp", "()V"⟩
abbrev y_Va_of : MethodName := ⟨R_Va, "of", "(III)I"⟩
abbrev y_Va_bestTarget : MethodName := ⟨R_Va, "bestTarget", "(III)I"⟩
abbrev y_Va_bestSplit : MethodName := ⟨R_Va, "bestSplit", "(III)I"⟩
abbrev y_Va_reckon : MethodName := ⟨R_Va, "reckon", "(III)I"⟩
abbrev y_Va_greatestOfSplits : MethodName := ⟨R_Va, "greatestOfSplits", "(III)I"⟩
abbrev y_Va_greatestOfTargets : MethodName := ⟨R_Va, "greatestOfTargets", "(III)I"⟩
abbrev y_Va_throughSplit : MethodName := ⟨R_Va, "throughSplit", "(IIII)I"⟩
abbrev y_Va_throughTarget : MethodName := ⟨R_Va, "throughTarget", "(IIII)I"⟩
abbrev y_Va_emitted : MethodName := ⟨R_Va, "emitted", "(III)I"⟩
abbrev y_Va_place : MethodName := ⟨R_Va, "place", "(III)I"⟩
abbrev y_Ig_bitCount : MethodName := ⟨R_Ig, "bitCount", "(I)I"⟩
def rm_Fa_isMark : Room := { frames := 0, cells := 0, slots := 0, locals := 0 }
def rm_Co_isFull : Room := { frames := 0, cells := 0, slots := 0, locals := 0 }
def rm_Fa_isLetter : Room := { frames := 0, cells := 0, slots := 0, locals := 0 }
def rm_Co_add : Room := { frames := 1, cells := 0, slots := 0, locals := 20 }
def rm_Gr_forget : Room := { frames := 0, cells := 0, slots := 0, locals := 0 }
def rm_Hi_forget : Room := { frames := 0, cells := 0, slots := 0, locals := 0 }
def rm_Fa_dropGrammar : Room := { frames := 1, cells := 0, slots := 0, locals := 20 }
def rm_Fa_column : Room := { frames := 2, cells := 0, slots := 0, locals := 44 }
def rm_Co_removeAll : Room := { frames := 0, cells := 0, slots := 0, locals := 0 }
def rm_Fa_clear : Room := { frames := 2, cells := 0, slots := 0, locals := 40 }
def rm_Co_pairUp : Room := { frames := 0, cells := 0, slots := 0, locals := 0 }
def rm_Tr_add : Room := { frames := 0, cells := 0, slots := 0, locals := 0 }
def rm_Co_count : Room := { frames := 0, cells := 0, slots := 0, locals := 0 }
def rm_Co_partner : Room := { frames := 0, cells := 0, slots := 0, locals := 0 }
def rm_Co_isPaired : Room := { frames := 0, cells := 0, slots := 0, locals := 0 }
def rm_Tr_growFork (d : Nat) : Room := { frames := 2 * d + 4, cells := 0, slots := 0, locals := 48 * d + 146 }
def rm_Tr_growPart (d : Nat) : Room := { frames := 2 * d + 3, cells := 0, slots := 0, locals := 48 * d + 123 }
def rm_Tr_grow : Room := { frames := 28, cells := 0, slots := 0, locals := 722 }
def rm_Tr_size : Room := { frames := 0, cells := 0, slots := 0, locals := 0 }
def rm_Tr_kindOf : Room := { frames := 0, cells := 0, slots := 0, locals := 0 }
def rm_Co_allRows : Room := { frames := 0, cells := 0, slots := 0, locals := 0 }
def rm_Tr_left : Room := { frames := 0, cells := 0, slots := 0, locals := 0 }
def rm_Co_rowsWith : Room := { frames := 0, cells := 0, slots := 0, locals := 0 }
def rm_Co_rowsWithAny : Room := { frames := 1, cells := 0, slots := 0, locals := 22 }
def rm_Tr_right : Room := { frames := 0, cells := 0, slots := 0, locals := 0 }
def rm_Gr_rowsIn : Room := { frames := 2, cells := 0, slots := 0, locals := 45 }
def rm_Gr_layStates : Room := { frames := 3, cells := 0, slots := 0, locals := 70 }
def rm_Fa_isInsert : Room := { frames := 0, cells := 0, slots := 0, locals := 0 }
def rm_Gr_addTarget : Room := { frames := 0, cells := 0, slots := 0, locals := 0 }
def rm_Gr_addStates : Room := { frames := 1, cells := 0, slots := 0, locals := 22 }
def rm_Tr_second : Room := { frames := 0, cells := 0, slots := 0, locals := 0 }
def rm_Gr_addTargets : Room := { frames := 2, cells := 0, slots := 0, locals := 46 }
def rm_Ig_bitCount : Room := { frames := 0, cells := 0, slots := 0, locals := 0 }
def rm_Gr_targetOf : Room := { frames := 0, cells := 0, slots := 0, locals := 0 }
def rm_Fa_eighthPower : Room := { frames := 0, cells := 0, slots := 0, locals := 0 }
def rm_Fa_log : Room := { frames := 1, cells := 0, slots := 0, locals := 24 }
def rm_Gr_scoreSteps : Room := { frames := 2, cells := 0, slots := 0, locals := 50 }
def rm_Fa_lettersBefore : Room := { frames := 0, cells := 0, slots := 0, locals := 0 }
def rm_Fa_lettersBehind : Room := { frames := 0, cells := 0, slots := 0, locals := 0 }
def rm_Fa_lettersOf : Room := { frames := 1, cells := 0, slots := 0, locals := 20 }
def rm_Gr_rowsWithLetters : Room := { frames := 1, cells := 0, slots := 0, locals := 22 }
def rm_Gr_scoreOfLetters : Room := { frames := 2, cells := 0, slots := 0, locals := 50 }
def rm_Gr_scoreLetters : Room := { frames := 3, cells := 0, slots := 0, locals := 75 }
def rm_Gr_make : Room := { frames := 4, cells := 0, slots := 0, locals := 99 }
def rm_Va_forget : Room := { frames := 0, cells := 0, slots := 0, locals := 0 }
def rm_Gr_size : Room := { frames := 0, cells := 0, slots := 0, locals := 0 }
def rm_Fa_build : Room := { frames := 29, cells := 0, slots := 0, locals := 742 }
def rm_Gr_hasState : Room := { frames := 0, cells := 0, slots := 0, locals := 0 }
def rm_Gr_kindOf : Room := { frames := 0, cells := 0, slots := 0, locals := 0 }
def rm_Fa_kind : Room := { frames := 1, cells := 0, slots := 0, locals := 21 }
def rm_Gr_nodeOf : Room := { frames := 0, cells := 0, slots := 0, locals := 0 }
def rm_Fa_node : Room := { frames := 1, cells := 0, slots := 0, locals := 21 }
def rm_Gr_hasTarget : Room := { frames := 1, cells := 0, slots := 0, locals := 21 }
def rm_Fa_target : Room := { frames := 2, cells := 0, slots := 0, locals := 43 }
def rm_Gr_stepScore : Room := { frames := 0, cells := 0, slots := 0, locals := 0 }
def rm_Fa_step : Room := { frames := 2, cells := 0, slots := 0, locals := 43 }
def rm_Gr_letterScore : Room := { frames := 0, cells := 0, slots := 0, locals := 0 }
def rm_Fa_emits : Room := { frames := 2, cells := 0, slots := 0, locals := 40 }
def rm_Tx_room : Room := { frames := 0, cells := 0, slots := 0, locals := 0 }
def rm_Tx_append : Room := { frames := 0, cells := 0, slots := 0, locals := 0 }
def rm_Tx_length : Room := { frames := 0, cells := 0, slots := 0, locals := 0 }
def rm_Fa_feed : Room := { frames := 1, cells := 0, slots := 0, locals := 23 }
def rm_Tx_empty : Room := { frames := 0, cells := 0, slots := 0, locals := 0 }
def rm_Fa_erase : Room := { frames := 1, cells := 0, slots := 0, locals := 20 }
def rm_Tx_hasPart : Room := { frames := 0, cells := 0, slots := 0, locals := 0 }
def rm_Va_place : Room := { frames := 0, cells := 0, slots := 0, locals := 0 }
def rm_Gr_targetCount : Room := { frames := 0, cells := 0, slots := 0, locals := 0 }
def rm_Va_of : Room := { frames := 1, cells := 0, slots := 0, locals := 22 }
def rm_Va_throughTarget : Room := { frames := 2, cells := 0, slots := 0, locals := 45 }
def rm_Tx_letter : Room := { frames := 0, cells := 0, slots := 0, locals := 0 }
def rm_Va_emitted : Room := { frames := 1, cells := 0, slots := 0, locals := 23 }
def rm_Va_greatestOfTargets : Room := { frames := 3, cells := 0, slots := 0, locals := 70 }
def rm_Va_throughSplit : Room := { frames := 2, cells := 0, slots := 0, locals := 45 }
def rm_Va_greatestOfSplits : Room := { frames := 3, cells := 0, slots := 0, locals := 71 }
def rm_Va_reckon : Room := { frames := 4, cells := 0, slots := 0, locals := 98 }
def rm_Va_catchUp : Room := { frames := 5, cells := 0, slots := 0, locals := 121 }
def rm_Fa_value : Room := { frames := 6, cells := 0, slots := 0, locals := 144 }
def rm_Hi_freeEnd : Room := { frames := 0, cells := 0, slots := 0, locals := 0 }
def rm_Hi_note : Room := { frames := 0, cells := 0, slots := 0, locals := 0 }
def rm_Hi_takeNoted : Room := { frames := 0, cells := 0, slots := 0, locals := 0 }
def rm_Hi_findNext : Room := { frames := 2, cells := 0, slots := 0, locals := 45 }
def rm_Hi_find : Room := { frames := 3, cells := 0, slots := 0, locals := 74 }
def rm_Hi_count : Room := { frames := 0, cells := 0, slots := 0, locals := 0 }
def rm_Fa_scan : Room := { frames := 6, cells := 0, slots := 0, locals := 144 }
def rm_Hi_has : Room := { frames := 0, cells := 0, slots := 0, locals := 0 }
def rm_Hi_begin : Room := { frames := 0, cells := 0, slots := 0, locals := 0 }
def rm_Hi_letters : Room := { frames := 0, cells := 0, slots := 0, locals := 0 }
def rm_Va_bestSplit : Room := { frames := 3, cells := 0, slots := 0, locals := 71 }
def rm_Va_grammar : Room := { frames := 0, cells := 0, slots := 0, locals := 0 }
def rm_Va_bestTarget : Room := { frames := 3, cells := 0, slots := 0, locals := 70 }
def rm_De_note : Room := { frames := 0, cells := 0, slots := 0, locals := 0 }
def rm_De_writeParts (d : Nat) : Room := { frames := 2 * d + 7, cells := 0, slots := 0, locals := 52 * d + 221 }
def rm_De_writeRest (d : Nat) : Room := { frames := 2 * d + 7, cells := 0, slots := 0, locals := 52 * d + 221 }
def rm_De_writeFrom (d : Nat) : Room := { frames := 2 * d + 6, cells := 0, slots := 0, locals := 52 * d + 196 }
def rm_De_write : Room := { frames := 87, cells := 0, slots := 0, locals := 2301 }
def rm_De_length : Room := { frames := 0, cells := 0, slots := 0, locals := 0 }
def rm_Hi_score : Room := { frames := 0, cells := 0, slots := 0, locals := 0 }
def rm_Fa_hit : Room := { frames := 88, cells := 0, slots := 0, locals := 2324 }
def rm_De_state : Room := { frames := 0, cells := 0, slots := 0, locals := 0 }
def rm_De_letters : Room := { frames := 0, cells := 0, slots := 0, locals := 0 }
def rm_De_begin : Room := { frames := 0, cells := 0, slots := 0, locals := 0 }
def rm_Fa_derived : Room := { frames := 88, cells := 0, slots := 0, locals := 2324 }
def rm_Mo_changed : Room := { frames := 0, cells := 0, slots := 0, locals := 0 }
def rm_Mo_column : Room := { frames := 1, cells := 0, slots := 0, locals := 20 }
def rm_Mo_clear : Room := { frames := 1, cells := 0, slots := 0, locals := 20 }
def rm_Mo_pair : Room := { frames := 0, cells := 0, slots := 0, locals := 0 }
def rm_Mo_node3 : Room := { frames := 0, cells := 0, slots := 0, locals := 0 }
def rm_Mo_push : Room := { frames := 0, cells := 0, slots := 0, locals := 0 }
def rm_Mo_plant : Room := { frames := 1, cells := 0, slots := 0, locals := 24 }
def rm_Mo_state : Room := { frames := 0, cells := 0, slots := 0, locals := 0 }
def rm_Mo_settle : Room := { frames := 1, cells := 0, slots := 0, locals := 22 }
def rm_Mo_inserts : Room := { frames := 0, cells := 0, slots := 0, locals := 0 }
def rm_Mo_targetOf : Room := { frames := 1, cells := 0, slots := 0, locals := 20 }
def rm_Mo_eighth : Room := { frames := 0, cells := 0, slots := 0, locals := 0 }
def rm_Mo_log : Room := { frames := 1, cells := 0, slots := 0, locals := 23 }
def rm_Mo_kindAt : Room := { frames := 0, cells := 0, slots := 0, locals := 0 }
def rm_Mo_rowsIn : Room := { frames := 1, cells := 0, slots := 0, locals := 25 }
def rm_Mo_rowsFrom : Room := { frames := 1, cells := 0, slots := 0, locals := 25 }
def rm_Mo_scoreSteps : Room := { frames := 2, cells := 0, slots := 0, locals := 49 }
def rm_Mo_scoreLetters : Room := { frames := 2, cells := 0, slots := 0, locals := 49 }
def rm_Mo_build : Room := { frames := 3, cells := 0, slots := 0, locals := 78 }
def rm_Mo_isState : Room := { frames := 0, cells := 0, slots := 0, locals := 0 }
def rm_Mo_kind : Room := { frames := 1, cells := 0, slots := 0, locals := 21 }
def rm_Mo_node1 : Room := { frames := 1, cells := 0, slots := 0, locals := 21 }
def rm_Mo_target : Room := { frames := 2, cells := 0, slots := 0, locals := 48 }
def rm_Mo_step : Room := { frames := 2, cells := 0, slots := 0, locals := 48 }
def rm_Mo_isLetter : Room := { frames := 0, cells := 0, slots := 0, locals := 0 }
def rm_Mo_emits : Room := { frames := 1, cells := 0, slots := 0, locals := 21 }
def rm_Mo_feed : Room := { frames := 0, cells := 0, slots := 0, locals := 0 }
def rm_Mo_erase : Room := { frames := 0, cells := 0, slots := 0, locals := 0 }
def rm_Mo_cell : Room := { frames := 0, cells := 0, slots := 0, locals := 0 }
def rm_Mo_emitsLeft : Room := { frames := 0, cells := 0, slots := 0, locals := 0 }
def rm_Mo_emitsRight : Room := { frames := 0, cells := 0, slots := 0, locals := 0 }
def rm_Mo_letterScore : Room := { frames := 1, cells := 0, slots := 0, locals := 20 }
def rm_Mo_by : Room := { frames := 2, cells := 0, slots := 0, locals := 48 }
def rm_Mo_bySplit : Room := { frames := 2, cells := 0, slots := 0, locals := 48 }
def rm_Mo_better : Room := { frames := 3, cells := 0, slots := 0, locals := 77 }
def rm_Mo_work : Room := { frames := 4, cells := 0, slots := 0, locals := 103 }
def rm_Mo_value : Room := { frames := 5, cells := 0, slots := 0, locals := 128 }
def rm_Mo_free : Room := { frames := 0, cells := 0, slots := 0, locals := 0 }
def rm_Mo_scan : Room := { frames := 5, cells := 0, slots := 0, locals := 128 }
def rm_Mo_write : Room := { frames := 3, cells := 0, slots := 0, locals := 77 }
def rm_Mo_hit : Room := { frames := 4, cells := 0, slots := 0, locals := 106 }
def rm_Mo_derived : Room := { frames := 4, cells := 0, slots := 0, locals := 106 }
end
section
/-! 04.words: words of the tables that the methods use, and what call sites need (written by wip/gen) -/
theorem m_0 : Cond.selects "FoldedFamily" ⟨"FoldedFamily", "dropGrammar", "()V"⟩ ⟨"FoldedFamily", "dropGrammar", "()V"⟩ ∈ gw := gw_mem 0 (by decide +kernel) rfl
theorem m_49 : Cond.initialized "FoldedFamily" ∈ gw := gw_mem 49 (by decide +kernel) rfl
theorem m_50 : Cond.initialized "FoldedFamily$Columns" ∈ gw := gw_mem 50 (by decide +kernel) rfl
theorem m_53 : Cond.initialized "FoldedFamily$Grammar" ∈ gw := gw_mem 53 (by decide +kernel) rfl
theorem m_56 : Cond.initialized "FoldedFamily$Hits" ∈ gw := gw_mem 56 (by decide +kernel) rfl
theorem m_80 : Cond.fieldLink "FoldedFamily$Columns" 25 "FoldedFamily$Columns" "rows" "I" ∈ gw := gw_mem 80 (by decide +kernel) rfl
theorem m_81 : Cond.fieldLink "FoldedFamily$Columns" 9 "FoldedFamily$Columns" "marks" "[C" ∈ gw := gw_mem 81 (by decide +kernel) rfl
theorem m_82 : Cond.fieldLink "FoldedFamily$Columns" 15 "FoldedFamily$Columns" "rowSets" "[I" ∈ gw := gw_mem 82 (by decide +kernel) rfl
theorem m_83 : Cond.fieldLink "FoldedFamily$Columns" 19 "FoldedFamily$Columns" "partners" "[I" ∈ gw := gw_mem 83 (by decide +kernel) rfl
theorem m_84 : Cond.fieldLink "FoldedFamily$Columns" 22 "FoldedFamily$Columns" "open" "[I" ∈ gw := gw_mem 84 (by decide +kernel) rfl
theorem m_85 : Cond.fieldLink "FoldedFamily$Columns" 29 "FoldedFamily$Columns" "count" "I" ∈ gw := gw_mem 85 (by decide +kernel) rfl
theorem m_142 : Cond.fieldLink "FoldedFamily$Grammar" 44 "FoldedFamily$Grammar" "size" "I" ∈ gw := gw_mem 142 (by decide +kernel) rfl
theorem m_208 : Cond.fieldLink "FoldedFamily$Hits" 25 "FoldedFamily$Hits" "count" "I" ∈ gw := gw_mem 208 (by decide +kernel) rfl
theorem m_240 : Cond.fieldLink "FoldedFamily" 36 "FoldedFamily" "columns" "LFoldedFamily$Columns;" ∈ gw := gw_mem 240 (by decide +kernel) rfl
theorem m_242 : Cond.fieldLink "FoldedFamily" 44 "FoldedFamily" "grammar" "LFoldedFamily$Grammar;" ∈ gw := gw_mem 242 (by decide +kernel) rfl
theorem m_245 : Cond.fieldLink "FoldedFamily" 64 "FoldedFamily" "hits" "LFoldedFamily$Hits;" ∈ gw := gw_mem 245 (by decide +kernel) rfl
theorem m_266 : Cond.methodLink "FoldedFamily" 75 ⟨"FoldedFamily", "isMark", "(C)Z"⟩ ∈ gw := gw_mem 266 (by decide +kernel) rfl
theorem m_267 : Cond.static ⟨"FoldedFamily", "isMark", "(C)Z"⟩ ∈ gw := gw_mem 267 (by decide +kernel) rfl
set_option maxRecDepth 100000 in
theorem m_268 : Cond.code ⟨"FoldedFamily", "isMark", "(C)Z"⟩ prog_1_method_17_code 1 (some .boolean) ∈ gw := gw_mem 268 rfl rfl
theorem m_269 : Cond.methodLink "FoldedFamily" 79 ⟨"FoldedFamily$Columns", "isFull", "()Z"⟩ ∈ gw := gw_mem 269 (by decide +kernel) rfl
theorem m_270 : Cond.instanceMethod ⟨"FoldedFamily$Columns", "isFull", "()Z"⟩ ∈ gw := gw_mem 270 (by decide +kernel) rfl
theorem m_271 : Cond.selects "FoldedFamily$Columns" ⟨"FoldedFamily$Columns", "isFull", "()Z"⟩ ⟨"FoldedFamily$Columns", "isFull", "()Z"⟩ ∈ gw := gw_mem 271 (by decide +kernel) rfl
set_option maxRecDepth 100000 in
theorem m_272 : Cond.code ⟨"FoldedFamily$Columns", "isFull", "()Z"⟩ prog_2_method_3_code 1 (some .boolean) ∈ gw := gw_mem 272 rfl rfl
theorem m_273 : Cond.methodLink "FoldedFamily" 83 ⟨"FoldedFamily$Columns", "add", "(CI)V"⟩ ∈ gw := gw_mem 273 (by decide +kernel) rfl
theorem m_274 : Cond.instanceMethod ⟨"FoldedFamily$Columns", "add", "(CI)V"⟩ ∈ gw := gw_mem 274 (by decide +kernel) rfl
theorem m_275 : Cond.selects "FoldedFamily$Columns" ⟨"FoldedFamily$Columns", "add", "(CI)V"⟩ ⟨"FoldedFamily$Columns", "add", "(CI)V"⟩ ∈ gw := gw_mem 275 (by decide +kernel) rfl
set_option maxRecDepth 100000 in
theorem m_276 : Cond.code ⟨"FoldedFamily$Columns", "add", "(CI)V"⟩ prog_2_method_4_code 5 none ∈ gw := gw_mem 276 rfl rfl
theorem m_278 : Cond.static ⟨"FoldedFamily", "isLetter", "(I)Z"⟩ ∈ gw := gw_mem 278 (by decide +kernel) rfl
set_option maxRecDepth 100000 in
theorem m_279 : Cond.code ⟨"FoldedFamily", "isLetter", "(I)Z"⟩ prog_1_method_18_code 1 (some .boolean) ∈ gw := gw_mem 279 rfl rfl
theorem m_280 : Cond.methodLink "FoldedFamily" 87 ⟨"FoldedFamily", "dropGrammar", "()V"⟩ ∈ gw := gw_mem 280 (by decide +kernel) rfl
theorem m_282 : Cond.instanceMethod ⟨"FoldedFamily", "dropGrammar", "()V"⟩ ∈ gw := gw_mem 282 (by decide +kernel) rfl
set_option maxRecDepth 100000 in
theorem m_283 : Cond.code ⟨"FoldedFamily", "dropGrammar", "()V"⟩ prog_1_method_16_code 1 none ∈ gw := gw_mem 283 rfl rfl
theorem m_284 : Cond.methodLink "FoldedFamily" 193 ⟨"FoldedFamily$Grammar", "forget", "()V"⟩ ∈ gw := gw_mem 284 (by decide +kernel) rfl
theorem m_285 : Cond.instanceMethod ⟨"FoldedFamily$Grammar", "forget", "()V"⟩ ∈ gw := gw_mem 285 (by decide +kernel) rfl
theorem m_286 : Cond.selects "FoldedFamily$Grammar" ⟨"FoldedFamily$Grammar", "forget", "()V"⟩ ⟨"FoldedFamily$Grammar", "forget", "()V"⟩ ∈ gw := gw_mem 286 (by decide +kernel) rfl
set_option maxRecDepth 100000 in
theorem m_287 : Cond.code ⟨"FoldedFamily$Grammar", "forget", "()V"⟩ prog_4_method_3_code 1 none ∈ gw := gw_mem 287 rfl rfl
theorem m_288 : Cond.methodLink "FoldedFamily" 106 ⟨"FoldedFamily$Hits", "forget", "()V"⟩ ∈ gw := gw_mem 288 (by decide +kernel) rfl
theorem m_289 : Cond.instanceMethod ⟨"FoldedFamily$Hits", "forget", "()V"⟩ ∈ gw := gw_mem 289 (by decide +kernel) rfl
theorem m_290 : Cond.selects "FoldedFamily$Hits" ⟨"FoldedFamily$Hits", "forget", "()V"⟩ ⟨"FoldedFamily$Hits", "forget", "()V"⟩ ∈ gw := gw_mem 290 (by decide +kernel) rfl
set_option maxRecDepth 100000 in
theorem m_291 : Cond.code ⟨"FoldedFamily$Hits", "forget", "()V"⟩ prog_5_method_3_code 1 none ∈ gw := gw_mem 291 rfl rfl
theorem z_Co_32 : xSN R_Co 32 "FoldedFamily" y_Fa_isLetter prog_1_method_18_code 1 (some .boolean) 1 := ⟨m_279, List.mem_of_getElem? (i := 0) rfl, m_278, m_49, ⟨by decide +kernel, by decide +kernel, by decide +kernel⟩⟩
theorem z_Fa_193 : xV R_Fa 193 R_Gr y_Gr_forget prog_4_method_3_code 1 none 0 := ⟨m_287, m_284, m_285, m_286, m_53, ⟨by decide +kernel, by decide +kernel, by decide +kernel⟩⟩
theorem z_Fa_106 : xV R_Fa 106 R_Hi y_Hi_forget prog_5_method_3_code 1 none 0 := ⟨m_291, m_288, m_289, m_290, m_56, ⟨by decide +kernel, by decide +kernel, by decide +kernel⟩⟩
theorem z_Fa_75 : xSt R_Fa 75 y_Fa_isMark prog_1_method_17_code 1 (some .boolean) 1 := ⟨m_268, m_266, m_267, m_49, ⟨by decide +kernel, by decide +kernel, by decide +kernel⟩⟩
theorem z_Fa_79 : xV R_Fa 79 R_Co y_Co_isFull prog_2_method_3_code 1 (some .boolean) 0 := ⟨m_272, m_269, m_270, m_271, m_50, ⟨by decide +kernel, by decide +kernel, by decide +kernel⟩⟩
theorem z_Fa_83 : xV R_Fa 83 R_Co y_Co_add prog_2_method_4_code 5 none 2 := ⟨m_276, m_273, m_274, m_275, m_50, ⟨by decide +kernel, by decide +kernel, by decide +kernel⟩⟩
theorem z_Fa_87 : xV R_Fa 87 R_Fa y_Fa_dropGrammar prog_1_method_16_code 1 none 0 := ⟨m_283, m_280, m_282, m_0, m_49, ⟨by decide +kernel, by decide +kernel, by decide +kernel⟩⟩
end
section
/-! decode rows (written by wip/gen) -/
theorem d_Fa_isMark_0 : decode prog_1_method_17_code 0 = .ok (.iload_n 0, 1) := by decide +kernel
theorem d_Fa_isMark_1 : decode prog_1_method_17_code 1 = .ok (.bipush (40), 2) := by decide +kernel
theorem d_Fa_isMark_3 : decode prog_1_method_17_code 3 = .ok (.if_icmp .eq (15), 3) := by decide +kernel
theorem d_Fa_isMark_6 : decode prog_1_method_17_code 6 = .ok (.iload_n 0, 1) := by decide +kernel
theorem d_Fa_isMark_7 : decode prog_1_method_17_code 7 = .ok (.bipush (41), 2) := by decide +kernel
theorem d_Fa_isMark_9 : decode prog_1_method_17_code 9 = .ok (.if_icmp .eq (9), 3) := by decide +kernel
theorem d_Fa_isMark_12 : decode prog_1_method_17_code 12 = .ok (.iload_n 0, 1) := by decide +kernel
theorem d_Fa_isMark_13 : decode prog_1_method_17_code 13 = .ok (.bipush (46), 2) := by decide +kernel
theorem d_Fa_isMark_15 : decode prog_1_method_17_code 15 = .ok (.if_icmp .ne (7), 3) := by decide +kernel
theorem d_Fa_isMark_18 : decode prog_1_method_17_code 18 = .ok (.iconst 1, 1) := by decide +kernel
theorem d_Fa_isMark_19 : decode prog_1_method_17_code 19 = .ok (.goto (4), 3) := by decide +kernel
theorem d_Fa_isMark_22 : decode prog_1_method_17_code 22 = .ok (.iconst 0, 1) := by decide +kernel
theorem d_Fa_isMark_23 : decode prog_1_method_17_code 23 = .ok (.ireturn, 1) := by decide +kernel
theorem d_Co_isFull_0 : decode prog_2_method_3_code 0 = .ok (.aload_n 0, 1) := by decide +kernel
theorem d_Co_isFull_1 : decode prog_2_method_3_code 1 = .ok (.getfield 29, 3) := by decide +kernel
theorem d_Co_isFull_4 : decode prog_2_method_3_code 4 = .ok (.bipush (8), 2) := by decide +kernel
theorem d_Co_isFull_6 : decode prog_2_method_3_code 6 = .ok (.if_icmp .lt (7), 3) := by decide +kernel
theorem d_Co_isFull_9 : decode prog_2_method_3_code 9 = .ok (.iconst 1, 1) := by decide +kernel
theorem d_Co_isFull_10 : decode prog_2_method_3_code 10 = .ok (.goto (4), 3) := by decide +kernel
theorem d_Co_isFull_13 : decode prog_2_method_3_code 13 = .ok (.iconst 0, 1) := by decide +kernel
theorem d_Co_isFull_14 : decode prog_2_method_3_code 14 = .ok (.ireturn, 1) := by decide +kernel
theorem d_Fa_isLetter_0 : decode prog_1_method_18_code 0 = .ok (.iload_n 0, 1) := by decide +kernel
theorem d_Fa_isLetter_1 : decode prog_1_method_18_code 1 = .ok (.ifCond .lt (12), 3) := by decide +kernel
theorem d_Fa_isLetter_4 : decode prog_1_method_18_code 4 = .ok (.iload_n 0, 1) := by decide +kernel
theorem d_Fa_isLetter_5 : decode prog_1_method_18_code 5 = .ok (.iconst 4, 1) := by decide +kernel
theorem d_Fa_isLetter_6 : decode prog_1_method_18_code 6 = .ok (.if_icmp .ge (7), 3) := by decide +kernel
theorem d_Fa_isLetter_9 : decode prog_1_method_18_code 9 = .ok (.iconst 1, 1) := by decide +kernel
theorem d_Fa_isLetter_10 : decode prog_1_method_18_code 10 = .ok (.goto (4), 3) := by decide +kernel
theorem d_Fa_isLetter_13 : decode prog_1_method_18_code 13 = .ok (.iconst 0, 1) := by decide +kernel
theorem d_Fa_isLetter_14 : decode prog_1_method_18_code 14 = .ok (.ireturn, 1) := by decide +kernel
theorem d_Co_add_0 : decode prog_2_method_4_code 0 = .ok (.aload_n 0, 1) := by decide +kernel
theorem d_Co_add_1 : decode prog_2_method_4_code 1 = .ok (.getfield 9, 3) := by decide +kernel
theorem d_Co_add_4 : decode prog_2_method_4_code 4 = .ok (.aload_n 0, 1) := by decide +kernel
theorem d_Co_add_5 : decode prog_2_method_4_code 5 = .ok (.getfield 29, 3) := by decide +kernel
theorem d_Co_add_8 : decode prog_2_method_4_code 8 = .ok (.iload_n 1, 1) := by decide +kernel
theorem d_Co_add_9 : decode prog_2_method_4_code 9 = .ok (.castore, 1) := by decide +kernel
theorem d_Co_add_10 : decode prog_2_method_4_code 10 = .ok (.iconst 0, 1) := by decide +kernel
theorem d_Co_add_11 : decode prog_2_method_4_code 11 = .ok (.istore_n 3, 1) := by decide +kernel
theorem d_Co_add_12 : decode prog_2_method_4_code 12 = .ok (.iload_n 3, 1) := by decide +kernel
theorem d_Co_add_13 : decode prog_2_method_4_code 13 = .ok (.iconst 4, 1) := by decide +kernel
theorem d_Co_add_14 : decode prog_2_method_4_code 14 = .ok (.if_icmp .ge (23), 3) := by decide +kernel
theorem d_Co_add_17 : decode prog_2_method_4_code 17 = .ok (.aload_n 0, 1) := by decide +kernel
theorem d_Co_add_18 : decode prog_2_method_4_code 18 = .ok (.getfield 15, 3) := by decide +kernel
theorem d_Co_add_21 : decode prog_2_method_4_code 21 = .ok (.aload_n 0, 1) := by decide +kernel
theorem d_Co_add_22 : decode prog_2_method_4_code 22 = .ok (.getfield 29, 3) := by decide +kernel
theorem d_Co_add_25 : decode prog_2_method_4_code 25 = .ok (.iconst 4, 1) := by decide +kernel
theorem d_Co_add_26 : decode prog_2_method_4_code 26 = .ok (.imul, 1) := by decide +kernel
theorem d_Co_add_27 : decode prog_2_method_4_code 27 = .ok (.iload_n 3, 1) := by decide +kernel
theorem d_Co_add_28 : decode prog_2_method_4_code 28 = .ok (.iadd, 1) := by decide +kernel
theorem d_Co_add_29 : decode prog_2_method_4_code 29 = .ok (.iconst 0, 1) := by decide +kernel
theorem d_Co_add_30 : decode prog_2_method_4_code 30 = .ok (.iastore, 1) := by decide +kernel
theorem d_Co_add_31 : decode prog_2_method_4_code 31 = .ok (.iinc 3 (1), 3) := by decide +kernel
theorem d_Co_add_34 : decode prog_2_method_4_code 34 = .ok (.goto (-22), 3) := by decide +kernel
theorem d_Co_add_37 : decode prog_2_method_4_code 37 = .ok (.iconst 0, 1) := by decide +kernel
theorem d_Co_add_38 : decode prog_2_method_4_code 38 = .ok (.istore_n 3, 1) := by decide +kernel
theorem d_Co_add_39 : decode prog_2_method_4_code 39 = .ok (.iload_n 3, 1) := by decide +kernel
theorem d_Co_add_40 : decode prog_2_method_4_code 40 = .ok (.aload_n 0, 1) := by decide +kernel
theorem d_Co_add_41 : decode prog_2_method_4_code 41 = .ok (.getfield 25, 3) := by decide +kernel
theorem d_Co_add_44 : decode prog_2_method_4_code 44 = .ok (.if_icmp .ge (47), 3) := by decide +kernel
theorem d_Co_add_47 : decode prog_2_method_4_code 47 = .ok (.iload_n 2, 1) := by decide +kernel
theorem d_Co_add_48 : decode prog_2_method_4_code 48 = .ok (.iconst 3, 1) := by decide +kernel
theorem d_Co_add_49 : decode prog_2_method_4_code 49 = .ok (.iload_n 3, 1) := by decide +kernel
theorem d_Co_add_50 : decode prog_2_method_4_code 50 = .ok (.imul, 1) := by decide +kernel
theorem d_Co_add_51 : decode prog_2_method_4_code 51 = .ok (.iushr, 1) := by decide +kernel
theorem d_Co_add_52 : decode prog_2_method_4_code 52 = .ok (.bipush (7), 2) := by decide +kernel
theorem d_Co_add_54 : decode prog_2_method_4_code 54 = .ok (.iand, 1) := by decide +kernel
theorem d_Co_add_55 : decode prog_2_method_4_code 55 = .ok (.istore 4, 2) := by decide +kernel
theorem d_Co_add_57 : decode prog_2_method_4_code 57 = .ok (.iload 4, 2) := by decide +kernel
theorem d_Co_add_59 : decode prog_2_method_4_code 59 = .ok (.invokestatic 32, 3) := by decide +kernel
theorem d_Co_add_62 : decode prog_2_method_4_code 62 = .ok (.ifCond .eq (23), 3) := by decide +kernel
theorem d_Co_add_65 : decode prog_2_method_4_code 65 = .ok (.aload_n 0, 1) := by decide +kernel
theorem d_Co_add_66 : decode prog_2_method_4_code 66 = .ok (.getfield 15, 3) := by decide +kernel
theorem d_Co_add_69 : decode prog_2_method_4_code 69 = .ok (.aload_n 0, 1) := by decide +kernel
theorem d_Co_add_70 : decode prog_2_method_4_code 70 = .ok (.getfield 29, 3) := by decide +kernel
theorem d_Co_add_73 : decode prog_2_method_4_code 73 = .ok (.iconst 4, 1) := by decide +kernel
theorem d_Co_add_74 : decode prog_2_method_4_code 74 = .ok (.imul, 1) := by decide +kernel
theorem d_Co_add_75 : decode prog_2_method_4_code 75 = .ok (.iload 4, 2) := by decide +kernel
theorem d_Co_add_77 : decode prog_2_method_4_code 77 = .ok (.iadd, 1) := by decide +kernel
theorem d_Co_add_78 : decode prog_2_method_4_code 78 = .ok (.dup2, 1) := by decide +kernel
theorem d_Co_add_79 : decode prog_2_method_4_code 79 = .ok (.iaload, 1) := by decide +kernel
theorem d_Co_add_80 : decode prog_2_method_4_code 80 = .ok (.iconst 1, 1) := by decide +kernel
theorem d_Co_add_81 : decode prog_2_method_4_code 81 = .ok (.iload_n 3, 1) := by decide +kernel
theorem d_Co_add_82 : decode prog_2_method_4_code 82 = .ok (.ishl, 1) := by decide +kernel
theorem d_Co_add_83 : decode prog_2_method_4_code 83 = .ok (.ior, 1) := by decide +kernel
theorem d_Co_add_84 : decode prog_2_method_4_code 84 = .ok (.iastore, 1) := by decide +kernel
theorem d_Co_add_85 : decode prog_2_method_4_code 85 = .ok (.iinc 3 (1), 3) := by decide +kernel
theorem d_Co_add_88 : decode prog_2_method_4_code 88 = .ok (.goto (-49), 3) := by decide +kernel
theorem d_Co_add_91 : decode prog_2_method_4_code 91 = .ok (.aload_n 0, 1) := by decide +kernel
theorem d_Co_add_92 : decode prog_2_method_4_code 92 = .ok (.dup, 1) := by decide +kernel
theorem d_Co_add_93 : decode prog_2_method_4_code 93 = .ok (.getfield 29, 3) := by decide +kernel
theorem d_Co_add_96 : decode prog_2_method_4_code 96 = .ok (.iconst 1, 1) := by decide +kernel
theorem d_Co_add_97 : decode prog_2_method_4_code 97 = .ok (.iadd, 1) := by decide +kernel
theorem d_Co_add_98 : decode prog_2_method_4_code 98 = .ok (.putfield 29, 3) := by decide +kernel
theorem d_Co_add_101 : decode prog_2_method_4_code 101 = .ok (.return_, 1) := by decide +kernel
theorem d_Gr_forget_0 : decode prog_4_method_3_code 0 = .ok (.aload_n 0, 1) := by decide +kernel
theorem d_Gr_forget_1 : decode prog_4_method_3_code 1 = .ok (.iconst 0, 1) := by decide +kernel
theorem d_Gr_forget_2 : decode prog_4_method_3_code 2 = .ok (.putfield 44, 3) := by decide +kernel
theorem d_Gr_forget_5 : decode prog_4_method_3_code 5 = .ok (.return_, 1) := by decide +kernel
theorem d_Hi_forget_0 : decode prog_5_method_3_code 0 = .ok (.aload_n 0, 1) := by decide +kernel
theorem d_Hi_forget_1 : decode prog_5_method_3_code 1 = .ok (.iconst 0, 1) := by decide +kernel
theorem d_Hi_forget_2 : decode prog_5_method_3_code 2 = .ok (.putfield 25, 3) := by decide +kernel
theorem d_Hi_forget_5 : decode prog_5_method_3_code 5 = .ok (.return_, 1) := by decide +kernel
theorem d_Fa_dropGrammar_0 : decode prog_1_method_16_code 0 = .ok (.aload_n 0, 1) := by decide +kernel
theorem d_Fa_dropGrammar_1 : decode prog_1_method_16_code 1 = .ok (.getfield 44, 3) := by decide +kernel
theorem d_Fa_dropGrammar_4 : decode prog_1_method_16_code 4 = .ok (.invokevirtual 193, 3) := by decide +kernel
theorem d_Fa_dropGrammar_7 : decode prog_1_method_16_code 7 = .ok (.aload_n 0, 1) := by decide +kernel
theorem d_Fa_dropGrammar_8 : decode prog_1_method_16_code 8 = .ok (.getfield 64, 3) := by decide +kernel
theorem d_Fa_dropGrammar_11 : decode prog_1_method_16_code 11 = .ok (.invokevirtual 106, 3) := by decide +kernel
theorem d_Fa_dropGrammar_14 : decode prog_1_method_16_code 14 = .ok (.return_, 1) := by decide +kernel
theorem d_Fa_column_0 : decode prog_1_method_2_code 0 = .ok (.iload_n 1, 1) := by decide +kernel
theorem d_Fa_column_1 : decode prog_1_method_2_code 1 = .ok (.invokestatic 75, 3) := by decide +kernel
theorem d_Fa_column_4 : decode prog_1_method_2_code 4 = .ok (.ifCond .eq (13), 3) := by decide +kernel
theorem d_Fa_column_7 : decode prog_1_method_2_code 7 = .ok (.aload_n 0, 1) := by decide +kernel
theorem d_Fa_column_8 : decode prog_1_method_2_code 8 = .ok (.getfield 36, 3) := by decide +kernel
theorem d_Fa_column_11 : decode prog_1_method_2_code 11 = .ok (.invokevirtual 79, 3) := by decide +kernel
theorem d_Fa_column_14 : decode prog_1_method_2_code 14 = .ok (.ifCond .eq (5), 3) := by decide +kernel
theorem d_Fa_column_17 : decode prog_1_method_2_code 17 = .ok (.iconst 0, 1) := by decide +kernel
theorem d_Fa_column_18 : decode prog_1_method_2_code 18 = .ok (.ireturn, 1) := by decide +kernel
theorem d_Fa_column_19 : decode prog_1_method_2_code 19 = .ok (.aload_n 0, 1) := by decide +kernel
theorem d_Fa_column_20 : decode prog_1_method_2_code 20 = .ok (.getfield 36, 3) := by decide +kernel
theorem d_Fa_column_23 : decode prog_1_method_2_code 23 = .ok (.iload_n 1, 1) := by decide +kernel
theorem d_Fa_column_24 : decode prog_1_method_2_code 24 = .ok (.iload_n 2, 1) := by decide +kernel
theorem d_Fa_column_25 : decode prog_1_method_2_code 25 = .ok (.invokevirtual 83, 3) := by decide +kernel
theorem d_Fa_column_28 : decode prog_1_method_2_code 28 = .ok (.aload_n 0, 1) := by decide +kernel
theorem d_Fa_column_29 : decode prog_1_method_2_code 29 = .ok (.invokevirtual 87, 3) := by decide +kernel
theorem d_Fa_column_32 : decode prog_1_method_2_code 32 = .ok (.iconst 1, 1) := by decide +kernel
theorem d_Fa_column_33 : decode prog_1_method_2_code 33 = .ok (.ireturn, 1) := by decide +kernel
theorem d_Co_pairUp_0 : decode prog_2_method_6_code 0 = .ok (.iconst 0, 1) := by decide +kernel
theorem d_Co_pairUp_1 : decode prog_2_method_6_code 1 = .ok (.istore_n 1, 1) := by decide +kernel
theorem d_Co_pairUp_2 : decode prog_2_method_6_code 2 = .ok (.iconst 0, 1) := by decide +kernel
theorem d_Co_pairUp_3 : decode prog_2_method_6_code 3 = .ok (.istore_n 2, 1) := by decide +kernel
theorem d_Co_pairUp_4 : decode prog_2_method_6_code 4 = .ok (.iload_n 2, 1) := by decide +kernel
theorem d_Co_pairUp_5 : decode prog_2_method_6_code 5 = .ok (.aload_n 0, 1) := by decide +kernel
theorem d_Co_pairUp_6 : decode prog_2_method_6_code 6 = .ok (.getfield 29, 3) := by decide +kernel
theorem d_Co_pairUp_9 : decode prog_2_method_6_code 9 = .ok (.if_icmp .ge (84), 3) := by decide +kernel
theorem d_Co_pairUp_12 : decode prog_2_method_6_code 12 = .ok (.aload_n 0, 1) := by decide +kernel
theorem d_Co_pairUp_13 : decode prog_2_method_6_code 13 = .ok (.getfield 19, 3) := by decide +kernel
theorem d_Co_pairUp_16 : decode prog_2_method_6_code 16 = .ok (.iload_n 2, 1) := by decide +kernel
theorem d_Co_pairUp_17 : decode prog_2_method_6_code 17 = .ok (.iconst (-1), 1) := by decide +kernel
theorem d_Co_pairUp_18 : decode prog_2_method_6_code 18 = .ok (.iastore, 1) := by decide +kernel
theorem d_Co_pairUp_19 : decode prog_2_method_6_code 19 = .ok (.aload_n 0, 1) := by decide +kernel
theorem d_Co_pairUp_20 : decode prog_2_method_6_code 20 = .ok (.getfield 9, 3) := by decide +kernel
theorem d_Co_pairUp_23 : decode prog_2_method_6_code 23 = .ok (.iload_n 2, 1) := by decide +kernel
theorem d_Co_pairUp_24 : decode prog_2_method_6_code 24 = .ok (.caload, 1) := by decide +kernel
theorem d_Co_pairUp_25 : decode prog_2_method_6_code 25 = .ok (.bipush (40), 2) := by decide +kernel
theorem d_Co_pairUp_27 : decode prog_2_method_6_code 27 = .ok (.if_icmp .ne (16), 3) := by decide +kernel
theorem d_Co_pairUp_30 : decode prog_2_method_6_code 30 = .ok (.aload_n 0, 1) := by decide +kernel
theorem d_Co_pairUp_31 : decode prog_2_method_6_code 31 = .ok (.getfield 22, 3) := by decide +kernel
theorem d_Co_pairUp_34 : decode prog_2_method_6_code 34 = .ok (.iload_n 1, 1) := by decide +kernel
theorem d_Co_pairUp_35 : decode prog_2_method_6_code 35 = .ok (.iload_n 2, 1) := by decide +kernel
theorem d_Co_pairUp_36 : decode prog_2_method_6_code 36 = .ok (.iastore, 1) := by decide +kernel
theorem d_Co_pairUp_37 : decode prog_2_method_6_code 37 = .ok (.iinc 1 (1), 3) := by decide +kernel
theorem d_Co_pairUp_40 : decode prog_2_method_6_code 40 = .ok (.goto (47), 3) := by decide +kernel
theorem d_Co_pairUp_43 : decode prog_2_method_6_code 43 = .ok (.aload_n 0, 1) := by decide +kernel
theorem d_Co_pairUp_44 : decode prog_2_method_6_code 44 = .ok (.getfield 9, 3) := by decide +kernel
theorem d_Co_pairUp_47 : decode prog_2_method_6_code 47 = .ok (.iload_n 2, 1) := by decide +kernel
theorem d_Co_pairUp_48 : decode prog_2_method_6_code 48 = .ok (.caload, 1) := by decide +kernel
theorem d_Co_pairUp_49 : decode prog_2_method_6_code 49 = .ok (.bipush (41), 2) := by decide +kernel
theorem d_Co_pairUp_51 : decode prog_2_method_6_code 51 = .ok (.if_icmp .ne (36), 3) := by decide +kernel
theorem d_Co_pairUp_54 : decode prog_2_method_6_code 54 = .ok (.iload_n 1, 1) := by decide +kernel
theorem d_Co_pairUp_55 : decode prog_2_method_6_code 55 = .ok (.ifCond .ne (5), 3) := by decide +kernel
theorem d_Co_pairUp_58 : decode prog_2_method_6_code 58 = .ok (.iconst 0, 1) := by decide +kernel
theorem d_Co_pairUp_59 : decode prog_2_method_6_code 59 = .ok (.ireturn, 1) := by decide +kernel
theorem d_Co_pairUp_60 : decode prog_2_method_6_code 60 = .ok (.iinc 1 (-1), 3) := by decide +kernel
theorem d_Co_pairUp_63 : decode prog_2_method_6_code 63 = .ok (.aload_n 0, 1) := by decide +kernel
theorem d_Co_pairUp_64 : decode prog_2_method_6_code 64 = .ok (.getfield 19, 3) := by decide +kernel
theorem d_Co_pairUp_67 : decode prog_2_method_6_code 67 = .ok (.iload_n 2, 1) := by decide +kernel
theorem d_Co_pairUp_68 : decode prog_2_method_6_code 68 = .ok (.aload_n 0, 1) := by decide +kernel
theorem d_Co_pairUp_69 : decode prog_2_method_6_code 69 = .ok (.getfield 22, 3) := by decide +kernel
theorem d_Co_pairUp_72 : decode prog_2_method_6_code 72 = .ok (.iload_n 1, 1) := by decide +kernel
theorem d_Co_pairUp_73 : decode prog_2_method_6_code 73 = .ok (.iaload, 1) := by decide +kernel
theorem d_Co_pairUp_74 : decode prog_2_method_6_code 74 = .ok (.iastore, 1) := by decide +kernel
theorem d_Co_pairUp_75 : decode prog_2_method_6_code 75 = .ok (.aload_n 0, 1) := by decide +kernel
theorem d_Co_pairUp_76 : decode prog_2_method_6_code 76 = .ok (.getfield 19, 3) := by decide +kernel
theorem d_Co_pairUp_79 : decode prog_2_method_6_code 79 = .ok (.aload_n 0, 1) := by decide +kernel
theorem d_Co_pairUp_80 : decode prog_2_method_6_code 80 = .ok (.getfield 22, 3) := by decide +kernel
theorem d_Co_pairUp_83 : decode prog_2_method_6_code 83 = .ok (.iload_n 1, 1) := by decide +kernel
theorem d_Co_pairUp_84 : decode prog_2_method_6_code 84 = .ok (.iaload, 1) := by decide +kernel
theorem d_Co_pairUp_85 : decode prog_2_method_6_code 85 = .ok (.iload_n 2, 1) := by decide +kernel
theorem d_Co_pairUp_86 : decode prog_2_method_6_code 86 = .ok (.iastore, 1) := by decide +kernel
theorem d_Co_pairUp_87 : decode prog_2_method_6_code 87 = .ok (.iinc 2 (1), 3) := by decide +kernel
theorem d_Co_pairUp_90 : decode prog_2_method_6_code 90 = .ok (.goto (-86), 3) := by decide +kernel
theorem d_Co_pairUp_93 : decode prog_2_method_6_code 93 = .ok (.iload_n 1, 1) := by decide +kernel
theorem d_Co_pairUp_94 : decode prog_2_method_6_code 94 = .ok (.ifCond .ne (7), 3) := by decide +kernel
theorem d_Co_pairUp_97 : decode prog_2_method_6_code 97 = .ok (.iconst 1, 1) := by decide +kernel
theorem d_Co_pairUp_98 : decode prog_2_method_6_code 98 = .ok (.goto (4), 3) := by decide +kernel
theorem d_Co_pairUp_101 : decode prog_2_method_6_code 101 = .ok (.iconst 0, 1) := by decide +kernel
theorem d_Co_pairUp_102 : decode prog_2_method_6_code 102 = .ok (.ireturn, 1) := by decide +kernel
end
section
/-! pure functions and contracts of Fa_isMark, Co_isFull, Fa_isLetter, Co_add, Gr_forget, Hi_forget, Fa_dropGrammar, Fa_column, Co_pairUp (written by wip/gen) -/
def f_Fa_isMark (a1 : Int32) : Option (Int32) := if a1 = (40 : Int32) then (some ((1 : Int32))) else (if a1 = (41 : Int32) then (some ((1 : Int32))) else (if a1 = (46 : Int32) then (some ((1 : Int32))) else (some ((0 : Int32)))))
set_option maxHeartbeats 4000000 in
set_option maxRecDepth 100000 in
theorem c_Fa_isMark (l : Launch) (dC : Nat → ClassId) (dI : Nat → Nat → Nat) (ty : Nat → ClassId) (ad : Nat → Nat) (sz : Nat) (co_rows : Int32) (co_marks : (Nat → Int32)) (co_rowSets : (Nat → Int32)) (co_partners : (Nat → Int32)) (co_open : (Nat → Int32)) (co_count : Int32) (tr_kinds : (Nat → Int32)) (tr_lefts : (Nat → Int32)) (tr_rights : (Nat → Int32)) (tr_seconds : (Nat → Int32)) (tr_size : Int32) (gr_kinds : (Nat → Int32)) (gr_nodes : (Nat → Int32)) (gr_rowSets : (Nat → Int32)) (gr_firstStates : (Nat → Int32)) (gr_targetCounts : (Nat → Int32)) (gr_targets : (Nat → Int32)) (gr_stepScores : (Nat → Int32)) (gr_letterScores : (Nat → Int32)) (gr_size : Int32) (tx_letters : (Nat → Int32)) (tx_length : Int32) (va_scores : (Nat → Int32)) (va_knownEnds : Int32) (hi_begins : (Nat → Int32)) (hi_lengths : (Nat → Int32)) (hi_scores : (Nat → Int32)) (hi_taken : (Nat → Int32)) (hi_count : Int32) (de_states : (Nat → Int32)) (de_begins : (Nat → Int32)) (de_lengths : (Nat → Int32)) (de_length : Int32) (a1 : Int32) (r0 : Int32) (hf : f_Fa_isMark a1 = some (r0)) : Met l y_Fa_isMark (.code y_Fa_isMark prog_1_method_17_code 1 (some .boolean) :: gw) rm_Fa_isMark (xPre (dC, dI) classes (tys3 ty) (wX ty ad co_rows co_marks co_rowSets co_partners co_open co_count tr_kinds tr_lefts tr_rights tr_seconds tr_size gr_kinds gr_nodes gr_rowSets gr_firstStates gr_targetCounts gr_targets gr_stepScores gr_letterScores gr_size tx_letters tx_length va_scores va_knownEnds hi_begins hi_lengths hi_scores hi_taken hi_count de_states de_begins de_lengths de_length) sz [.int a1]) (xQi (dC, dI) classes (wX ty ad co_rows co_marks co_rowSets co_partners co_open co_count tr_kinds tr_lefts tr_rights tr_seconds tr_size gr_kinds gr_nodes gr_rowSets gr_firstStates gr_targetCounts gr_targets gr_stepScores gr_letterScores gr_size tx_letters tx_length va_scores va_knownEnds hi_begins hi_lengths hi_scores hi_taken hi_count de_states de_begins de_lengths de_length) (wX ty ad co_rows co_marks co_rowSets co_partners co_open co_count tr_kinds tr_lefts tr_rights tr_seconds tr_size gr_kinds gr_nodes gr_rowSets gr_firstStates gr_targetCounts gr_targets gr_stepScores gr_letterScores gr_size tx_letters tx_length va_scores va_knownEnds hi_begins hi_lengths hi_scores hi_taken hi_count de_states de_begins de_lengths de_length) sz r0) 0 0 (va_A (wX ty ad co_rows co_marks co_rowSets co_partners co_open co_count tr_kinds tr_lefts tr_rights tr_seconds tr_size gr_kinds gr_nodes gr_rowSets gr_firstStates gr_targetCounts gr_targets gr_stepScores gr_letterScores gr_size tx_letters tx_length va_scores va_knownEnds hi_begins hi_lengths hi_scores hi_taken hi_count de_states de_begins de_lengths de_length) sz) := by
  refine xmet_z rfl (Nat.le_of_ble_eq_true rfl) ?_
  intro p e s m below meth c A ls Q hx hb hml hts hown hK hN hA hP hD hS hl hret
  replace hown : s.vm.findClass R_Fa = some m.cls := hown
  have hl : lv_has ls 1 [(0, .int a1)] := hl
  rw [f_Fa_isMark] at hf
  obtain ⟨H, eH⟩ : ∃ H : Heap, H = s.heap := ⟨_, rfl⟩
  obtain ⟨locs, eL⟩ : ∃ L : List Loc, L = [] := ⟨_, rfl⟩
  have hP : va_P (dC, dI) classes (wX ty ad co_rows co_marks co_rowSets co_partners co_open co_count tr_kinds tr_lefts tr_rights tr_seconds tr_size gr_kinds gr_nodes gr_rowSets gr_firstStates gr_targetCounts gr_targets gr_stepScores gr_letterScores gr_size tx_letters tx_length va_scores va_knownEnds hi_begins hi_lengths hi_scores hi_taken hi_count de_states de_begins de_lengths de_length) H := by rw [eH]; exact hP
  have hS : va_S A s.heap H locs := by rw [eH, eL]; exact hS
  rw [← eL]
  suffices hgoal : W p l e rm_Fa_isMark s m (List.toArray [.int a1]) below meth c H locs 0 0 Q (F0 m 0 ls []) by rw [eH] at hgoal; exact hgoal
  clear eH eL
  refine lv_iload_n hx hb d_Fa_isMark_0 rfl (lv_at hl 0 rfl) ?_
  refine lv_bipush (v := 40) hx hb d_Fa_isMark_1 (by decide) ?_
  refine lv_icmp_eq (tgt := 18) hx hb d_Fa_isMark_3 (by decide) (fun c1 => ?_) (fun c1 => ?_)
  · have hf := xif_t c1 hf
    refine lv_iconst (v := 1) hx hb d_Fa_isMark_18 (by decide) ?_
    refine lv_goto (tgt := 23) hx hb d_Fa_isMark_19 (by decide) ?_
    obtain rfl := os1 hf
    exact hret H locs _ _ _ d_Fa_isMark_23 rfl rfl hP hS
  · have hf := xif_f c1 hf
    refine lv_iload_n hx hb d_Fa_isMark_6 rfl (lv_at hl 0 rfl) ?_
    refine lv_bipush (v := 41) hx hb d_Fa_isMark_7 (by decide) ?_
    refine lv_icmp_eq (tgt := 18) hx hb d_Fa_isMark_9 (by decide) (fun c2 => ?_) (fun c2 => ?_)
    · have hf := xif_t c2 hf
      refine lv_iconst (v := 1) hx hb d_Fa_isMark_18 (by decide) ?_
      refine lv_goto (tgt := 23) hx hb d_Fa_isMark_19 (by decide) ?_
      obtain rfl := os1 hf
      exact hret H locs _ _ _ d_Fa_isMark_23 rfl rfl hP hS
    · have hf := xif_f c2 hf
      refine lv_iload_n hx hb d_Fa_isMark_12 rfl (lv_at hl 0 rfl) ?_
      refine lv_bipush (v := 46) hx hb d_Fa_isMark_13 (by decide) ?_
      refine lv_icmp_ne (tgt := 22) hx hb d_Fa_isMark_15 (by decide) (fun c3 => ?_) (fun c3 => ?_)
      · have hf := xif_f c3 hf
        refine lv_iconst (v := 0) hx hb d_Fa_isMark_22 (by decide) ?_
        obtain rfl := os1 hf
        exact hret H locs _ _ _ d_Fa_isMark_23 rfl rfl hP hS
      · have hf := xif_t c3 hf
        refine lv_iconst (v := 1) hx hb d_Fa_isMark_18 (by decide) ?_
        refine lv_goto (tgt := 23) hx hb d_Fa_isMark_19 (by decide) ?_
        obtain rfl := os1 hf
        exact hret H locs _ _ _ d_Fa_isMark_23 rfl rfl hP hS
def f_Co_isFull (co_count : Int32) : Option (Int32) := if co_count < (8 : Int32) then (some ((0 : Int32))) else (some ((1 : Int32)))
set_option maxHeartbeats 4000000 in
set_option maxRecDepth 100000 in
theorem c_Co_isFull (l : Launch) (dC : Nat → ClassId) (dI : Nat → Nat → Nat) (ty : Nat → ClassId) (ad : Nat → Nat) (sz : Nat) (co_rows : Int32) (co_marks : (Nat → Int32)) (co_rowSets : (Nat → Int32)) (co_partners : (Nat → Int32)) (co_open : (Nat → Int32)) (co_count : Int32) (tr_kinds : (Nat → Int32)) (tr_lefts : (Nat → Int32)) (tr_rights : (Nat → Int32)) (tr_seconds : (Nat → Int32)) (tr_size : Int32) (gr_kinds : (Nat → Int32)) (gr_nodes : (Nat → Int32)) (gr_rowSets : (Nat → Int32)) (gr_firstStates : (Nat → Int32)) (gr_targetCounts : (Nat → Int32)) (gr_targets : (Nat → Int32)) (gr_stepScores : (Nat → Int32)) (gr_letterScores : (Nat → Int32)) (gr_size : Int32) (tx_letters : (Nat → Int32)) (tx_length : Int32) (va_scores : (Nat → Int32)) (va_knownEnds : Int32) (hi_begins : (Nat → Int32)) (hi_lengths : (Nat → Int32)) (hi_scores : (Nat → Int32)) (hi_taken : (Nat → Int32)) (hi_count : Int32) (de_states : (Nat → Int32)) (de_begins : (Nat → Int32)) (de_lengths : (Nat → Int32)) (de_length : Int32)  (r0 : Int32) (hf : f_Co_isFull co_count = some (r0)) : Met l y_Co_isFull (.code y_Co_isFull prog_2_method_3_code 1 (some .boolean) :: gw) rm_Co_isFull (xPre (dC, dI) classes (tys3 ty) (wX ty ad co_rows co_marks co_rowSets co_partners co_open co_count tr_kinds tr_lefts tr_rights tr_seconds tr_size gr_kinds gr_nodes gr_rowSets gr_firstStates gr_targetCounts gr_targets gr_stepScores gr_letterScores gr_size tx_letters tx_length va_scores va_knownEnds hi_begins hi_lengths hi_scores hi_taken hi_count de_states de_begins de_lengths de_length) sz [.ref (ad 1)]) (xQi (dC, dI) classes (wX ty ad co_rows co_marks co_rowSets co_partners co_open co_count tr_kinds tr_lefts tr_rights tr_seconds tr_size gr_kinds gr_nodes gr_rowSets gr_firstStates gr_targetCounts gr_targets gr_stepScores gr_letterScores gr_size tx_letters tx_length va_scores va_knownEnds hi_begins hi_lengths hi_scores hi_taken hi_count de_states de_begins de_lengths de_length) (wX ty ad co_rows co_marks co_rowSets co_partners co_open co_count tr_kinds tr_lefts tr_rights tr_seconds tr_size gr_kinds gr_nodes gr_rowSets gr_firstStates gr_targetCounts gr_targets gr_stepScores gr_letterScores gr_size tx_letters tx_length va_scores va_knownEnds hi_begins hi_lengths hi_scores hi_taken hi_count de_states de_begins de_lengths de_length) sz r0) 0 0 (va_A (wX ty ad co_rows co_marks co_rowSets co_partners co_open co_count tr_kinds tr_lefts tr_rights tr_seconds tr_size gr_kinds gr_nodes gr_rowSets gr_firstStates gr_targetCounts gr_targets gr_stepScores gr_letterScores gr_size tx_letters tx_length va_scores va_knownEnds hi_begins hi_lengths hi_scores hi_taken hi_count de_states de_begins de_lengths de_length) sz) := by
  refine xmet_z rfl (Nat.le_of_ble_eq_true rfl) ?_
  intro p e s m below meth c A ls Q hx hb hml hts hown hK hN hA hP hD hS hl hret
  replace hown : s.vm.findClass R_Co = some m.cls := hown
  have hl : lv_has ls 1 [(0, .ref (ad 1))] := hl
  rw [f_Co_isFull] at hf
  obtain ⟨H, eH⟩ : ∃ H : Heap, H = s.heap := ⟨_, rfl⟩
  obtain ⟨locs, eL⟩ : ∃ L : List Loc, L = [] := ⟨_, rfl⟩
  have hP : va_P (dC, dI) classes (wX ty ad co_rows co_marks co_rowSets co_partners co_open co_count tr_kinds tr_lefts tr_rights tr_seconds tr_size gr_kinds gr_nodes gr_rowSets gr_firstStates gr_targetCounts gr_targets gr_stepScores gr_letterScores gr_size tx_letters tx_length va_scores va_knownEnds hi_begins hi_lengths hi_scores hi_taken hi_count de_states de_begins de_lengths de_length) H := by rw [eH]; exact hP
  have hS : va_S A s.heap H locs := by rw [eH, eL]; exact hS
  rw [← eL]
  suffices hgoal : W p l e rm_Co_isFull s m (List.toArray [.ref (ad 1)]) below meth c H locs 0 0 Q (F0 m 0 ls []) by rw [eH] at hgoal; exact hgoal
  clear eH eL
  refine lv_aload_n hx hb d_Co_isFull_0 rfl (lv_at hl 0 rfl) ?_
  refine va_get (D := (dC, dI)) (ci := 1) (v := .int co_count) (C := R_Co) (T := F_Co) (N := 6) hx hb hts iw_Co hown hK hP 1 rfl rfl 5 (by decide) (hts _ m_85) (fun _ h9 => h9) rfl d_Co_isFull_1 ?_
  refine lv_bipush (v := 8) hx hb d_Co_isFull_4 (by decide) ?_
  refine lv_icmp_lt (tgt := 13) hx hb d_Co_isFull_6 (by decide) (fun c1 => ?_) (fun c1 => ?_)
  · have hf := xif_t c1 hf
    refine lv_iconst (v := 0) hx hb d_Co_isFull_13 (by decide) ?_
    obtain rfl := os1 hf
    exact hret H locs _ _ _ d_Co_isFull_14 rfl rfl hP hS
  · have hf := xif_f c1 hf
    refine lv_iconst (v := 1) hx hb d_Co_isFull_9 (by decide) ?_
    refine lv_goto (tgt := 14) hx hb d_Co_isFull_10 (by decide) ?_
    obtain rfl := os1 hf
    exact hret H locs _ _ _ d_Co_isFull_14 rfl rfl hP hS
def f_Fa_isLetter (a1 : Int32) : Option (Int32) := if a1 < (0 : Int32) then (some ((0 : Int32))) else (if (4 : Int32) ≤ a1 then (some ((0 : Int32))) else (some ((1 : Int32))))
set_option maxHeartbeats 4000000 in
set_option maxRecDepth 100000 in
theorem c_Fa_isLetter (l : Launch) (dC : Nat → ClassId) (dI : Nat → Nat → Nat) (ty : Nat → ClassId) (ad : Nat → Nat) (sz : Nat) (co_rows : Int32) (co_marks : (Nat → Int32)) (co_rowSets : (Nat → Int32)) (co_partners : (Nat → Int32)) (co_open : (Nat → Int32)) (co_count : Int32) (tr_kinds : (Nat → Int32)) (tr_lefts : (Nat → Int32)) (tr_rights : (Nat → Int32)) (tr_seconds : (Nat → Int32)) (tr_size : Int32) (gr_kinds : (Nat → Int32)) (gr_nodes : (Nat → Int32)) (gr_rowSets : (Nat → Int32)) (gr_firstStates : (Nat → Int32)) (gr_targetCounts : (Nat → Int32)) (gr_targets : (Nat → Int32)) (gr_stepScores : (Nat → Int32)) (gr_letterScores : (Nat → Int32)) (gr_size : Int32) (tx_letters : (Nat → Int32)) (tx_length : Int32) (va_scores : (Nat → Int32)) (va_knownEnds : Int32) (hi_begins : (Nat → Int32)) (hi_lengths : (Nat → Int32)) (hi_scores : (Nat → Int32)) (hi_taken : (Nat → Int32)) (hi_count : Int32) (de_states : (Nat → Int32)) (de_begins : (Nat → Int32)) (de_lengths : (Nat → Int32)) (de_length : Int32) (a1 : Int32) (r0 : Int32) (hf : f_Fa_isLetter a1 = some (r0)) : Met l y_Fa_isLetter (.code y_Fa_isLetter prog_1_method_18_code 1 (some .boolean) :: gw) rm_Fa_isLetter (xPre (dC, dI) classes (tys3 ty) (wX ty ad co_rows co_marks co_rowSets co_partners co_open co_count tr_kinds tr_lefts tr_rights tr_seconds tr_size gr_kinds gr_nodes gr_rowSets gr_firstStates gr_targetCounts gr_targets gr_stepScores gr_letterScores gr_size tx_letters tx_length va_scores va_knownEnds hi_begins hi_lengths hi_scores hi_taken hi_count de_states de_begins de_lengths de_length) sz [.int a1]) (xQi (dC, dI) classes (wX ty ad co_rows co_marks co_rowSets co_partners co_open co_count tr_kinds tr_lefts tr_rights tr_seconds tr_size gr_kinds gr_nodes gr_rowSets gr_firstStates gr_targetCounts gr_targets gr_stepScores gr_letterScores gr_size tx_letters tx_length va_scores va_knownEnds hi_begins hi_lengths hi_scores hi_taken hi_count de_states de_begins de_lengths de_length) (wX ty ad co_rows co_marks co_rowSets co_partners co_open co_count tr_kinds tr_lefts tr_rights tr_seconds tr_size gr_kinds gr_nodes gr_rowSets gr_firstStates gr_targetCounts gr_targets gr_stepScores gr_letterScores gr_size tx_letters tx_length va_scores va_knownEnds hi_begins hi_lengths hi_scores hi_taken hi_count de_states de_begins de_lengths de_length) sz r0) 0 0 (va_A (wX ty ad co_rows co_marks co_rowSets co_partners co_open co_count tr_kinds tr_lefts tr_rights tr_seconds tr_size gr_kinds gr_nodes gr_rowSets gr_firstStates gr_targetCounts gr_targets gr_stepScores gr_letterScores gr_size tx_letters tx_length va_scores va_knownEnds hi_begins hi_lengths hi_scores hi_taken hi_count de_states de_begins de_lengths de_length) sz) := by
  refine xmet_z rfl (Nat.le_of_ble_eq_true rfl) ?_
  intro p e s m below meth c A ls Q hx hb hml hts hown hK hN hA hP hD hS hl hret
  replace hown : s.vm.findClass R_Fa = some m.cls := hown
  have hl : lv_has ls 1 [(0, .int a1)] := hl
  rw [f_Fa_isLetter] at hf
  obtain ⟨H, eH⟩ : ∃ H : Heap, H = s.heap := ⟨_, rfl⟩
  obtain ⟨locs, eL⟩ : ∃ L : List Loc, L = [] := ⟨_, rfl⟩
  have hP : va_P (dC, dI) classes (wX ty ad co_rows co_marks co_rowSets co_partners co_open co_count tr_kinds tr_lefts tr_rights tr_seconds tr_size gr_kinds gr_nodes gr_rowSets gr_firstStates gr_targetCounts gr_targets gr_stepScores gr_letterScores gr_size tx_letters tx_length va_scores va_knownEnds hi_begins hi_lengths hi_scores hi_taken hi_count de_states de_begins de_lengths de_length) H := by rw [eH]; exact hP
  have hS : va_S A s.heap H locs := by rw [eH, eL]; exact hS
  rw [← eL]
  suffices hgoal : W p l e rm_Fa_isLetter s m (List.toArray [.int a1]) below meth c H locs 0 0 Q (F0 m 0 ls []) by rw [eH] at hgoal; exact hgoal
  clear eH eL
  refine lv_iload_n hx hb d_Fa_isLetter_0 rfl (lv_at hl 0 rfl) ?_
  refine lv_if_lt (tgt := 13) hx hb d_Fa_isLetter_1 (by decide) (fun c1 => ?_) (fun c1 => ?_)
  · have hf := xif_t c1 hf
    refine lv_iconst (v := 0) hx hb d_Fa_isLetter_13 (by decide) ?_
    obtain rfl := os1 hf
    exact hret H locs _ _ _ d_Fa_isLetter_14 rfl rfl hP hS
  · have hf := xif_f c1 hf
    refine lv_iload_n hx hb d_Fa_isLetter_4 rfl (lv_at hl 0 rfl) ?_
    refine lv_iconst (v := 4) hx hb d_Fa_isLetter_5 (by decide) ?_
    refine lv_icmp_ge (tgt := 13) hx hb d_Fa_isLetter_6 (by decide) (fun c2 => ?_) (fun c2 => ?_)
    · have hf := xif_t c2 hf
      refine lv_iconst (v := 0) hx hb d_Fa_isLetter_13 (by decide) ?_
      obtain rfl := os1 hf
      exact hret H locs _ _ _ d_Fa_isLetter_14 rfl rfl hP hS
    · have hf := xif_f c2 hf
      refine lv_iconst (v := 1) hx hb d_Fa_isLetter_9 (by decide) ?_
      refine lv_goto (tgt := 14) hx hb d_Fa_isLetter_10 (by decide) ?_
      obtain rfl := os1 hf
      exact hret H locs _ _ _ d_Fa_isLetter_14 rfl rfl hP hS
def f_Co_add_K39_91 (co_marks : (Nat → Int32)) (co_count : Int32) (a1 : Int32) (x3_39 : Int32) (co_rowSets_39 : (Nat → Int32)) : Option ((Nat → Int32) × (Nat → Int32) × Int32) := some ((upd co_marks (Int32.toNatClampNeg co_count) (vp_nar .char a1)), co_rowSets_39, (co_count + (1 : Int32)))
def f_Co_add_L39 (co_rows : Int32) (co_count : Int32) (a2 : Int32) (k39_91 : (Int32 → (Nat → Int32) → Option ((Nat → Int32) × (Nat → Int32) × Int32))) : Nat → Int32 → (Nat → Int32) → Option ((Nat → Int32) × (Nat → Int32) × Int32)
  | 0, _, _ => none
  | n39 + 1, x3_39, co_rowSets_39 => if co_rows ≤ x3_39 then (k39_91 x3_39 co_rowSets_39) else (ob1 (f_Fa_isLetter ((ushr32 a2 ((3 : Int32) * x3_39)) &&& (7 : Int32))) (fun r5 => if r5 = (0 : Int32) then ((f_Co_add_L39 co_rows co_count a2 k39_91 n39) (x3_39 + (1 : Int32)) co_rowSets_39) else (gd (xin ((co_count * (4 : Int32)) + ((ushr32 a2 ((3 : Int32) * x3_39)) &&& (7 : Int32))) 32) (gd (xin ((co_count * (4 : Int32)) + ((ushr32 a2 ((3 : Int32) * x3_39)) &&& (7 : Int32))) 32) ((f_Co_add_L39 co_rows co_count a2 k39_91 n39) (x3_39 + (1 : Int32)) (upd co_rowSets_39 (Int32.toNatClampNeg ((co_count * (4 : Int32)) + ((ushr32 a2 ((3 : Int32) * x3_39)) &&& (7 : Int32)))) ((co_rowSets_39 (Int32.toNatClampNeg ((co_count * (4 : Int32)) + ((ushr32 a2 ((3 : Int32) * x3_39)) &&& (7 : Int32))))) ||| ((1 : Int32) <<< (x3_39 &&& 31)))))))))
def f_Co_add_K12_37 (co_rows : Int32) (co_marks : (Nat → Int32)) (co_count : Int32) (a1 : Int32) (a2 : Int32) (x3_12 : Int32) (co_rowSets_12 : (Nat → Int32)) : Option ((Nat → Int32) × (Nat → Int32) × Int32) := f_Co_add_L39 co_rows co_count a2 (f_Co_add_K39_91 co_marks co_count a1) 1000 (0 : Int32) co_rowSets_12
def f_Co_add_L12 (co_count : Int32) (k12_37 : (Int32 → (Nat → Int32) → Option ((Nat → Int32) × (Nat → Int32) × Int32))) : Nat → Int32 → (Nat → Int32) → Option ((Nat → Int32) × (Nat → Int32) × Int32)
  | 0, _, _ => none
  | n12 + 1, x3_12, co_rowSets_12 => if (4 : Int32) ≤ x3_12 then (k12_37 x3_12 co_rowSets_12) else (gd (xin ((co_count * (4 : Int32)) + x3_12) 32) ((f_Co_add_L12 co_count k12_37 n12) (x3_12 + (1 : Int32)) (upd co_rowSets_12 (Int32.toNatClampNeg ((co_count * (4 : Int32)) + x3_12)) (0 : Int32))))
def f_Co_add (co_rows : Int32) (co_marks : (Nat → Int32)) (co_rowSets : (Nat → Int32)) (co_count : Int32) (a1 : Int32) (a2 : Int32) : Option ((Nat → Int32) × (Nat → Int32) × Int32) := gd (xin co_count 8) (f_Co_add_L12 co_count (f_Co_add_K12_37 co_rows co_marks co_count a1 a2) 1000 (0 : Int32) co_rowSets)
set_option maxHeartbeats 4000000 in
set_option maxRecDepth 100000 in
theorem c_Co_add (l : Launch) (dC : Nat → ClassId) (dI : Nat → Nat → Nat) (ty : Nat → ClassId) (ad : Nat → Nat) (sz : Nat) (co_rows : Int32) (co_marks : (Nat → Int32)) (co_rowSets : (Nat → Int32)) (co_partners : (Nat → Int32)) (co_open : (Nat → Int32)) (co_count : Int32) (tr_kinds : (Nat → Int32)) (tr_lefts : (Nat → Int32)) (tr_rights : (Nat → Int32)) (tr_seconds : (Nat → Int32)) (tr_size : Int32) (gr_kinds : (Nat → Int32)) (gr_nodes : (Nat → Int32)) (gr_rowSets : (Nat → Int32)) (gr_firstStates : (Nat → Int32)) (gr_targetCounts : (Nat → Int32)) (gr_targets : (Nat → Int32)) (gr_stepScores : (Nat → Int32)) (gr_letterScores : (Nat → Int32)) (gr_size : Int32) (tx_letters : (Nat → Int32)) (tx_length : Int32) (va_scores : (Nat → Int32)) (va_knownEnds : Int32) (hi_begins : (Nat → Int32)) (hi_lengths : (Nat → Int32)) (hi_scores : (Nat → Int32)) (hi_taken : (Nat → Int32)) (hi_count : Int32) (de_states : (Nat → Int32)) (de_begins : (Nat → Int32)) (de_lengths : (Nat → Int32)) (de_length : Int32) (a1 : Int32) (a2 : Int32) (n_co_marks : (Nat → Int32)) (n_co_rowSets : (Nat → Int32)) (n_co_count : Int32) (hf : f_Co_add co_rows co_marks co_rowSets co_count a1 a2 = some (n_co_marks, n_co_rowSets, n_co_count)) : Met l y_Co_add (.code y_Co_add prog_2_method_4_code 5 none :: gw) rm_Co_add (xPre (dC, dI) classes (tys3 ty) (wX ty ad co_rows co_marks co_rowSets co_partners co_open co_count tr_kinds tr_lefts tr_rights tr_seconds tr_size gr_kinds gr_nodes gr_rowSets gr_firstStates gr_targetCounts gr_targets gr_stepScores gr_letterScores gr_size tx_letters tx_length va_scores va_knownEnds hi_begins hi_lengths hi_scores hi_taken hi_count de_states de_begins de_lengths de_length) sz [.ref (ad 1), .int a1, .int a2]) (xQv (dC, dI) classes (wX ty ad co_rows co_marks co_rowSets co_partners co_open co_count tr_kinds tr_lefts tr_rights tr_seconds tr_size gr_kinds gr_nodes gr_rowSets gr_firstStates gr_targetCounts gr_targets gr_stepScores gr_letterScores gr_size tx_letters tx_length va_scores va_knownEnds hi_begins hi_lengths hi_scores hi_taken hi_count de_states de_begins de_lengths de_length) (wX ty ad co_rows n_co_marks n_co_rowSets co_partners co_open n_co_count tr_kinds tr_lefts tr_rights tr_seconds tr_size gr_kinds gr_nodes gr_rowSets gr_firstStates gr_targetCounts gr_targets gr_stepScores gr_letterScores gr_size tx_letters tx_length va_scores va_knownEnds hi_begins hi_lengths hi_scores hi_taken hi_count de_states de_begins de_lengths de_length) sz) 0 0 (va_A (wX ty ad co_rows co_marks co_rowSets co_partners co_open co_count tr_kinds tr_lefts tr_rights tr_seconds tr_size gr_kinds gr_nodes gr_rowSets gr_firstStates gr_targetCounts gr_targets gr_stepScores gr_letterScores gr_size tx_letters tx_length va_scores va_knownEnds hi_begins hi_lengths hi_scores hi_taken hi_count de_states de_begins de_lengths de_length) sz) := by
  refine xmet_v rfl (Nat.le_of_ble_eq_true rfl) ?_
  intro p e s m below meth c A ls Q hx hb hml hts hown hK hN hA hP hD hS hl hret
  replace hown : s.vm.findClass R_Co = some m.cls := hown
  have hl : lv_has ls 5 [(0, .ref (ad 1)), (1, .int a1), (2, .int a2)] := hl
  rw [f_Co_add] at hf
  obtain ⟨H, eH⟩ : ∃ H : Heap, H = s.heap := ⟨_, rfl⟩
  obtain ⟨locs, eL⟩ : ∃ L : List Loc, L = [] := ⟨_, rfl⟩
  have hP : va_P (dC, dI) classes (wX ty ad co_rows co_marks co_rowSets co_partners co_open co_count tr_kinds tr_lefts tr_rights tr_seconds tr_size gr_kinds gr_nodes gr_rowSets gr_firstStates gr_targetCounts gr_targets gr_stepScores gr_letterScores gr_size tx_letters tx_length va_scores va_knownEnds hi_begins hi_lengths hi_scores hi_taken hi_count de_states de_begins de_lengths de_length) H := by rw [eH]; exact hP
  have hS : va_S A s.heap H locs := by rw [eH, eL]; exact hS
  rw [← eL]
  suffices hgoal : W p l e rm_Co_add s m (List.toArray [.ref (ad 1), .int a1, .int a2]) below meth c H locs 0 0 Q (F0 m 0 ls []) by rw [eH] at hgoal; exact hgoal
  clear eH eL
  refine lv_aload_n hx hb d_Co_add_0 rfl (lv_at hl 0 rfl) ?_
  refine va_get (D := (dC, dI)) (ci := 1) (v := .ref (ad 2)) (C := R_Co) (T := F_Co) (N := 6) hx hb hts iw_Co hown hK hP 1 rfl rfl 1 (by decide) (hts _ m_81) (fun _ h9 => h9) rfl d_Co_add_1 ?_
  refine lv_aload_n hx hb d_Co_add_4 rfl (lv_at hl 0 rfl) ?_
  refine va_get (D := (dC, dI)) (ci := 1) (v := .int co_count) (C := R_Co) (T := F_Co) (N := 6) hx hb hts iw_Co hown hK hP 1 rfl rfl 5 (by decide) (hts _ m_85) (fun _ h9 => h9) rfl d_Co_add_5 ?_
  refine lv_iload_n hx hb d_Co_add_8 rfl (lv_at hl 1 rfl) ?_
  obtain ⟨hi1, hf⟩ := gdi hf
  refine va_cast hx hb hK hP hD hS 2 1 rfl rfl hi1 d_Co_add_9 (fun H locs hP hD hS => ?_)
  have hP : va_P (dC, dI) classes (wX ty ad co_rows (upd co_marks (Int32.toNatClampNeg co_count) (vp_nar .char a1)) co_rowSets co_partners co_open co_count tr_kinds tr_lefts tr_rights tr_seconds tr_size gr_kinds gr_nodes gr_rowSets gr_firstStates gr_targetCounts gr_targets gr_stepScores gr_letterScores gr_size tx_letters tx_length va_scores va_knownEnds hi_begins hi_lengths hi_scores hi_taken hi_count de_states de_begins de_lengths de_length) H := hP
  have hD : va_D A (wX ty ad co_rows (upd co_marks (Int32.toNatClampNeg co_count) (vp_nar .char a1)) co_rowSets co_partners co_open co_count tr_kinds tr_lefts tr_rights tr_seconds tr_size gr_kinds gr_nodes gr_rowSets gr_firstStates gr_targetCounts gr_targets gr_stepScores gr_letterScores gr_size tx_letters tx_length va_scores va_knownEnds hi_begins hi_lengths hi_scores hi_taken hi_count de_states de_begins de_lengths de_length) := hD
  refine lv_iconst (v := 0) hx hb d_Co_add_10 (by decide) ?_
  refine lv_istore_n (lv' := [(3, .int (0 : Int32)), (0, .ref (ad 1)), (1, .int a1), (2, .int a2)]) hx hb d_Co_add_11 rfl hl (by decide) rfl (fun ls hl => ?_)
  have K12_37 : ∀ (x3_12 : Int32) (co_rowSets_12 : (Nat → Int32)) (H : Heap) (locs : List Loc) (ls : Array Slot), va_P (dC, dI) classes (wX ty ad co_rows (upd co_marks (Int32.toNatClampNeg co_count) (vp_nar .char a1)) co_rowSets_12 co_partners co_open co_count tr_kinds tr_lefts tr_rights tr_seconds tr_size gr_kinds gr_nodes gr_rowSets gr_firstStates gr_targetCounts gr_targets gr_stepScores gr_letterScores gr_size tx_letters tx_length va_scores va_knownEnds hi_begins hi_lengths hi_scores hi_taken hi_count de_states de_begins de_lengths de_length) H → va_D A (wX ty ad co_rows (upd co_marks (Int32.toNatClampNeg co_count) (vp_nar .char a1)) co_rowSets_12 co_partners co_open co_count tr_kinds tr_lefts tr_rights tr_seconds tr_size gr_kinds gr_nodes gr_rowSets gr_firstStates gr_targetCounts gr_targets gr_stepScores gr_letterScores gr_size tx_letters tx_length va_scores va_knownEnds hi_begins hi_lengths hi_scores hi_taken hi_count de_states de_begins de_lengths de_length) → va_S A s.heap H locs → lv_has ls 5 [(0, .ref (ad 1)), (2, .int a2)] → f_Co_add_K12_37 co_rows co_marks co_count a1 a2 x3_12 co_rowSets_12 = some (n_co_marks, n_co_rowSets, n_co_count) → W p l e rm_Co_add s m (List.toArray [.ref (ad 1), .int a1, .int a2]) below meth c H locs 0 0 Q (F0 m 37 ls []) := by
    intro x3_12 co_rowSets_12 H locs ls hP hD hS hl hf
    rw [f_Co_add_K12_37] at hf
    refine lv_iconst (v := 0) hx hb d_Co_add_37 (by decide) ?_
    refine lv_istore_n (lv' := [(3, .int (0 : Int32)), (0, .ref (ad 1)), (2, .int a2)]) hx hb d_Co_add_38 rfl hl (by decide) rfl (fun ls hl => ?_)
    have K39_91 : ∀ (x3_39 : Int32) (co_rowSets_39 : (Nat → Int32)) (H : Heap) (locs : List Loc) (ls : Array Slot), va_P (dC, dI) classes (wX ty ad co_rows (upd co_marks (Int32.toNatClampNeg co_count) (vp_nar .char a1)) co_rowSets_39 co_partners co_open co_count tr_kinds tr_lefts tr_rights tr_seconds tr_size gr_kinds gr_nodes gr_rowSets gr_firstStates gr_targetCounts gr_targets gr_stepScores gr_letterScores gr_size tx_letters tx_length va_scores va_knownEnds hi_begins hi_lengths hi_scores hi_taken hi_count de_states de_begins de_lengths de_length) H → va_D A (wX ty ad co_rows (upd co_marks (Int32.toNatClampNeg co_count) (vp_nar .char a1)) co_rowSets_39 co_partners co_open co_count tr_kinds tr_lefts tr_rights tr_seconds tr_size gr_kinds gr_nodes gr_rowSets gr_firstStates gr_targetCounts gr_targets gr_stepScores gr_letterScores gr_size tx_letters tx_length va_scores va_knownEnds hi_begins hi_lengths hi_scores hi_taken hi_count de_states de_begins de_lengths de_length) → va_S A s.heap H locs → lv_has ls 5 [(0, .ref (ad 1))] → f_Co_add_K39_91 co_marks co_count a1 x3_39 co_rowSets_39 = some (n_co_marks, n_co_rowSets, n_co_count) → W p l e rm_Co_add s m (List.toArray [.ref (ad 1), .int a1, .int a2]) below meth c H locs 0 0 Q (F0 m 91 ls []) := by
      intro x3_39 co_rowSets_39 H locs ls hP hD hS hl hf
      rw [f_Co_add_K39_91] at hf
      refine lv_aload_n hx hb d_Co_add_91 rfl (lv_at hl 0 rfl) ?_
      refine lv_dup hx hb d_Co_add_92 rfl ?_
      refine va_get (D := (dC, dI)) (ci := 1) (v := .int co_count) (C := R_Co) (T := F_Co) (N := 6) hx hb hts iw_Co hown hK hP 1 rfl rfl 5 (by decide) (hts _ m_85) (fun _ h9 => h9) rfl d_Co_add_93 ?_
      refine lv_iconst (v := 1) hx hb d_Co_add_96 (by decide) ?_
      refine lv_iadd hx hb d_Co_add_97 ?_
      refine va_put (D := (dC, dI)) (ci := 1) (v := .int (co_count + (1 : Int32))) (ty := .int) (C := R_Co) (T := F_Co) (N := 6) hx hb hts iw_Co t_Co t_Co_ok n_Co hown hK hP hD hS 1 rfl rfl 5 (by decide) (hts _ m_85) (fun _ h9 => h9) rfl (by decide +kernel) rfl rfl (Nat.le_of_ble_eq_true rfl) d_Co_add_98 (fun H locs hP hD hS => ?_)
      have hP : va_P (dC, dI) classes (wX ty ad co_rows (upd co_marks (Int32.toNatClampNeg co_count) (vp_nar .char a1)) co_rowSets_39 co_partners co_open (co_count + (1 : Int32)) tr_kinds tr_lefts tr_rights tr_seconds tr_size gr_kinds gr_nodes gr_rowSets gr_firstStates gr_targetCounts gr_targets gr_stepScores gr_letterScores gr_size tx_letters tx_length va_scores va_knownEnds hi_begins hi_lengths hi_scores hi_taken hi_count de_states de_begins de_lengths de_length) H := hP
      have hD : va_D A (wX ty ad co_rows (upd co_marks (Int32.toNatClampNeg co_count) (vp_nar .char a1)) co_rowSets_39 co_partners co_open (co_count + (1 : Int32)) tr_kinds tr_lefts tr_rights tr_seconds tr_size gr_kinds gr_nodes gr_rowSets gr_firstStates gr_targetCounts gr_targets gr_stepScores gr_letterScores gr_size tx_letters tx_length va_scores va_knownEnds hi_begins hi_lengths hi_scores hi_taken hi_count de_states de_begins de_lengths de_length) := hD
      obtain ⟨rfl, rfl, rfl⟩ := os3 hf
      exact hret H locs _ _ d_Co_add_101 hP hS
    have L39 : ∀ (n39 : Nat), ∀ (x3_39 : Int32) (co_rowSets_39 : (Nat → Int32)) (H : Heap) (locs : List Loc) (ls : Array Slot), va_P (dC, dI) classes (wX ty ad co_rows (upd co_marks (Int32.toNatClampNeg co_count) (vp_nar .char a1)) co_rowSets_39 co_partners co_open co_count tr_kinds tr_lefts tr_rights tr_seconds tr_size gr_kinds gr_nodes gr_rowSets gr_firstStates gr_targetCounts gr_targets gr_stepScores gr_letterScores gr_size tx_letters tx_length va_scores va_knownEnds hi_begins hi_lengths hi_scores hi_taken hi_count de_states de_begins de_lengths de_length) H → va_D A (wX ty ad co_rows (upd co_marks (Int32.toNatClampNeg co_count) (vp_nar .char a1)) co_rowSets_39 co_partners co_open co_count tr_kinds tr_lefts tr_rights tr_seconds tr_size gr_kinds gr_nodes gr_rowSets gr_firstStates gr_targetCounts gr_targets gr_stepScores gr_letterScores gr_size tx_letters tx_length va_scores va_knownEnds hi_begins hi_lengths hi_scores hi_taken hi_count de_states de_begins de_lengths de_length) → va_S A s.heap H locs → lv_has ls 5 [(0, .ref (ad 1)), (2, .int a2), (3, .int x3_39)] → f_Co_add_L39 co_rows co_count a2 (f_Co_add_K39_91 co_marks co_count a1) n39 x3_39 co_rowSets_39 = some (n_co_marks, n_co_rowSets, n_co_count) → W p l e rm_Co_add s m (List.toArray [.ref (ad 1), .int a1, .int a2]) below meth c H locs 0 0 Q (F0 m 39 ls []) := by
      intro n39
      induction n39 with
      | zero =>
        intro x3_39 co_rowSets_39 H locs ls hP hD hS hl hf
        rw [f_Co_add_L39] at hf
        cases hf
      | succ n39 ih39 =>
        intro x3_39 co_rowSets_39 H locs ls hP hD hS hl hf
        rw [f_Co_add_L39] at hf
        refine lv_iload_n hx hb d_Co_add_39 rfl (lv_at hl 2 rfl) ?_
        refine lv_aload_n hx hb d_Co_add_40 rfl (lv_at hl 0 rfl) ?_
        refine va_get (D := (dC, dI)) (ci := 1) (v := .int co_rows) (C := R_Co) (T := F_Co) (N := 6) hx hb hts iw_Co hown hK hP 1 rfl rfl 0 (by decide) (hts _ m_80) (fun _ h9 => h9) rfl d_Co_add_41 ?_
        refine lv_icmp_ge (tgt := 91) hx hb d_Co_add_44 (by decide) (fun c4 => ?_) (fun c4 => ?_)
        · have hf := xif_t c4 hf
          exact K39_91 x3_39 co_rowSets_39 _ _ _ hP hD hS (lv_sub hl [0] rfl) hf
        · have hf := xif_f c4 hf
          refine lv_iload_n hx hb d_Co_add_47 rfl (lv_at hl 1 rfl) ?_
          refine lv_iconst (v := 3) hx hb d_Co_add_48 (by decide) ?_
          refine lv_iload_n hx hb d_Co_add_49 rfl (lv_at hl 2 rfl) ?_
          refine lv_imul hx hb d_Co_add_50 ?_
          refine lv_iushr (v := (ushr32 a2 ((3 : Int32) * x3_39))) hx hb d_Co_add_51 rfl ?_
          refine lv_bipush (v := 7) hx hb d_Co_add_52 (by decide) ?_
          refine lv_iand hx hb d_Co_add_54 ?_
          refine lv_istore (lv' := [(4, .int ((ushr32 a2 ((3 : Int32) * x3_39)) &&& (7 : Int32))), (0, .ref (ad 1)), (2, .int a2), (3, .int x3_39)]) hx hb d_Co_add_55 hl (by decide) rfl (fun ls hl => ?_)
          refine lv_iload hx hb d_Co_add_57 (lv_at hl 0 rfl) ?_
          obtain ⟨r5, hc6, hf⟩ := ob1_inv hf
          refine xk_i (xrunSN (As := [.int ((ushr32 a2 ((3 : Int32) * x3_39)) &&& (7 : Int32))]) (rest := []) ⟨hx, hb, hml, hown, hts⟩ (c_Fa_isLetter l dC dI ty ad H.size co_rows (upd co_marks (Int32.toNatClampNeg co_count) (vp_nar .char a1)) co_rowSets_39 co_partners co_open co_count tr_kinds tr_lefts tr_rights tr_seconds tr_size gr_kinds gr_nodes gr_rowSets gr_firstStates gr_targetCounts gr_targets gr_stepScores gr_letterScores gr_size tx_letters tx_length va_scores va_knownEnds hi_begins hi_lengths hi_scores hi_taken hi_count de_states de_begins de_lengths de_length ((ushr32 a2 ((3 : Int32) * x3_39)) &&& (7 : Int32)) r5 hc6) z_Co_32 ⟨⟨rfl, rfl⟩, by decide, by decide⟩ hK hP hD hN rfl hl.1 rfl (Nat.le_of_ble_eq_true rfl) d_Co_add_59 ⟨Nat.zero_le _, Nat.zero_le _⟩) hS hD rfl hA (fun H locs hP hD hS => ?_)
          refine W.eq (g2 := F0 m 62 ls [.int r5]) rfl ?_
          refine lv_if_eq (tgt := 85) hx hb d_Co_add_62 (by decide) (fun c7 => ?_) (fun c7 => ?_)
          · have hf := xif_t c7 hf
            refine lv_iinc (v := (x3_39 + (1 : Int32))) (lv' := [(3, .int (x3_39 + (1 : Int32))), (4, .int ((ushr32 a2 ((3 : Int32) * x3_39)) &&& (7 : Int32))), (0, .ref (ad 1)), (2, .int a2)]) hx hb d_Co_add_85 hl (k := 3) rfl rfl (by decide) rfl (fun ls hl => ?_)
            refine lv_goto (tgt := 39) hx hb d_Co_add_88 (by decide) ?_
            exact ih39 (x3_39 + (1 : Int32)) co_rowSets_39 _ _ _ hP hD hS (lv_sub hl [2, 3, 0] rfl) hf
          · have hf := xif_f c7 hf
            refine lv_aload_n hx hb d_Co_add_65 rfl (lv_at hl 1 rfl) ?_
            refine va_get (D := (dC, dI)) (ci := 1) (v := .ref (ad 3)) (C := R_Co) (T := F_Co) (N := 6) hx hb hts iw_Co hown hK hP 1 rfl rfl 2 (by decide) (hts _ m_82) (fun _ h9 => h9) rfl d_Co_add_66 ?_
            refine lv_aload_n hx hb d_Co_add_69 rfl (lv_at hl 1 rfl) ?_
            refine va_get (D := (dC, dI)) (ci := 1) (v := .int co_count) (C := R_Co) (T := F_Co) (N := 6) hx hb hts iw_Co hown hK hP 1 rfl rfl 5 (by decide) (hts _ m_85) (fun _ h9 => h9) rfl d_Co_add_70 ?_
            refine lv_iconst (v := 4) hx hb d_Co_add_73 (by decide) ?_
            refine lv_imul hx hb d_Co_add_74 ?_
            refine lv_iload hx hb d_Co_add_75 (lv_at hl 0 rfl) ?_
            refine lv_iadd hx hb d_Co_add_77 ?_
            refine lv_dup2_11 hx hb d_Co_add_78 rfl rfl ?_
            obtain ⟨hi8, hf⟩ := gdi hf
            refine va_iald hx hb hK hP 3 0 rfl rfl hi8 d_Co_add_79 ?_
            refine lv_iconst (v := 1) hx hb d_Co_add_80 (by decide) ?_
            refine lv_iload_n hx hb d_Co_add_81 rfl (lv_at hl 3 rfl) ?_
            refine lv_ishl hx hb d_Co_add_82 ?_
            refine lv_ior hx hb d_Co_add_83 ?_
            obtain ⟨hi9, hf⟩ := gdi hf
            refine va_iast hx hb hK hP hD hS 3 0 rfl rfl hi9 d_Co_add_84 (fun H locs hP hD hS => ?_)
            have hP : va_P (dC, dI) classes (wX ty ad co_rows (upd co_marks (Int32.toNatClampNeg co_count) (vp_nar .char a1)) (upd co_rowSets_39 (Int32.toNatClampNeg ((co_count * (4 : Int32)) + ((ushr32 a2 ((3 : Int32) * x3_39)) &&& (7 : Int32)))) ((co_rowSets_39 (Int32.toNatClampNeg ((co_count * (4 : Int32)) + ((ushr32 a2 ((3 : Int32) * x3_39)) &&& (7 : Int32))))) ||| ((1 : Int32) <<< (x3_39 &&& 31)))) co_partners co_open co_count tr_kinds tr_lefts tr_rights tr_seconds tr_size gr_kinds gr_nodes gr_rowSets gr_firstStates gr_targetCounts gr_targets gr_stepScores gr_letterScores gr_size tx_letters tx_length va_scores va_knownEnds hi_begins hi_lengths hi_scores hi_taken hi_count de_states de_begins de_lengths de_length) H := hP
            have hD : va_D A (wX ty ad co_rows (upd co_marks (Int32.toNatClampNeg co_count) (vp_nar .char a1)) (upd co_rowSets_39 (Int32.toNatClampNeg ((co_count * (4 : Int32)) + ((ushr32 a2 ((3 : Int32) * x3_39)) &&& (7 : Int32)))) ((co_rowSets_39 (Int32.toNatClampNeg ((co_count * (4 : Int32)) + ((ushr32 a2 ((3 : Int32) * x3_39)) &&& (7 : Int32))))) ||| ((1 : Int32) <<< (x3_39 &&& 31)))) co_partners co_open co_count tr_kinds tr_lefts tr_rights tr_seconds tr_size gr_kinds gr_nodes gr_rowSets gr_firstStates gr_targetCounts gr_targets gr_stepScores gr_letterScores gr_size tx_letters tx_length va_scores va_knownEnds hi_begins hi_lengths hi_scores hi_taken hi_count de_states de_begins de_lengths de_length) := hD
            refine lv_iinc (v := (x3_39 + (1 : Int32))) (lv' := [(3, .int (x3_39 + (1 : Int32))), (4, .int ((ushr32 a2 ((3 : Int32) * x3_39)) &&& (7 : Int32))), (0, .ref (ad 1)), (2, .int a2)]) hx hb d_Co_add_85 hl (k := 3) rfl rfl (by decide) rfl (fun ls hl => ?_)
            refine lv_goto (tgt := 39) hx hb d_Co_add_88 (by decide) ?_
            exact ih39 (x3_39 + (1 : Int32)) (upd co_rowSets_39 (Int32.toNatClampNeg ((co_count * (4 : Int32)) + ((ushr32 a2 ((3 : Int32) * x3_39)) &&& (7 : Int32)))) ((co_rowSets_39 (Int32.toNatClampNeg ((co_count * (4 : Int32)) + ((ushr32 a2 ((3 : Int32) * x3_39)) &&& (7 : Int32))))) ||| ((1 : Int32) <<< (x3_39 &&& 31)))) _ _ _ hP hD hS (lv_sub hl [2, 3, 0] rfl) hf
    exact L39 1000 (0 : Int32) co_rowSets_12 _ _ _ hP hD hS (lv_sub hl [1, 2, 0] rfl) hf
  have L12 : ∀ (n12 : Nat), ∀ (x3_12 : Int32) (co_rowSets_12 : (Nat → Int32)) (H : Heap) (locs : List Loc) (ls : Array Slot), va_P (dC, dI) classes (wX ty ad co_rows (upd co_marks (Int32.toNatClampNeg co_count) (vp_nar .char a1)) co_rowSets_12 co_partners co_open co_count tr_kinds tr_lefts tr_rights tr_seconds tr_size gr_kinds gr_nodes gr_rowSets gr_firstStates gr_targetCounts gr_targets gr_stepScores gr_letterScores gr_size tx_letters tx_length va_scores va_knownEnds hi_begins hi_lengths hi_scores hi_taken hi_count de_states de_begins de_lengths de_length) H → va_D A (wX ty ad co_rows (upd co_marks (Int32.toNatClampNeg co_count) (vp_nar .char a1)) co_rowSets_12 co_partners co_open co_count tr_kinds tr_lefts tr_rights tr_seconds tr_size gr_kinds gr_nodes gr_rowSets gr_firstStates gr_targetCounts gr_targets gr_stepScores gr_letterScores gr_size tx_letters tx_length va_scores va_knownEnds hi_begins hi_lengths hi_scores hi_taken hi_count de_states de_begins de_lengths de_length) → va_S A s.heap H locs → lv_has ls 5 [(0, .ref (ad 1)), (2, .int a2), (3, .int x3_12)] → f_Co_add_L12 co_count (f_Co_add_K12_37 co_rows co_marks co_count a1 a2) n12 x3_12 co_rowSets_12 = some (n_co_marks, n_co_rowSets, n_co_count) → W p l e rm_Co_add s m (List.toArray [.ref (ad 1), .int a1, .int a2]) below meth c H locs 0 0 Q (F0 m 12 ls []) := by
    intro n12
    induction n12 with
    | zero =>
      intro x3_12 co_rowSets_12 H locs ls hP hD hS hl hf
      rw [f_Co_add_L12] at hf
      cases hf
    | succ n12 ih12 =>
      intro x3_12 co_rowSets_12 H locs ls hP hD hS hl hf
      rw [f_Co_add_L12] at hf
      refine lv_iload_n hx hb d_Co_add_12 rfl (lv_at hl 2 rfl) ?_
      refine lv_iconst (v := 4) hx hb d_Co_add_13 (by decide) ?_
      refine lv_icmp_ge (tgt := 37) hx hb d_Co_add_14 (by decide) (fun c2 => ?_) (fun c2 => ?_)
      · have hf := xif_t c2 hf
        exact K12_37 x3_12 co_rowSets_12 _ _ _ hP hD hS (lv_sub hl [0, 1] rfl) hf
      · have hf := xif_f c2 hf
        refine lv_aload_n hx hb d_Co_add_17 rfl (lv_at hl 0 rfl) ?_
        refine va_get (D := (dC, dI)) (ci := 1) (v := .ref (ad 3)) (C := R_Co) (T := F_Co) (N := 6) hx hb hts iw_Co hown hK hP 1 rfl rfl 2 (by decide) (hts _ m_82) (fun _ h9 => h9) rfl d_Co_add_18 ?_
        refine lv_aload_n hx hb d_Co_add_21 rfl (lv_at hl 0 rfl) ?_
        refine va_get (D := (dC, dI)) (ci := 1) (v := .int co_count) (C := R_Co) (T := F_Co) (N := 6) hx hb hts iw_Co hown hK hP 1 rfl rfl 5 (by decide) (hts _ m_85) (fun _ h9 => h9) rfl d_Co_add_22 ?_
        refine lv_iconst (v := 4) hx hb d_Co_add_25 (by decide) ?_
        refine lv_imul hx hb d_Co_add_26 ?_
        refine lv_iload_n hx hb d_Co_add_27 rfl (lv_at hl 2 rfl) ?_
        refine lv_iadd hx hb d_Co_add_28 ?_
        refine lv_iconst (v := 0) hx hb d_Co_add_29 (by decide) ?_
        obtain ⟨hi3, hf⟩ := gdi hf
        refine va_iast hx hb hK hP hD hS 3 0 rfl rfl hi3 d_Co_add_30 (fun H locs hP hD hS => ?_)
        have hP : va_P (dC, dI) classes (wX ty ad co_rows (upd co_marks (Int32.toNatClampNeg co_count) (vp_nar .char a1)) (upd co_rowSets_12 (Int32.toNatClampNeg ((co_count * (4 : Int32)) + x3_12)) (0 : Int32)) co_partners co_open co_count tr_kinds tr_lefts tr_rights tr_seconds tr_size gr_kinds gr_nodes gr_rowSets gr_firstStates gr_targetCounts gr_targets gr_stepScores gr_letterScores gr_size tx_letters tx_length va_scores va_knownEnds hi_begins hi_lengths hi_scores hi_taken hi_count de_states de_begins de_lengths de_length) H := hP
        have hD : va_D A (wX ty ad co_rows (upd co_marks (Int32.toNatClampNeg co_count) (vp_nar .char a1)) (upd co_rowSets_12 (Int32.toNatClampNeg ((co_count * (4 : Int32)) + x3_12)) (0 : Int32)) co_partners co_open co_count tr_kinds tr_lefts tr_rights tr_seconds tr_size gr_kinds gr_nodes gr_rowSets gr_firstStates gr_targetCounts gr_targets gr_stepScores gr_letterScores gr_size tx_letters tx_length va_scores va_knownEnds hi_begins hi_lengths hi_scores hi_taken hi_count de_states de_begins de_lengths de_length) := hD
        refine lv_iinc (v := (x3_12 + (1 : Int32))) (lv' := [(3, .int (x3_12 + (1 : Int32))), (0, .ref (ad 1)), (2, .int a2)]) hx hb d_Co_add_31 hl (k := 2) rfl rfl (by decide) rfl (fun ls hl => ?_)
        refine lv_goto (tgt := 12) hx hb d_Co_add_34 (by decide) ?_
        exact ih12 (x3_12 + (1 : Int32)) (upd co_rowSets_12 (Int32.toNatClampNeg ((co_count * (4 : Int32)) + x3_12)) (0 : Int32)) _ _ _ hP hD hS (lv_sub hl [1, 2, 0] rfl) hf
  exact L12 1000 (0 : Int32) co_rowSets _ _ _ hP hD hS (lv_sub hl [1, 3, 0] rfl) hf
def f_Gr_forget (gr_size : Int32) : Option (Int32) := some ((0 : Int32))
set_option maxHeartbeats 4000000 in
set_option maxRecDepth 100000 in
theorem c_Gr_forget (l : Launch) (dC : Nat → ClassId) (dI : Nat → Nat → Nat) (ty : Nat → ClassId) (ad : Nat → Nat) (sz : Nat) (co_rows : Int32) (co_marks : (Nat → Int32)) (co_rowSets : (Nat → Int32)) (co_partners : (Nat → Int32)) (co_open : (Nat → Int32)) (co_count : Int32) (tr_kinds : (Nat → Int32)) (tr_lefts : (Nat → Int32)) (tr_rights : (Nat → Int32)) (tr_seconds : (Nat → Int32)) (tr_size : Int32) (gr_kinds : (Nat → Int32)) (gr_nodes : (Nat → Int32)) (gr_rowSets : (Nat → Int32)) (gr_firstStates : (Nat → Int32)) (gr_targetCounts : (Nat → Int32)) (gr_targets : (Nat → Int32)) (gr_stepScores : (Nat → Int32)) (gr_letterScores : (Nat → Int32)) (gr_size : Int32) (tx_letters : (Nat → Int32)) (tx_length : Int32) (va_scores : (Nat → Int32)) (va_knownEnds : Int32) (hi_begins : (Nat → Int32)) (hi_lengths : (Nat → Int32)) (hi_scores : (Nat → Int32)) (hi_taken : (Nat → Int32)) (hi_count : Int32) (de_states : (Nat → Int32)) (de_begins : (Nat → Int32)) (de_lengths : (Nat → Int32)) (de_length : Int32)  (n_gr_size : Int32) (hf : f_Gr_forget gr_size = some (n_gr_size)) : Met l y_Gr_forget (.code y_Gr_forget prog_4_method_3_code 1 none :: gw) rm_Gr_forget (xPre (dC, dI) classes (tys3 ty) (wX ty ad co_rows co_marks co_rowSets co_partners co_open co_count tr_kinds tr_lefts tr_rights tr_seconds tr_size gr_kinds gr_nodes gr_rowSets gr_firstStates gr_targetCounts gr_targets gr_stepScores gr_letterScores gr_size tx_letters tx_length va_scores va_knownEnds hi_begins hi_lengths hi_scores hi_taken hi_count de_states de_begins de_lengths de_length) sz [.ref (ad 11)]) (xQv (dC, dI) classes (wX ty ad co_rows co_marks co_rowSets co_partners co_open co_count tr_kinds tr_lefts tr_rights tr_seconds tr_size gr_kinds gr_nodes gr_rowSets gr_firstStates gr_targetCounts gr_targets gr_stepScores gr_letterScores gr_size tx_letters tx_length va_scores va_knownEnds hi_begins hi_lengths hi_scores hi_taken hi_count de_states de_begins de_lengths de_length) (wX ty ad co_rows co_marks co_rowSets co_partners co_open co_count tr_kinds tr_lefts tr_rights tr_seconds tr_size gr_kinds gr_nodes gr_rowSets gr_firstStates gr_targetCounts gr_targets gr_stepScores gr_letterScores n_gr_size tx_letters tx_length va_scores va_knownEnds hi_begins hi_lengths hi_scores hi_taken hi_count de_states de_begins de_lengths de_length) sz) 0 0 (va_A (wX ty ad co_rows co_marks co_rowSets co_partners co_open co_count tr_kinds tr_lefts tr_rights tr_seconds tr_size gr_kinds gr_nodes gr_rowSets gr_firstStates gr_targetCounts gr_targets gr_stepScores gr_letterScores gr_size tx_letters tx_length va_scores va_knownEnds hi_begins hi_lengths hi_scores hi_taken hi_count de_states de_begins de_lengths de_length) sz) := by
  refine xmet_v rfl (Nat.le_of_ble_eq_true rfl) ?_
  intro p e s m below meth c A ls Q hx hb hml hts hown hK hN hA hP hD hS hl hret
  replace hown : s.vm.findClass R_Gr = some m.cls := hown
  have hl : lv_has ls 1 [(0, .ref (ad 11))] := hl
  rw [f_Gr_forget] at hf
  obtain ⟨H, eH⟩ : ∃ H : Heap, H = s.heap := ⟨_, rfl⟩
  obtain ⟨locs, eL⟩ : ∃ L : List Loc, L = [] := ⟨_, rfl⟩
  have hP : va_P (dC, dI) classes (wX ty ad co_rows co_marks co_rowSets co_partners co_open co_count tr_kinds tr_lefts tr_rights tr_seconds tr_size gr_kinds gr_nodes gr_rowSets gr_firstStates gr_targetCounts gr_targets gr_stepScores gr_letterScores gr_size tx_letters tx_length va_scores va_knownEnds hi_begins hi_lengths hi_scores hi_taken hi_count de_states de_begins de_lengths de_length) H := by rw [eH]; exact hP
  have hS : va_S A s.heap H locs := by rw [eH, eL]; exact hS
  rw [← eL]
  suffices hgoal : W p l e rm_Gr_forget s m (List.toArray [.ref (ad 11)]) below meth c H locs 0 0 Q (F0 m 0 ls []) by rw [eH] at hgoal; exact hgoal
  clear eH eL
  refine lv_aload_n hx hb d_Gr_forget_0 rfl (lv_at hl 0 rfl) ?_
  refine lv_iconst (v := 0) hx hb d_Gr_forget_1 (by decide) ?_
  refine va_put (D := (dC, dI)) (ci := 3) (v := .int (0 : Int32)) (ty := .int) (C := R_Gr) (T := F_Gr) (N := 11) hx hb hts iw_Gr t_Gr t_Gr_ok n_Gr hown hK hP hD hS 11 rfl rfl 10 (by decide) (hts _ m_142) (fun _ h9 => h9) rfl (by decide +kernel) rfl rfl (Nat.le_of_ble_eq_true rfl) d_Gr_forget_2 (fun H locs hP hD hS => ?_)
  have hP : va_P (dC, dI) classes (wX ty ad co_rows co_marks co_rowSets co_partners co_open co_count tr_kinds tr_lefts tr_rights tr_seconds tr_size gr_kinds gr_nodes gr_rowSets gr_firstStates gr_targetCounts gr_targets gr_stepScores gr_letterScores (0 : Int32) tx_letters tx_length va_scores va_knownEnds hi_begins hi_lengths hi_scores hi_taken hi_count de_states de_begins de_lengths de_length) H := hP
  have hD : va_D A (wX ty ad co_rows co_marks co_rowSets co_partners co_open co_count tr_kinds tr_lefts tr_rights tr_seconds tr_size gr_kinds gr_nodes gr_rowSets gr_firstStates gr_targetCounts gr_targets gr_stepScores gr_letterScores (0 : Int32) tx_letters tx_length va_scores va_knownEnds hi_begins hi_lengths hi_scores hi_taken hi_count de_states de_begins de_lengths de_length) := hD
  obtain rfl := os1 hf
  exact hret H locs _ _ d_Gr_forget_5 hP hS
def f_Hi_forget (hi_count : Int32) : Option (Int32) := some ((0 : Int32))
set_option maxHeartbeats 4000000 in
set_option maxRecDepth 100000 in
theorem c_Hi_forget (l : Launch) (dC : Nat → ClassId) (dI : Nat → Nat → Nat) (ty : Nat → ClassId) (ad : Nat → Nat) (sz : Nat) (co_rows : Int32) (co_marks : (Nat → Int32)) (co_rowSets : (Nat → Int32)) (co_partners : (Nat → Int32)) (co_open : (Nat → Int32)) (co_count : Int32) (tr_kinds : (Nat → Int32)) (tr_lefts : (Nat → Int32)) (tr_rights : (Nat → Int32)) (tr_seconds : (Nat → Int32)) (tr_size : Int32) (gr_kinds : (Nat → Int32)) (gr_nodes : (Nat → Int32)) (gr_rowSets : (Nat → Int32)) (gr_firstStates : (Nat → Int32)) (gr_targetCounts : (Nat → Int32)) (gr_targets : (Nat → Int32)) (gr_stepScores : (Nat → Int32)) (gr_letterScores : (Nat → Int32)) (gr_size : Int32) (tx_letters : (Nat → Int32)) (tx_length : Int32) (va_scores : (Nat → Int32)) (va_knownEnds : Int32) (hi_begins : (Nat → Int32)) (hi_lengths : (Nat → Int32)) (hi_scores : (Nat → Int32)) (hi_taken : (Nat → Int32)) (hi_count : Int32) (de_states : (Nat → Int32)) (de_begins : (Nat → Int32)) (de_lengths : (Nat → Int32)) (de_length : Int32)  (n_hi_count : Int32) (hf : f_Hi_forget hi_count = some (n_hi_count)) : Met l y_Hi_forget (.code y_Hi_forget prog_5_method_3_code 1 none :: gw) rm_Hi_forget (xPre (dC, dI) classes (tys3 ty) (wX ty ad co_rows co_marks co_rowSets co_partners co_open co_count tr_kinds tr_lefts tr_rights tr_seconds tr_size gr_kinds gr_nodes gr_rowSets gr_firstStates gr_targetCounts gr_targets gr_stepScores gr_letterScores gr_size tx_letters tx_length va_scores va_knownEnds hi_begins hi_lengths hi_scores hi_taken hi_count de_states de_begins de_lengths de_length) sz [.ref (ad 24)]) (xQv (dC, dI) classes (wX ty ad co_rows co_marks co_rowSets co_partners co_open co_count tr_kinds tr_lefts tr_rights tr_seconds tr_size gr_kinds gr_nodes gr_rowSets gr_firstStates gr_targetCounts gr_targets gr_stepScores gr_letterScores gr_size tx_letters tx_length va_scores va_knownEnds hi_begins hi_lengths hi_scores hi_taken hi_count de_states de_begins de_lengths de_length) (wX ty ad co_rows co_marks co_rowSets co_partners co_open co_count tr_kinds tr_lefts tr_rights tr_seconds tr_size gr_kinds gr_nodes gr_rowSets gr_firstStates gr_targetCounts gr_targets gr_stepScores gr_letterScores gr_size tx_letters tx_length va_scores va_knownEnds hi_begins hi_lengths hi_scores hi_taken n_hi_count de_states de_begins de_lengths de_length) sz) 0 0 (va_A (wX ty ad co_rows co_marks co_rowSets co_partners co_open co_count tr_kinds tr_lefts tr_rights tr_seconds tr_size gr_kinds gr_nodes gr_rowSets gr_firstStates gr_targetCounts gr_targets gr_stepScores gr_letterScores gr_size tx_letters tx_length va_scores va_knownEnds hi_begins hi_lengths hi_scores hi_taken hi_count de_states de_begins de_lengths de_length) sz) := by
  refine xmet_v rfl (Nat.le_of_ble_eq_true rfl) ?_
  intro p e s m below meth c A ls Q hx hb hml hts hown hK hN hA hP hD hS hl hret
  replace hown : s.vm.findClass R_Hi = some m.cls := hown
  have hl : lv_has ls 1 [(0, .ref (ad 24))] := hl
  rw [f_Hi_forget] at hf
  obtain ⟨H, eH⟩ : ∃ H : Heap, H = s.heap := ⟨_, rfl⟩
  obtain ⟨locs, eL⟩ : ∃ L : List Loc, L = [] := ⟨_, rfl⟩
  have hP : va_P (dC, dI) classes (wX ty ad co_rows co_marks co_rowSets co_partners co_open co_count tr_kinds tr_lefts tr_rights tr_seconds tr_size gr_kinds gr_nodes gr_rowSets gr_firstStates gr_targetCounts gr_targets gr_stepScores gr_letterScores gr_size tx_letters tx_length va_scores va_knownEnds hi_begins hi_lengths hi_scores hi_taken hi_count de_states de_begins de_lengths de_length) H := by rw [eH]; exact hP
  have hS : va_S A s.heap H locs := by rw [eH, eL]; exact hS
  rw [← eL]
  suffices hgoal : W p l e rm_Hi_forget s m (List.toArray [.ref (ad 24)]) below meth c H locs 0 0 Q (F0 m 0 ls []) by rw [eH] at hgoal; exact hgoal
  clear eH eL
  refine lv_aload_n hx hb d_Hi_forget_0 rfl (lv_at hl 0 rfl) ?_
  refine lv_iconst (v := 0) hx hb d_Hi_forget_1 (by decide) ?_
  refine va_put (D := (dC, dI)) (ci := 6) (v := .int (0 : Int32)) (ty := .int) (C := R_Hi) (T := F_Hi) (N := 5) hx hb hts iw_Hi t_Hi t_Hi_ok n_Hi hown hK hP hD hS 24 rfl rfl 4 (by decide) (hts _ m_208) (fun _ h9 => h9) rfl (by decide +kernel) rfl rfl (Nat.le_of_ble_eq_true rfl) d_Hi_forget_2 (fun H locs hP hD hS => ?_)
  have hP : va_P (dC, dI) classes (wX ty ad co_rows co_marks co_rowSets co_partners co_open co_count tr_kinds tr_lefts tr_rights tr_seconds tr_size gr_kinds gr_nodes gr_rowSets gr_firstStates gr_targetCounts gr_targets gr_stepScores gr_letterScores gr_size tx_letters tx_length va_scores va_knownEnds hi_begins hi_lengths hi_scores hi_taken (0 : Int32) de_states de_begins de_lengths de_length) H := hP
  have hD : va_D A (wX ty ad co_rows co_marks co_rowSets co_partners co_open co_count tr_kinds tr_lefts tr_rights tr_seconds tr_size gr_kinds gr_nodes gr_rowSets gr_firstStates gr_targetCounts gr_targets gr_stepScores gr_letterScores gr_size tx_letters tx_length va_scores va_knownEnds hi_begins hi_lengths hi_scores hi_taken (0 : Int32) de_states de_begins de_lengths de_length) := hD
  obtain rfl := os1 hf
  exact hret H locs _ _ d_Hi_forget_5 hP hS
def f_Fa_dropGrammar (gr_size : Int32) (hi_count : Int32) : Option (Int32 × Int32) := ob1 (f_Gr_forget gr_size) (fun w1 => ob1 (f_Hi_forget hi_count) (fun w3 => some (w1, w3)))
set_option maxHeartbeats 4000000 in
set_option maxRecDepth 100000 in
theorem c_Fa_dropGrammar (l : Launch) (dC : Nat → ClassId) (dI : Nat → Nat → Nat) (ty : Nat → ClassId) (ad : Nat → Nat) (sz : Nat) (co_rows : Int32) (co_marks : (Nat → Int32)) (co_rowSets : (Nat → Int32)) (co_partners : (Nat → Int32)) (co_open : (Nat → Int32)) (co_count : Int32) (tr_kinds : (Nat → Int32)) (tr_lefts : (Nat → Int32)) (tr_rights : (Nat → Int32)) (tr_seconds : (Nat → Int32)) (tr_size : Int32) (gr_kinds : (Nat → Int32)) (gr_nodes : (Nat → Int32)) (gr_rowSets : (Nat → Int32)) (gr_firstStates : (Nat → Int32)) (gr_targetCounts : (Nat → Int32)) (gr_targets : (Nat → Int32)) (gr_stepScores : (Nat → Int32)) (gr_letterScores : (Nat → Int32)) (gr_size : Int32) (tx_letters : (Nat → Int32)) (tx_length : Int32) (va_scores : (Nat → Int32)) (va_knownEnds : Int32) (hi_begins : (Nat → Int32)) (hi_lengths : (Nat → Int32)) (hi_scores : (Nat → Int32)) (hi_taken : (Nat → Int32)) (hi_count : Int32) (de_states : (Nat → Int32)) (de_begins : (Nat → Int32)) (de_lengths : (Nat → Int32)) (de_length : Int32)  (n_gr_size : Int32) (n_hi_count : Int32) (hf : f_Fa_dropGrammar gr_size hi_count = some (n_gr_size, n_hi_count)) : Met l y_Fa_dropGrammar (.code y_Fa_dropGrammar prog_1_method_16_code 1 none :: gw) rm_Fa_dropGrammar (xPre (dC, dI) classes (tys3 ty) (wX ty ad co_rows co_marks co_rowSets co_partners co_open co_count tr_kinds tr_lefts tr_rights tr_seconds tr_size gr_kinds gr_nodes gr_rowSets gr_firstStates gr_targetCounts gr_targets gr_stepScores gr_letterScores gr_size tx_letters tx_length va_scores va_knownEnds hi_begins hi_lengths hi_scores hi_taken hi_count de_states de_begins de_lengths de_length) sz [.ref (ad 0)]) (xQv (dC, dI) classes (wX ty ad co_rows co_marks co_rowSets co_partners co_open co_count tr_kinds tr_lefts tr_rights tr_seconds tr_size gr_kinds gr_nodes gr_rowSets gr_firstStates gr_targetCounts gr_targets gr_stepScores gr_letterScores gr_size tx_letters tx_length va_scores va_knownEnds hi_begins hi_lengths hi_scores hi_taken hi_count de_states de_begins de_lengths de_length) (wX ty ad co_rows co_marks co_rowSets co_partners co_open co_count tr_kinds tr_lefts tr_rights tr_seconds tr_size gr_kinds gr_nodes gr_rowSets gr_firstStates gr_targetCounts gr_targets gr_stepScores gr_letterScores n_gr_size tx_letters tx_length va_scores va_knownEnds hi_begins hi_lengths hi_scores hi_taken n_hi_count de_states de_begins de_lengths de_length) sz) 0 0 (va_A (wX ty ad co_rows co_marks co_rowSets co_partners co_open co_count tr_kinds tr_lefts tr_rights tr_seconds tr_size gr_kinds gr_nodes gr_rowSets gr_firstStates gr_targetCounts gr_targets gr_stepScores gr_letterScores gr_size tx_letters tx_length va_scores va_knownEnds hi_begins hi_lengths hi_scores hi_taken hi_count de_states de_begins de_lengths de_length) sz) := by
  refine xmet_v rfl (Nat.le_of_ble_eq_true rfl) ?_
  intro p e s m below meth c A ls Q hx hb hml hts hown hK hN hA hP hD hS hl hret
  replace hown : s.vm.findClass R_Fa = some m.cls := hown
  have hl : lv_has ls 1 [(0, .ref (ad 0))] := hl
  rw [f_Fa_dropGrammar] at hf
  obtain ⟨H, eH⟩ : ∃ H : Heap, H = s.heap := ⟨_, rfl⟩
  obtain ⟨locs, eL⟩ : ∃ L : List Loc, L = [] := ⟨_, rfl⟩
  have hP : va_P (dC, dI) classes (wX ty ad co_rows co_marks co_rowSets co_partners co_open co_count tr_kinds tr_lefts tr_rights tr_seconds tr_size gr_kinds gr_nodes gr_rowSets gr_firstStates gr_targetCounts gr_targets gr_stepScores gr_letterScores gr_size tx_letters tx_length va_scores va_knownEnds hi_begins hi_lengths hi_scores hi_taken hi_count de_states de_begins de_lengths de_length) H := by rw [eH]; exact hP
  have hS : va_S A s.heap H locs := by rw [eH, eL]; exact hS
  rw [← eL]
  suffices hgoal : W p l e rm_Fa_dropGrammar s m (List.toArray [.ref (ad 0)]) below meth c H locs 0 0 Q (F0 m 0 ls []) by rw [eH] at hgoal; exact hgoal
  clear eH eL
  refine lv_aload_n hx hb d_Fa_dropGrammar_0 rfl (lv_at hl 0 rfl) ?_
  refine va_get (D := (dC, dI)) (ci := 0) (v := .ref (ad 11)) (C := R_Fa) (T := F_Fa) (N := 7) hx hb hts iw_Fa hown hK hP 0 rfl rfl 2 (by decide) (hts _ m_242) (fun _ h9 => h9) rfl d_Fa_dropGrammar_1 ?_
  obtain ⟨w1, hc2, hf⟩ := ob1_inv hf
  refine xk_v (xrunV (C := R_Gr) (As := []) (rest := []) ⟨hx, hb, hml, hown, hts⟩ (c_Gr_forget l dC dI ty ad H.size co_rows co_marks co_rowSets co_partners co_open co_count tr_kinds tr_lefts tr_rights tr_seconds tr_size gr_kinds gr_nodes gr_rowSets gr_firstStates gr_targetCounts gr_targets gr_stepScores gr_letterScores gr_size tx_letters tx_length va_scores va_knownEnds hi_begins hi_lengths hi_scores hi_taken hi_count de_states de_begins de_lengths de_length  w1 hc2) z_Fa_193 ⟨⟨rfl, rfl⟩, by decide, by decide⟩ hK hP hD hN (va_recv hK hP (ci := 3) (q0 := 11) rfl rfl) rfl hl.1 rfl (Nat.le_of_ble_eq_true rfl) d_Fa_dropGrammar_4 ⟨Nat.zero_le _, Nat.zero_le _⟩) hS hD rfl hA (fun H locs hP hD hS => ?_)
  refine W.eq (g2 := F0 m 7 ls []) rfl ?_
  refine lv_aload_n hx hb d_Fa_dropGrammar_7 rfl (lv_at hl 0 rfl) ?_
  refine va_get (D := (dC, dI)) (ci := 0) (v := .ref (ad 24)) (C := R_Fa) (T := F_Fa) (N := 7) hx hb hts iw_Fa hown hK hP 0 rfl rfl 5 (by decide) (hts _ m_245) (fun _ h9 => h9) rfl d_Fa_dropGrammar_8 ?_
  obtain ⟨w3, hc4, hf⟩ := ob1_inv hf
  refine xk_v (xrunV (C := R_Hi) (As := []) (rest := []) ⟨hx, hb, hml, hown, hts⟩ (c_Hi_forget l dC dI ty ad H.size co_rows co_marks co_rowSets co_partners co_open co_count tr_kinds tr_lefts tr_rights tr_seconds tr_size gr_kinds gr_nodes gr_rowSets gr_firstStates gr_targetCounts gr_targets gr_stepScores gr_letterScores w1 tx_letters tx_length va_scores va_knownEnds hi_begins hi_lengths hi_scores hi_taken hi_count de_states de_begins de_lengths de_length  w3 hc4) z_Fa_106 ⟨⟨rfl, rfl⟩, by decide, by decide⟩ hK hP hD hN (va_recv hK hP (ci := 6) (q0 := 24) rfl rfl) rfl hl.1 rfl (Nat.le_of_ble_eq_true rfl) d_Fa_dropGrammar_11 ⟨Nat.zero_le _, Nat.zero_le _⟩) hS hD rfl hA (fun H locs hP hD hS => ?_)
  refine W.eq (g2 := F0 m 14 ls []) rfl ?_
  obtain ⟨rfl, rfl⟩ := os2 hf
  exact hret H locs _ _ d_Fa_dropGrammar_14 hP hS
def f_Fa_column (co_rows : Int32) (co_marks : (Nat → Int32)) (co_rowSets : (Nat → Int32)) (co_count : Int32) (gr_size : Int32) (hi_count : Int32) (a1 : Int32) (a2 : Int32) : Option (Int32 × (Nat → Int32) × (Nat → Int32) × Int32 × Int32 × Int32) := ob1 (f_Fa_isMark a1) (fun r1 => if r1 = (0 : Int32) then (some ((0 : Int32), co_marks, co_rowSets, co_count, gr_size, hi_count)) else (ob1 (f_Co_isFull co_count) (fun r4 => if r4 = (0 : Int32) then (ob3 (f_Co_add co_rows co_marks co_rowSets co_count a1 a2) (fun w7 w8 w9 => ob2 (f_Fa_dropGrammar gr_size hi_count) (fun w11 w12 => some ((1 : Int32), w7, w8, w9, w11, w12)))) else (some ((0 : Int32), co_marks, co_rowSets, co_count, gr_size, hi_count)))))
set_option maxHeartbeats 4000000 in
set_option maxRecDepth 100000 in
theorem c_Fa_column (l : Launch) (dC : Nat → ClassId) (dI : Nat → Nat → Nat) (ty : Nat → ClassId) (ad : Nat → Nat) (sz : Nat) (co_rows : Int32) (co_marks : (Nat → Int32)) (co_rowSets : (Nat → Int32)) (co_partners : (Nat → Int32)) (co_open : (Nat → Int32)) (co_count : Int32) (tr_kinds : (Nat → Int32)) (tr_lefts : (Nat → Int32)) (tr_rights : (Nat → Int32)) (tr_seconds : (Nat → Int32)) (tr_size : Int32) (gr_kinds : (Nat → Int32)) (gr_nodes : (Nat → Int32)) (gr_rowSets : (Nat → Int32)) (gr_firstStates : (Nat → Int32)) (gr_targetCounts : (Nat → Int32)) (gr_targets : (Nat → Int32)) (gr_stepScores : (Nat → Int32)) (gr_letterScores : (Nat → Int32)) (gr_size : Int32) (tx_letters : (Nat → Int32)) (tx_length : Int32) (va_scores : (Nat → Int32)) (va_knownEnds : Int32) (hi_begins : (Nat → Int32)) (hi_lengths : (Nat → Int32)) (hi_scores : (Nat → Int32)) (hi_taken : (Nat → Int32)) (hi_count : Int32) (de_states : (Nat → Int32)) (de_begins : (Nat → Int32)) (de_lengths : (Nat → Int32)) (de_length : Int32) (a1 : Int32) (a2 : Int32) (r0 : Int32) (n_co_marks : (Nat → Int32)) (n_co_rowSets : (Nat → Int32)) (n_co_count : Int32) (n_gr_size : Int32) (n_hi_count : Int32) (hf : f_Fa_column co_rows co_marks co_rowSets co_count gr_size hi_count a1 a2 = some (r0, n_co_marks, n_co_rowSets, n_co_count, n_gr_size, n_hi_count)) : Met l y_Fa_column (.code y_Fa_column prog_1_method_2_code 3 (some .boolean) :: gw) rm_Fa_column (xPre (dC, dI) classes (tys3 ty) (wX ty ad co_rows co_marks co_rowSets co_partners co_open co_count tr_kinds tr_lefts tr_rights tr_seconds tr_size gr_kinds gr_nodes gr_rowSets gr_firstStates gr_targetCounts gr_targets gr_stepScores gr_letterScores gr_size tx_letters tx_length va_scores va_knownEnds hi_begins hi_lengths hi_scores hi_taken hi_count de_states de_begins de_lengths de_length) sz [.ref (ad 0), .int a1, .int a2]) (xQi (dC, dI) classes (wX ty ad co_rows co_marks co_rowSets co_partners co_open co_count tr_kinds tr_lefts tr_rights tr_seconds tr_size gr_kinds gr_nodes gr_rowSets gr_firstStates gr_targetCounts gr_targets gr_stepScores gr_letterScores gr_size tx_letters tx_length va_scores va_knownEnds hi_begins hi_lengths hi_scores hi_taken hi_count de_states de_begins de_lengths de_length) (wX ty ad co_rows n_co_marks n_co_rowSets co_partners co_open n_co_count tr_kinds tr_lefts tr_rights tr_seconds tr_size gr_kinds gr_nodes gr_rowSets gr_firstStates gr_targetCounts gr_targets gr_stepScores gr_letterScores n_gr_size tx_letters tx_length va_scores va_knownEnds hi_begins hi_lengths hi_scores hi_taken n_hi_count de_states de_begins de_lengths de_length) sz r0) 0 0 (va_A (wX ty ad co_rows co_marks co_rowSets co_partners co_open co_count tr_kinds tr_lefts tr_rights tr_seconds tr_size gr_kinds gr_nodes gr_rowSets gr_firstStates gr_targetCounts gr_targets gr_stepScores gr_letterScores gr_size tx_letters tx_length va_scores va_knownEnds hi_begins hi_lengths hi_scores hi_taken hi_count de_states de_begins de_lengths de_length) sz) := by
  refine xmet_z rfl (Nat.le_of_ble_eq_true rfl) ?_
  intro p e s m below meth c A ls Q hx hb hml hts hown hK hN hA hP hD hS hl hret
  replace hown : s.vm.findClass R_Fa = some m.cls := hown
  have hl : lv_has ls 3 [(0, .ref (ad 0)), (1, .int a1), (2, .int a2)] := hl
  rw [f_Fa_column] at hf
  obtain ⟨H, eH⟩ : ∃ H : Heap, H = s.heap := ⟨_, rfl⟩
  obtain ⟨locs, eL⟩ : ∃ L : List Loc, L = [] := ⟨_, rfl⟩
  have hP : va_P (dC, dI) classes (wX ty ad co_rows co_marks co_rowSets co_partners co_open co_count tr_kinds tr_lefts tr_rights tr_seconds tr_size gr_kinds gr_nodes gr_rowSets gr_firstStates gr_targetCounts gr_targets gr_stepScores gr_letterScores gr_size tx_letters tx_length va_scores va_knownEnds hi_begins hi_lengths hi_scores hi_taken hi_count de_states de_begins de_lengths de_length) H := by rw [eH]; exact hP
  have hS : va_S A s.heap H locs := by rw [eH, eL]; exact hS
  rw [← eL]
  suffices hgoal : W p l e rm_Fa_column s m (List.toArray [.ref (ad 0), .int a1, .int a2]) below meth c H locs 0 0 Q (F0 m 0 ls []) by rw [eH] at hgoal; exact hgoal
  clear eH eL
  refine lv_iload_n hx hb d_Fa_column_0 rfl (lv_at hl 1 rfl) ?_
  obtain ⟨r1, hc2, hf⟩ := ob1_inv hf
  refine xk_i (xrunS (As := [.int a1]) (rest := []) ⟨hx, hb, hml, hown, hts⟩ (c_Fa_isMark l dC dI ty ad H.size co_rows co_marks co_rowSets co_partners co_open co_count tr_kinds tr_lefts tr_rights tr_seconds tr_size gr_kinds gr_nodes gr_rowSets gr_firstStates gr_targetCounts gr_targets gr_stepScores gr_letterScores gr_size tx_letters tx_length va_scores va_knownEnds hi_begins hi_lengths hi_scores hi_taken hi_count de_states de_begins de_lengths de_length a1 r1 hc2) z_Fa_75 ⟨⟨rfl, rfl⟩, by decide, by decide⟩ hK hP hD hN rfl hl.1 rfl (Nat.le_of_ble_eq_true rfl) d_Fa_column_1 ⟨Nat.zero_le _, Nat.zero_le _⟩) hS hD rfl hA (fun H locs hP hD hS => ?_)
  refine W.eq (g2 := F0 m 4 ls [.int r1]) rfl ?_
  refine lv_if_eq (tgt := 17) hx hb d_Fa_column_4 (by decide) (fun c3 => ?_) (fun c3 => ?_)
  · have hf := xif_t c3 hf
    refine lv_iconst (v := 0) hx hb d_Fa_column_17 (by decide) ?_
    obtain ⟨rfl, rfl, rfl, rfl, rfl, rfl⟩ := os6 hf
    exact hret H locs _ _ _ d_Fa_column_18 rfl rfl hP hS
  · have hf := xif_f c3 hf
    refine lv_aload_n hx hb d_Fa_column_7 rfl (lv_at hl 0 rfl) ?_
    refine va_get (D := (dC, dI)) (ci := 0) (v := .ref (ad 1)) (C := R_Fa) (T := F_Fa) (N := 7) hx hb hts iw_Fa hown hK hP 0 rfl rfl 0 (by decide) (hts _ m_240) (fun _ h9 => h9) rfl d_Fa_column_8 ?_
    obtain ⟨r4, hc5, hf⟩ := ob1_inv hf
    refine xk_i (xrunV (C := R_Co) (As := []) (rest := []) ⟨hx, hb, hml, hown, hts⟩ (c_Co_isFull l dC dI ty ad H.size co_rows co_marks co_rowSets co_partners co_open co_count tr_kinds tr_lefts tr_rights tr_seconds tr_size gr_kinds gr_nodes gr_rowSets gr_firstStates gr_targetCounts gr_targets gr_stepScores gr_letterScores gr_size tx_letters tx_length va_scores va_knownEnds hi_begins hi_lengths hi_scores hi_taken hi_count de_states de_begins de_lengths de_length  r4 hc5) z_Fa_79 ⟨⟨rfl, rfl⟩, by decide, by decide⟩ hK hP hD hN (va_recv hK hP (ci := 1) (q0 := 1) rfl rfl) rfl hl.1 rfl (Nat.le_of_ble_eq_true rfl) d_Fa_column_11 ⟨Nat.zero_le _, Nat.zero_le _⟩) hS hD rfl hA (fun H locs hP hD hS => ?_)
    refine W.eq (g2 := F0 m 14 ls [.int r4]) rfl ?_
    refine lv_if_eq (tgt := 19) hx hb d_Fa_column_14 (by decide) (fun c6 => ?_) (fun c6 => ?_)
    · have hf := xif_t c6 hf
      refine lv_aload_n hx hb d_Fa_column_19 rfl (lv_at hl 0 rfl) ?_
      refine va_get (D := (dC, dI)) (ci := 0) (v := .ref (ad 1)) (C := R_Fa) (T := F_Fa) (N := 7) hx hb hts iw_Fa hown hK hP 0 rfl rfl 0 (by decide) (hts _ m_240) (fun _ h9 => h9) rfl d_Fa_column_20 ?_
      refine lv_iload_n hx hb d_Fa_column_23 rfl (lv_at hl 1 rfl) ?_
      refine lv_iload_n hx hb d_Fa_column_24 rfl (lv_at hl 2 rfl) ?_
      obtain ⟨w7, w8, w9, hc10, hf⟩ := ob3_inv hf
      refine xk_v (xrunV (C := R_Co) (As := [.int a1, .int a2]) (rest := []) ⟨hx, hb, hml, hown, hts⟩ (c_Co_add l dC dI ty ad H.size co_rows co_marks co_rowSets co_partners co_open co_count tr_kinds tr_lefts tr_rights tr_seconds tr_size gr_kinds gr_nodes gr_rowSets gr_firstStates gr_targetCounts gr_targets gr_stepScores gr_letterScores gr_size tx_letters tx_length va_scores va_knownEnds hi_begins hi_lengths hi_scores hi_taken hi_count de_states de_begins de_lengths de_length a1 a2 w7 w8 w9 hc10) z_Fa_83 ⟨⟨rfl, rfl⟩, by decide, by decide⟩ hK hP hD hN (va_recv hK hP (ci := 1) (q0 := 1) rfl rfl) rfl hl.1 rfl (Nat.le_of_ble_eq_true rfl) d_Fa_column_25 ⟨Nat.zero_le _, Nat.zero_le _⟩) hS hD rfl hA (fun H locs hP hD hS => ?_)
      refine W.eq (g2 := F0 m 28 ls []) rfl ?_
      refine lv_aload_n hx hb d_Fa_column_28 rfl (lv_at hl 0 rfl) ?_
      obtain ⟨w11, w12, hc13, hf⟩ := ob2_inv hf
      refine xk_v (xrunV (C := R_Fa) (As := []) (rest := []) ⟨hx, hb, hml, hown, hts⟩ (c_Fa_dropGrammar l dC dI ty ad H.size co_rows w7 w8 co_partners co_open w9 tr_kinds tr_lefts tr_rights tr_seconds tr_size gr_kinds gr_nodes gr_rowSets gr_firstStates gr_targetCounts gr_targets gr_stepScores gr_letterScores gr_size tx_letters tx_length va_scores va_knownEnds hi_begins hi_lengths hi_scores hi_taken hi_count de_states de_begins de_lengths de_length  w11 w12 hc13) z_Fa_87 ⟨⟨rfl, rfl⟩, by decide, by decide⟩ hK hP hD hN (va_recv hK hP (ci := 0) (q0 := 0) rfl rfl) rfl hl.1 rfl (Nat.le_of_ble_eq_true rfl) d_Fa_column_29 ⟨Nat.zero_le _, Nat.zero_le _⟩) hS hD rfl hA (fun H locs hP hD hS => ?_)
      refine W.eq (g2 := F0 m 32 ls []) rfl ?_
      refine lv_iconst (v := 1) hx hb d_Fa_column_32 (by decide) ?_
      obtain ⟨rfl, rfl, rfl, rfl, rfl, rfl⟩ := os6 hf
      exact hret H locs _ _ _ d_Fa_column_33 rfl rfl hP hS
    · have hf := xif_f c6 hf
      refine lv_iconst (v := 0) hx hb d_Fa_column_17 (by decide) ?_
      obtain ⟨rfl, rfl, rfl, rfl, rfl, rfl⟩ := os6 hf
      exact hret H locs _ _ _ d_Fa_column_18 rfl rfl hP hS
def f_Co_pairUp_K4_93  (x1_4 : Int32) (x2_4 : Int32) (co_partners_4 : (Nat → Int32)) (co_open_4 : (Nat → Int32)) : Option (Int32 × (Nat → Int32) × (Nat → Int32)) := if x1_4 = (0 : Int32) then (some ((1 : Int32), co_partners_4, co_open_4)) else (some ((0 : Int32), co_partners_4, co_open_4))
def f_Co_pairUp_L4 (co_marks : (Nat → Int32)) (co_count : Int32) (k4_93 : (Int32 → Int32 → (Nat → Int32) → (Nat → Int32) → Option (Int32 × (Nat → Int32) × (Nat → Int32)))) : Nat → Int32 → Int32 → (Nat → Int32) → (Nat → Int32) → Option (Int32 × (Nat → Int32) × (Nat → Int32))
  | 0, _, _, _, _ => none
  | n4 + 1, x1_4, x2_4, co_partners_4, co_open_4 => if co_count ≤ x2_4 then (k4_93 x1_4 x2_4 co_partners_4 co_open_4) else (gd (xin x2_4 8) (gd (xin x2_4 8) (if (co_marks (Int32.toNatClampNeg x2_4)) = (40 : Int32) then (gd (xin x1_4 8) ((f_Co_pairUp_L4 co_marks co_count k4_93 n4) (x1_4 + (1 : Int32)) (x2_4 + (1 : Int32)) (upd co_partners_4 (Int32.toNatClampNeg x2_4) (-1 : Int32)) (upd co_open_4 (Int32.toNatClampNeg x1_4) x2_4))) else (gd (xin x2_4 8) (if (co_marks (Int32.toNatClampNeg x2_4)) = (41 : Int32) then (if x1_4 = (0 : Int32) then (some ((0 : Int32), (upd co_partners_4 (Int32.toNatClampNeg x2_4) (-1 : Int32)), co_open_4)) else (gd (xin (x1_4 + (-1 : Int32)) 8) (gd (xin x2_4 8) (gd (xin (x1_4 + (-1 : Int32)) 8) (gd (xin (co_open_4 (Int32.toNatClampNeg (x1_4 + (-1 : Int32)))) 8) ((f_Co_pairUp_L4 co_marks co_count k4_93 n4) (x1_4 + (-1 : Int32)) (x2_4 + (1 : Int32)) (upd (upd (upd co_partners_4 (Int32.toNatClampNeg x2_4) (-1 : Int32)) (Int32.toNatClampNeg x2_4) (co_open_4 (Int32.toNatClampNeg (x1_4 + (-1 : Int32))))) (Int32.toNatClampNeg (co_open_4 (Int32.toNatClampNeg (x1_4 + (-1 : Int32))))) x2_4) co_open_4)))))) else ((f_Co_pairUp_L4 co_marks co_count k4_93 n4) x1_4 (x2_4 + (1 : Int32)) (upd co_partners_4 (Int32.toNatClampNeg x2_4) (-1 : Int32)) co_open_4))))))
def f_Co_pairUp (co_marks : (Nat → Int32)) (co_partners : (Nat → Int32)) (co_open : (Nat → Int32)) (co_count : Int32) : Option (Int32 × (Nat → Int32) × (Nat → Int32)) := f_Co_pairUp_L4 co_marks co_count (f_Co_pairUp_K4_93) 1000 (0 : Int32) (0 : Int32) co_partners co_open
set_option maxHeartbeats 4000000 in
set_option maxRecDepth 100000 in
theorem c_Co_pairUp (l : Launch) (dC : Nat → ClassId) (dI : Nat → Nat → Nat) (ty : Nat → ClassId) (ad : Nat → Nat) (sz : Nat) (co_rows : Int32) (co_marks : (Nat → Int32)) (co_rowSets : (Nat → Int32)) (co_partners : (Nat → Int32)) (co_open : (Nat → Int32)) (co_count : Int32) (tr_kinds : (Nat → Int32)) (tr_lefts : (Nat → Int32)) (tr_rights : (Nat → Int32)) (tr_seconds : (Nat → Int32)) (tr_size : Int32) (gr_kinds : (Nat → Int32)) (gr_nodes : (Nat → Int32)) (gr_rowSets : (Nat → Int32)) (gr_firstStates : (Nat → Int32)) (gr_targetCounts : (Nat → Int32)) (gr_targets : (Nat → Int32)) (gr_stepScores : (Nat → Int32)) (gr_letterScores : (Nat → Int32)) (gr_size : Int32) (tx_letters : (Nat → Int32)) (tx_length : Int32) (va_scores : (Nat → Int32)) (va_knownEnds : Int32) (hi_begins : (Nat → Int32)) (hi_lengths : (Nat → Int32)) (hi_scores : (Nat → Int32)) (hi_taken : (Nat → Int32)) (hi_count : Int32) (de_states : (Nat → Int32)) (de_begins : (Nat → Int32)) (de_lengths : (Nat → Int32)) (de_length : Int32)  (r0 : Int32) (n_co_partners : (Nat → Int32)) (n_co_open : (Nat → Int32)) (hf : f_Co_pairUp co_marks co_partners co_open co_count = some (r0, n_co_partners, n_co_open)) : Met l y_Co_pairUp (.code y_Co_pairUp prog_2_method_6_code 3 (some .boolean) :: gw) rm_Co_pairUp (xPre (dC, dI) classes (tys3 ty) (wX ty ad co_rows co_marks co_rowSets co_partners co_open co_count tr_kinds tr_lefts tr_rights tr_seconds tr_size gr_kinds gr_nodes gr_rowSets gr_firstStates gr_targetCounts gr_targets gr_stepScores gr_letterScores gr_size tx_letters tx_length va_scores va_knownEnds hi_begins hi_lengths hi_scores hi_taken hi_count de_states de_begins de_lengths de_length) sz [.ref (ad 1)]) (xQi (dC, dI) classes (wX ty ad co_rows co_marks co_rowSets co_partners co_open co_count tr_kinds tr_lefts tr_rights tr_seconds tr_size gr_kinds gr_nodes gr_rowSets gr_firstStates gr_targetCounts gr_targets gr_stepScores gr_letterScores gr_size tx_letters tx_length va_scores va_knownEnds hi_begins hi_lengths hi_scores hi_taken hi_count de_states de_begins de_lengths de_length) (wX ty ad co_rows co_marks co_rowSets n_co_partners n_co_open co_count tr_kinds tr_lefts tr_rights tr_seconds tr_size gr_kinds gr_nodes gr_rowSets gr_firstStates gr_targetCounts gr_targets gr_stepScores gr_letterScores gr_size tx_letters tx_length va_scores va_knownEnds hi_begins hi_lengths hi_scores hi_taken hi_count de_states de_begins de_lengths de_length) sz r0) 0 0 (va_A (wX ty ad co_rows co_marks co_rowSets co_partners co_open co_count tr_kinds tr_lefts tr_rights tr_seconds tr_size gr_kinds gr_nodes gr_rowSets gr_firstStates gr_targetCounts gr_targets gr_stepScores gr_letterScores gr_size tx_letters tx_length va_scores va_knownEnds hi_begins hi_lengths hi_scores hi_taken hi_count de_states de_begins de_lengths de_length) sz) := by
  refine xmet_z rfl (Nat.le_of_ble_eq_true rfl) ?_
  intro p e s m below meth c A ls Q hx hb hml hts hown hK hN hA hP hD hS hl hret
  replace hown : s.vm.findClass R_Co = some m.cls := hown
  have hl : lv_has ls 3 [(0, .ref (ad 1))] := hl
  rw [f_Co_pairUp] at hf
  obtain ⟨H, eH⟩ : ∃ H : Heap, H = s.heap := ⟨_, rfl⟩
  obtain ⟨locs, eL⟩ : ∃ L : List Loc, L = [] := ⟨_, rfl⟩
  have hP : va_P (dC, dI) classes (wX ty ad co_rows co_marks co_rowSets co_partners co_open co_count tr_kinds tr_lefts tr_rights tr_seconds tr_size gr_kinds gr_nodes gr_rowSets gr_firstStates gr_targetCounts gr_targets gr_stepScores gr_letterScores gr_size tx_letters tx_length va_scores va_knownEnds hi_begins hi_lengths hi_scores hi_taken hi_count de_states de_begins de_lengths de_length) H := by rw [eH]; exact hP
  have hS : va_S A s.heap H locs := by rw [eH, eL]; exact hS
  rw [← eL]
  suffices hgoal : W p l e rm_Co_pairUp s m (List.toArray [.ref (ad 1)]) below meth c H locs 0 0 Q (F0 m 0 ls []) by rw [eH] at hgoal; exact hgoal
  clear eH eL
  refine lv_iconst (v := 0) hx hb d_Co_pairUp_0 (by decide) ?_
  refine lv_istore_n (lv' := [(1, .int (0 : Int32)), (0, .ref (ad 1))]) hx hb d_Co_pairUp_1 rfl hl (by decide) rfl (fun ls hl => ?_)
  refine lv_iconst (v := 0) hx hb d_Co_pairUp_2 (by decide) ?_
  refine lv_istore_n (lv' := [(2, .int (0 : Int32)), (1, .int (0 : Int32)), (0, .ref (ad 1))]) hx hb d_Co_pairUp_3 rfl hl (by decide) rfl (fun ls hl => ?_)
  have K4_93 : ∀ (x1_4 : Int32) (x2_4 : Int32) (co_partners_4 : (Nat → Int32)) (co_open_4 : (Nat → Int32)) (H : Heap) (locs : List Loc) (ls : Array Slot), va_P (dC, dI) classes (wX ty ad co_rows co_marks co_rowSets co_partners_4 co_open_4 co_count tr_kinds tr_lefts tr_rights tr_seconds tr_size gr_kinds gr_nodes gr_rowSets gr_firstStates gr_targetCounts gr_targets gr_stepScores gr_letterScores gr_size tx_letters tx_length va_scores va_knownEnds hi_begins hi_lengths hi_scores hi_taken hi_count de_states de_begins de_lengths de_length) H → va_D A (wX ty ad co_rows co_marks co_rowSets co_partners_4 co_open_4 co_count tr_kinds tr_lefts tr_rights tr_seconds tr_size gr_kinds gr_nodes gr_rowSets gr_firstStates gr_targetCounts gr_targets gr_stepScores gr_letterScores gr_size tx_letters tx_length va_scores va_knownEnds hi_begins hi_lengths hi_scores hi_taken hi_count de_states de_begins de_lengths de_length) → va_S A s.heap H locs → lv_has ls 3 [(1, .int x1_4)] → f_Co_pairUp_K4_93 x1_4 x2_4 co_partners_4 co_open_4 = some (r0, n_co_partners, n_co_open) → W p l e rm_Co_pairUp s m (List.toArray [.ref (ad 1)]) below meth c H locs 0 0 Q (F0 m 93 ls []) := by
    intro x1_4 x2_4 co_partners_4 co_open_4 H locs ls hP hD hS hl hf
    rw [f_Co_pairUp_K4_93] at hf
    refine lv_iload_n hx hb d_Co_pairUp_93 rfl (lv_at hl 0 rfl) ?_
    refine lv_if_ne (tgt := 101) hx hb d_Co_pairUp_94 (by decide) (fun c13 => ?_) (fun c13 => ?_)
    · have hf := xif_f c13 hf
      refine lv_iconst (v := 0) hx hb d_Co_pairUp_101 (by decide) ?_
      obtain ⟨rfl, rfl, rfl⟩ := os3 hf
      exact hret H locs _ _ _ d_Co_pairUp_102 rfl rfl hP hS
    · have hf := xif_t c13 hf
      refine lv_iconst (v := 1) hx hb d_Co_pairUp_97 (by decide) ?_
      refine lv_goto (tgt := 102) hx hb d_Co_pairUp_98 (by decide) ?_
      obtain ⟨rfl, rfl, rfl⟩ := os3 hf
      exact hret H locs _ _ _ d_Co_pairUp_102 rfl rfl hP hS
  have L4 : ∀ (n4 : Nat), ∀ (x1_4 : Int32) (x2_4 : Int32) (co_partners_4 : (Nat → Int32)) (co_open_4 : (Nat → Int32)) (H : Heap) (locs : List Loc) (ls : Array Slot), va_P (dC, dI) classes (wX ty ad co_rows co_marks co_rowSets co_partners_4 co_open_4 co_count tr_kinds tr_lefts tr_rights tr_seconds tr_size gr_kinds gr_nodes gr_rowSets gr_firstStates gr_targetCounts gr_targets gr_stepScores gr_letterScores gr_size tx_letters tx_length va_scores va_knownEnds hi_begins hi_lengths hi_scores hi_taken hi_count de_states de_begins de_lengths de_length) H → va_D A (wX ty ad co_rows co_marks co_rowSets co_partners_4 co_open_4 co_count tr_kinds tr_lefts tr_rights tr_seconds tr_size gr_kinds gr_nodes gr_rowSets gr_firstStates gr_targetCounts gr_targets gr_stepScores gr_letterScores gr_size tx_letters tx_length va_scores va_knownEnds hi_begins hi_lengths hi_scores hi_taken hi_count de_states de_begins de_lengths de_length) → va_S A s.heap H locs → lv_has ls 3 [(0, .ref (ad 1)), (1, .int x1_4), (2, .int x2_4)] → f_Co_pairUp_L4 co_marks co_count (f_Co_pairUp_K4_93) n4 x1_4 x2_4 co_partners_4 co_open_4 = some (r0, n_co_partners, n_co_open) → W p l e rm_Co_pairUp s m (List.toArray [.ref (ad 1)]) below meth c H locs 0 0 Q (F0 m 4 ls []) := by
    intro n4
    induction n4 with
    | zero =>
      intro x1_4 x2_4 co_partners_4 co_open_4 H locs ls hP hD hS hl hf
      rw [f_Co_pairUp_L4] at hf
      cases hf
    | succ n4 ih4 =>
      intro x1_4 x2_4 co_partners_4 co_open_4 H locs ls hP hD hS hl hf
      rw [f_Co_pairUp_L4] at hf
      refine lv_iload_n hx hb d_Co_pairUp_4 rfl (lv_at hl 2 rfl) ?_
      refine lv_aload_n hx hb d_Co_pairUp_5 rfl (lv_at hl 0 rfl) ?_
      refine va_get (D := (dC, dI)) (ci := 1) (v := .int co_count) (C := R_Co) (T := F_Co) (N := 6) hx hb hts iw_Co hown hK hP 1 rfl rfl 5 (by decide) (hts _ m_85) (fun _ h9 => h9) rfl d_Co_pairUp_6 ?_
      refine lv_icmp_ge (tgt := 93) hx hb d_Co_pairUp_9 (by decide) (fun c1 => ?_) (fun c1 => ?_)
      · have hf := xif_t c1 hf
        exact K4_93 x1_4 x2_4 co_partners_4 co_open_4 _ _ _ hP hD hS (lv_sub hl [1] rfl) hf
      · have hf := xif_f c1 hf
        refine lv_aload_n hx hb d_Co_pairUp_12 rfl (lv_at hl 0 rfl) ?_
        refine va_get (D := (dC, dI)) (ci := 1) (v := .ref (ad 4)) (C := R_Co) (T := F_Co) (N := 6) hx hb hts iw_Co hown hK hP 1 rfl rfl 3 (by decide) (hts _ m_83) (fun _ h9 => h9) rfl d_Co_pairUp_13 ?_
        refine lv_iload_n hx hb d_Co_pairUp_16 rfl (lv_at hl 2 rfl) ?_
        refine lv_iconst (v := -1) hx hb d_Co_pairUp_17 (by decide) ?_
        obtain ⟨hi2, hf⟩ := gdi hf
        refine va_iast hx hb hK hP hD hS 4 0 rfl rfl hi2 d_Co_pairUp_18 (fun H locs hP hD hS => ?_)
        have hP : va_P (dC, dI) classes (wX ty ad co_rows co_marks co_rowSets (upd co_partners_4 (Int32.toNatClampNeg x2_4) (-1 : Int32)) co_open_4 co_count tr_kinds tr_lefts tr_rights tr_seconds tr_size gr_kinds gr_nodes gr_rowSets gr_firstStates gr_targetCounts gr_targets gr_stepScores gr_letterScores gr_size tx_letters tx_length va_scores va_knownEnds hi_begins hi_lengths hi_scores hi_taken hi_count de_states de_begins de_lengths de_length) H := hP
        have hD : va_D A (wX ty ad co_rows co_marks co_rowSets (upd co_partners_4 (Int32.toNatClampNeg x2_4) (-1 : Int32)) co_open_4 co_count tr_kinds tr_lefts tr_rights tr_seconds tr_size gr_kinds gr_nodes gr_rowSets gr_firstStates gr_targetCounts gr_targets gr_stepScores gr_letterScores gr_size tx_letters tx_length va_scores va_knownEnds hi_begins hi_lengths hi_scores hi_taken hi_count de_states de_begins de_lengths de_length) := hD
        refine lv_aload_n hx hb d_Co_pairUp_19 rfl (lv_at hl 0 rfl) ?_
        refine va_get (D := (dC, dI)) (ci := 1) (v := .ref (ad 2)) (C := R_Co) (T := F_Co) (N := 6) hx hb hts iw_Co hown hK hP 1 rfl rfl 1 (by decide) (hts _ m_81) (fun _ h9 => h9) rfl d_Co_pairUp_20 ?_
        refine lv_iload_n hx hb d_Co_pairUp_23 rfl (lv_at hl 2 rfl) ?_
        obtain ⟨hi3, hf⟩ := gdi hf
        refine va_cald hx hb hK hP 2 1 rfl rfl hi3 d_Co_pairUp_24 ?_
        refine lv_bipush (v := 40) hx hb d_Co_pairUp_25 (by decide) ?_
        refine lv_icmp_ne (tgt := 43) hx hb d_Co_pairUp_27 (by decide) (fun c4 => ?_) (fun c4 => ?_)
        · have hf := xif_f c4 hf
          refine lv_aload_n hx hb d_Co_pairUp_43 rfl (lv_at hl 0 rfl) ?_
          refine va_get (D := (dC, dI)) (ci := 1) (v := .ref (ad 2)) (C := R_Co) (T := F_Co) (N := 6) hx hb hts iw_Co hown hK hP 1 rfl rfl 1 (by decide) (hts _ m_81) (fun _ h9 => h9) rfl d_Co_pairUp_44 ?_
          refine lv_iload_n hx hb d_Co_pairUp_47 rfl (lv_at hl 2 rfl) ?_
          obtain ⟨hi5, hf⟩ := gdi hf
          refine va_cald hx hb hK hP 2 1 rfl rfl hi5 d_Co_pairUp_48 ?_
          refine lv_bipush (v := 41) hx hb d_Co_pairUp_49 (by decide) ?_
          refine lv_icmp_ne (tgt := 87) hx hb d_Co_pairUp_51 (by decide) (fun c6 => ?_) (fun c6 => ?_)
          · have hf := xif_f c6 hf
            refine lv_iinc (v := (x2_4 + (1 : Int32))) (lv' := [(2, .int (x2_4 + (1 : Int32))), (0, .ref (ad 1)), (1, .int x1_4)]) hx hb d_Co_pairUp_87 hl (k := 2) rfl rfl (by decide) rfl (fun ls hl => ?_)
            refine lv_goto (tgt := 4) hx hb d_Co_pairUp_90 (by decide) ?_
            exact ih4 x1_4 (x2_4 + (1 : Int32)) (upd co_partners_4 (Int32.toNatClampNeg x2_4) (-1 : Int32)) co_open_4 _ _ _ hP hD hS (lv_sub hl [1, 2, 0] rfl) hf
          · have hf := xif_t c6 hf
            refine lv_iload_n hx hb d_Co_pairUp_54 rfl (lv_at hl 1 rfl) ?_
            refine lv_if_ne (tgt := 60) hx hb d_Co_pairUp_55 (by decide) (fun c7 => ?_) (fun c7 => ?_)
            · have hf := xif_f c7 hf
              refine lv_iinc (v := (x1_4 + (-1 : Int32))) (lv' := [(1, .int (x1_4 + (-1 : Int32))), (0, .ref (ad 1)), (2, .int x2_4)]) hx hb d_Co_pairUp_60 hl (k := 1) rfl rfl (by decide) rfl (fun ls hl => ?_)
              refine lv_aload_n hx hb d_Co_pairUp_63 rfl (lv_at hl 1 rfl) ?_
              refine va_get (D := (dC, dI)) (ci := 1) (v := .ref (ad 4)) (C := R_Co) (T := F_Co) (N := 6) hx hb hts iw_Co hown hK hP 1 rfl rfl 3 (by decide) (hts _ m_83) (fun _ h9 => h9) rfl d_Co_pairUp_64 ?_
              refine lv_iload_n hx hb d_Co_pairUp_67 rfl (lv_at hl 2 rfl) ?_
              refine lv_aload_n hx hb d_Co_pairUp_68 rfl (lv_at hl 1 rfl) ?_
              refine va_get (D := (dC, dI)) (ci := 1) (v := .ref (ad 5)) (C := R_Co) (T := F_Co) (N := 6) hx hb hts iw_Co hown hK hP 1 rfl rfl 4 (by decide) (hts _ m_84) (fun _ h9 => h9) rfl d_Co_pairUp_69 ?_
              refine lv_iload_n hx hb d_Co_pairUp_72 rfl (lv_at hl 0 rfl) ?_
              obtain ⟨hi8, hf⟩ := gdi hf
              refine va_iald hx hb hK hP 5 0 rfl rfl hi8 d_Co_pairUp_73 ?_
              obtain ⟨hi9, hf⟩ := gdi hf
              refine va_iast hx hb hK hP hD hS 4 0 rfl rfl hi9 d_Co_pairUp_74 (fun H locs hP hD hS => ?_)
              have hP : va_P (dC, dI) classes (wX ty ad co_rows co_marks co_rowSets (upd (upd co_partners_4 (Int32.toNatClampNeg x2_4) (-1 : Int32)) (Int32.toNatClampNeg x2_4) (co_open_4 (Int32.toNatClampNeg (x1_4 + (-1 : Int32))))) co_open_4 co_count tr_kinds tr_lefts tr_rights tr_seconds tr_size gr_kinds gr_nodes gr_rowSets gr_firstStates gr_targetCounts gr_targets gr_stepScores gr_letterScores gr_size tx_letters tx_length va_scores va_knownEnds hi_begins hi_lengths hi_scores hi_taken hi_count de_states de_begins de_lengths de_length) H := hP
              have hD : va_D A (wX ty ad co_rows co_marks co_rowSets (upd (upd co_partners_4 (Int32.toNatClampNeg x2_4) (-1 : Int32)) (Int32.toNatClampNeg x2_4) (co_open_4 (Int32.toNatClampNeg (x1_4 + (-1 : Int32))))) co_open_4 co_count tr_kinds tr_lefts tr_rights tr_seconds tr_size gr_kinds gr_nodes gr_rowSets gr_firstStates gr_targetCounts gr_targets gr_stepScores gr_letterScores gr_size tx_letters tx_length va_scores va_knownEnds hi_begins hi_lengths hi_scores hi_taken hi_count de_states de_begins de_lengths de_length) := hD
              refine lv_aload_n hx hb d_Co_pairUp_75 rfl (lv_at hl 1 rfl) ?_
              refine va_get (D := (dC, dI)) (ci := 1) (v := .ref (ad 4)) (C := R_Co) (T := F_Co) (N := 6) hx hb hts iw_Co hown hK hP 1 rfl rfl 3 (by decide) (hts _ m_83) (fun _ h9 => h9) rfl d_Co_pairUp_76 ?_
              refine lv_aload_n hx hb d_Co_pairUp_79 rfl (lv_at hl 1 rfl) ?_
              refine va_get (D := (dC, dI)) (ci := 1) (v := .ref (ad 5)) (C := R_Co) (T := F_Co) (N := 6) hx hb hts iw_Co hown hK hP 1 rfl rfl 4 (by decide) (hts _ m_84) (fun _ h9 => h9) rfl d_Co_pairUp_80 ?_
              refine lv_iload_n hx hb d_Co_pairUp_83 rfl (lv_at hl 0 rfl) ?_
              obtain ⟨hi10, hf⟩ := gdi hf
              refine va_iald hx hb hK hP 5 0 rfl rfl hi10 d_Co_pairUp_84 ?_
              refine lv_iload_n hx hb d_Co_pairUp_85 rfl (lv_at hl 2 rfl) ?_
              obtain ⟨hi11, hf⟩ := gdi hf
              refine va_iast hx hb hK hP hD hS 4 0 rfl rfl hi11 d_Co_pairUp_86 (fun H locs hP hD hS => ?_)
              have hP : va_P (dC, dI) classes (wX ty ad co_rows co_marks co_rowSets (upd (upd (upd co_partners_4 (Int32.toNatClampNeg x2_4) (-1 : Int32)) (Int32.toNatClampNeg x2_4) (co_open_4 (Int32.toNatClampNeg (x1_4 + (-1 : Int32))))) (Int32.toNatClampNeg (co_open_4 (Int32.toNatClampNeg (x1_4 + (-1 : Int32))))) x2_4) co_open_4 co_count tr_kinds tr_lefts tr_rights tr_seconds tr_size gr_kinds gr_nodes gr_rowSets gr_firstStates gr_targetCounts gr_targets gr_stepScores gr_letterScores gr_size tx_letters tx_length va_scores va_knownEnds hi_begins hi_lengths hi_scores hi_taken hi_count de_states de_begins de_lengths de_length) H := hP
              have hD : va_D A (wX ty ad co_rows co_marks co_rowSets (upd (upd (upd co_partners_4 (Int32.toNatClampNeg x2_4) (-1 : Int32)) (Int32.toNatClampNeg x2_4) (co_open_4 (Int32.toNatClampNeg (x1_4 + (-1 : Int32))))) (Int32.toNatClampNeg (co_open_4 (Int32.toNatClampNeg (x1_4 + (-1 : Int32))))) x2_4) co_open_4 co_count tr_kinds tr_lefts tr_rights tr_seconds tr_size gr_kinds gr_nodes gr_rowSets gr_firstStates gr_targetCounts gr_targets gr_stepScores gr_letterScores gr_size tx_letters tx_length va_scores va_knownEnds hi_begins hi_lengths hi_scores hi_taken hi_count de_states de_begins de_lengths de_length) := hD
              refine lv_iinc (v := (x2_4 + (1 : Int32))) (lv' := [(2, .int (x2_4 + (1 : Int32))), (1, .int (x1_4 + (-1 : Int32))), (0, .ref (ad 1))]) hx hb d_Co_pairUp_87 hl (k := 2) rfl rfl (by decide) rfl (fun ls hl => ?_)
              refine lv_goto (tgt := 4) hx hb d_Co_pairUp_90 (by decide) ?_
              exact ih4 (x1_4 + (-1 : Int32)) (x2_4 + (1 : Int32)) (upd (upd (upd co_partners_4 (Int32.toNatClampNeg x2_4) (-1 : Int32)) (Int32.toNatClampNeg x2_4) (co_open_4 (Int32.toNatClampNeg (x1_4 + (-1 : Int32))))) (Int32.toNatClampNeg (co_open_4 (Int32.toNatClampNeg (x1_4 + (-1 : Int32))))) x2_4) co_open_4 _ _ _ hP hD hS (lv_sub hl [2, 1, 0] rfl) hf
            · have hf := xif_t c7 hf
              refine lv_iconst (v := 0) hx hb d_Co_pairUp_58 (by decide) ?_
              obtain ⟨rfl, rfl, rfl⟩ := os3 hf
              exact hret H locs _ _ _ d_Co_pairUp_59 rfl rfl hP hS
        · have hf := xif_t c4 hf
          refine lv_aload_n hx hb d_Co_pairUp_30 rfl (lv_at hl 0 rfl) ?_
          refine va_get (D := (dC, dI)) (ci := 1) (v := .ref (ad 5)) (C := R_Co) (T := F_Co) (N := 6) hx hb hts iw_Co hown hK hP 1 rfl rfl 4 (by decide) (hts _ m_84) (fun _ h9 => h9) rfl d_Co_pairUp_31 ?_
          refine lv_iload_n hx hb d_Co_pairUp_34 rfl (lv_at hl 1 rfl) ?_
          refine lv_iload_n hx hb d_Co_pairUp_35 rfl (lv_at hl 2 rfl) ?_
          obtain ⟨hi12, hf⟩ := gdi hf
          refine va_iast hx hb hK hP hD hS 5 0 rfl rfl hi12 d_Co_pairUp_36 (fun H locs hP hD hS => ?_)
          have hP : va_P (dC, dI) classes (wX ty ad co_rows co_marks co_rowSets (upd co_partners_4 (Int32.toNatClampNeg x2_4) (-1 : Int32)) (upd co_open_4 (Int32.toNatClampNeg x1_4) x2_4) co_count tr_kinds tr_lefts tr_rights tr_seconds tr_size gr_kinds gr_nodes gr_rowSets gr_firstStates gr_targetCounts gr_targets gr_stepScores gr_letterScores gr_size tx_letters tx_length va_scores va_knownEnds hi_begins hi_lengths hi_scores hi_taken hi_count de_states de_begins de_lengths de_length) H := hP
          have hD : va_D A (wX ty ad co_rows co_marks co_rowSets (upd co_partners_4 (Int32.toNatClampNeg x2_4) (-1 : Int32)) (upd co_open_4 (Int32.toNatClampNeg x1_4) x2_4) co_count tr_kinds tr_lefts tr_rights tr_seconds tr_size gr_kinds gr_nodes gr_rowSets gr_firstStates gr_targetCounts gr_targets gr_stepScores gr_letterScores gr_size tx_letters tx_length va_scores va_knownEnds hi_begins hi_lengths hi_scores hi_taken hi_count de_states de_begins de_lengths de_length) := hD
          refine lv_iinc (v := (x1_4 + (1 : Int32))) (lv' := [(1, .int (x1_4 + (1 : Int32))), (0, .ref (ad 1)), (2, .int x2_4)]) hx hb d_Co_pairUp_37 hl (k := 1) rfl rfl (by decide) rfl (fun ls hl => ?_)
          refine lv_goto (tgt := 87) hx hb d_Co_pairUp_40 (by decide) ?_
          refine lv_iinc (v := (x2_4 + (1 : Int32))) (lv' := [(2, .int (x2_4 + (1 : Int32))), (1, .int (x1_4 + (1 : Int32))), (0, .ref (ad 1))]) hx hb d_Co_pairUp_87 hl (k := 2) rfl rfl (by decide) rfl (fun ls hl => ?_)
          refine lv_goto (tgt := 4) hx hb d_Co_pairUp_90 (by decide) ?_
          exact ih4 (x1_4 + (1 : Int32)) (x2_4 + (1 : Int32)) (upd co_partners_4 (Int32.toNatClampNeg x2_4) (-1 : Int32)) (upd co_open_4 (Int32.toNatClampNeg x1_4) x2_4) _ _ _ hP hD hS (lv_sub hl [2, 1, 0] rfl) hf
  exact L4 1000 (0 : Int32) (0 : Int32) co_partners co_open _ _ _ hP hD hS (lv_sub hl [2, 1, 0] rfl) hf
end
