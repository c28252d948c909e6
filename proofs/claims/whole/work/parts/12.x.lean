/-! pure functions and contracts of Tr_grow, Tr_size, Tr_kindOf, Fa_statesOf, Co_allRows, Tr_left, Co_rowsWith, Co_rowsWithAny, Tr_right, Gr_rowsIn (written by wip/gen) -/
def f_Tr_grow (co_partners : (Nat → Int32)) (co_count : Int32) (tr_kinds : (Nat → Int32)) (tr_lefts : (Nat → Int32)) (tr_rights : (Nat → Int32)) (tr_seconds : (Nat → Int32)) (tr_size : Int32) : Option ((Nat → Int32) × (Nat → Int32) × (Nat → Int32) × (Nat → Int32) × Int32) := ob4 (f_Tr_add tr_kinds tr_lefts tr_rights (0 : Int32) (0 : Int32) (-1 : Int32) (-1 : Int32)) (fun w1 w2 w3 w4 => ob1 (f_Co_count co_count) (fun r6 => ob5 (f_Tr_growPart 12 co_partners w1 w2 w3 tr_seconds w4 (0 : Int32) (r6 - (1 : Int32)) (0 : Int32)) (fun w8 w9 w10 w11 w12 => some (w8, w9, w10, w11, w12))))
set_option maxHeartbeats 4000000 in
set_option maxRecDepth 100000 in
theorem c_Tr_grow (l : Launch) (dC : Nat → ClassId) (dI : Nat → Nat → Nat) (ty : Nat → ClassId) (ad : Nat → Nat) (ta : Nat → Nat) (sz : Nat) (co_rows : Int32) (co_marks : (Nat → Int32)) (co_rowSets : (Nat → Int32)) (co_partners : (Nat → Int32)) (co_open : (Nat → Int32)) (co_count : Int32) (tr_kinds : (Nat → Int32)) (tr_lefts : (Nat → Int32)) (tr_rights : (Nat → Int32)) (tr_seconds : (Nat → Int32)) (tr_size : Int32) (gr_kinds : (Nat → Int32)) (gr_nodes : (Nat → Int32)) (gr_rowSets : (Nat → Int32)) (gr_firstStates : (Nat → Int32)) (gr_targetCounts : (Nat → Int32)) (gr_targets : (Nat → Int32)) (gr_stepScores : (Nat → Int32)) (gr_letterScores : (Nat → Int32)) (gr_size : Int32) (tx_letters : (Nat → Int32)) (tx_length : Int32) (va_scores : (Nat → Int32)) (va_knownEnds : Int32) (hi_begins : (Nat → Int32)) (hi_lengths : (Nat → Int32)) (hi_scores : (Nat → Int32)) (hi_taken : (Nat → Int32)) (hi_count : Int32) (de_states : (Nat → Int32)) (de_begins : (Nat → Int32)) (de_lengths : (Nat → Int32)) (de_length : Int32)  (n_tr_kinds : (Nat → Int32)) (n_tr_lefts : (Nat → Int32)) (n_tr_rights : (Nat → Int32)) (n_tr_seconds : (Nat → Int32)) (n_tr_size : Int32) (hf : f_Tr_grow co_partners co_count tr_kinds tr_lefts tr_rights tr_seconds tr_size = some (n_tr_kinds, n_tr_lefts, n_tr_rights, n_tr_seconds, n_tr_size)) : Met l y_Tr_grow (.code y_Tr_grow prog_7_method_7_code 1 none :: gw) rm_Tr_grow (xPre ta (dC, dI) classes (tys3 ty) (wX ty ad co_rows co_marks co_rowSets co_partners co_open co_count tr_kinds tr_lefts tr_rights tr_seconds tr_size gr_kinds gr_nodes gr_rowSets gr_firstStates gr_targetCounts gr_targets gr_stepScores gr_letterScores gr_size tx_letters tx_length va_scores va_knownEnds hi_begins hi_lengths hi_scores hi_taken hi_count de_states de_begins de_lengths de_length) sz [.ref (ad 6)]) (xQv (dC, dI) classes (wX ty ad co_rows co_marks co_rowSets co_partners co_open co_count tr_kinds tr_lefts tr_rights tr_seconds tr_size gr_kinds gr_nodes gr_rowSets gr_firstStates gr_targetCounts gr_targets gr_stepScores gr_letterScores gr_size tx_letters tx_length va_scores va_knownEnds hi_begins hi_lengths hi_scores hi_taken hi_count de_states de_begins de_lengths de_length) (wX ty ad co_rows co_marks co_rowSets co_partners co_open co_count n_tr_kinds n_tr_lefts n_tr_rights n_tr_seconds n_tr_size gr_kinds gr_nodes gr_rowSets gr_firstStates gr_targetCounts gr_targets gr_stepScores gr_letterScores gr_size tx_letters tx_length va_scores va_knownEnds hi_begins hi_lengths hi_scores hi_taken hi_count de_states de_begins de_lengths de_length) sz) 0 0 (va_A (wX ty ad co_rows co_marks co_rowSets co_partners co_open co_count tr_kinds tr_lefts tr_rights tr_seconds tr_size gr_kinds gr_nodes gr_rowSets gr_firstStates gr_targetCounts gr_targets gr_stepScores gr_letterScores gr_size tx_letters tx_length va_scores va_knownEnds hi_begins hi_lengths hi_scores hi_taken hi_count de_states de_begins de_lengths de_length) sz) := by
  refine xmet_v rfl (Nat.le_of_ble_eq_true rfl) ?_
  intro p e s m below meth c A ls Q hx hb hml hts hown hK hN hA hP hD hS hl hret
  replace hown : s.vm.findClass R_Tr = some m.cls := hown
  have hl : lv_has ls 1 [(0, .ref (ad 6))] := hl
  rw [f_Tr_grow] at hf
  obtain ⟨H, eH⟩ : ∃ H : Heap, H = s.heap := ⟨_, rfl⟩
  obtain ⟨locs, eL⟩ : ∃ L : List Loc, L = [] := ⟨_, rfl⟩
  have hP : va_P (dC, dI) classes (wX ty ad co_rows co_marks co_rowSets co_partners co_open co_count tr_kinds tr_lefts tr_rights tr_seconds tr_size gr_kinds gr_nodes gr_rowSets gr_firstStates gr_targetCounts gr_targets gr_stepScores gr_letterScores gr_size tx_letters tx_length va_scores va_knownEnds hi_begins hi_lengths hi_scores hi_taken hi_count de_states de_begins de_lengths de_length) H := by rw [eH]; exact hP
  have hS : va_S A s.heap H locs := by rw [eH, eL]; exact hS
  rw [← eL]
  suffices hgoal : W p l e rm_Tr_grow s m (List.toArray [.ref (ad 6)]) below meth c H locs 0 0 Q (F0 m 0 ls []) by rw [eH] at hgoal; exact hgoal
  clear eH eL
  refine lv_aload_n hx hb d_Tr_grow_0 rfl (lv_at hl 0 rfl) ?_
  refine lv_iconst (v := 0) hx hb d_Tr_grow_1 (by decide) ?_
  refine va_put (D := (dC, dI)) (ci := 2) (v := .int (0 : Int32)) (ty := .int) (C := R_Tr) (T := F_Tr) (N := 6) hx hb hts iw_Tr t_Tr t_Tr_ok n_Tr hown hK hP hD hS 6 rfl rfl 5 (by decide) (hts _ m_112) (fun _ h9 => h9) rfl (by decide +kernel) rfl rfl (Nat.le_of_ble_eq_true rfl) d_Tr_grow_2 (fun H locs hP hD hS => ?_)
  have hP : va_P (dC, dI) classes (wX ty ad co_rows co_marks co_rowSets co_partners co_open co_count tr_kinds tr_lefts tr_rights tr_seconds (0 : Int32) gr_kinds gr_nodes gr_rowSets gr_firstStates gr_targetCounts gr_targets gr_stepScores gr_letterScores gr_size tx_letters tx_length va_scores va_knownEnds hi_begins hi_lengths hi_scores hi_taken hi_count de_states de_begins de_lengths de_length) H := hP
  have hD : va_D A (wX ty ad co_rows co_marks co_rowSets co_partners co_open co_count tr_kinds tr_lefts tr_rights tr_seconds (0 : Int32) gr_kinds gr_nodes gr_rowSets gr_firstStates gr_targetCounts gr_targets gr_stepScores gr_letterScores gr_size tx_letters tx_length va_scores va_knownEnds hi_begins hi_lengths hi_scores hi_taken hi_count de_states de_begins de_lengths de_length) := hD
  refine lv_aload_n hx hb d_Tr_grow_5 rfl (lv_at hl 0 rfl) ?_
  refine lv_iconst (v := 0) hx hb d_Tr_grow_6 (by decide) ?_
  refine lv_iconst (v := -1) hx hb d_Tr_grow_7 (by decide) ?_
  refine lv_iconst (v := -1) hx hb d_Tr_grow_8 (by decide) ?_
  obtain ⟨w1, w2, w3, w4, hc5, hf⟩ := ob4_inv hf
  refine xk_v (xrunV (C := R_Tr) (As := [.int (0 : Int32), .int (-1 : Int32), .int (-1 : Int32)]) (rest := []) ⟨hx, hb, hml, hown, hts⟩ (c_Tr_add l dC dI ty ad ta H.size co_rows co_marks co_rowSets co_partners co_open co_count tr_kinds tr_lefts tr_rights tr_seconds (0 : Int32) gr_kinds gr_nodes gr_rowSets gr_firstStates gr_targetCounts gr_targets gr_stepScores gr_letterScores gr_size tx_letters tx_length va_scores va_knownEnds hi_begins hi_lengths hi_scores hi_taken hi_count de_states de_begins de_lengths de_length (0 : Int32) (-1 : Int32) (-1 : Int32) w1 w2 w3 w4 hc5) z_Tr_32 ⟨⟨rfl, rfl⟩, by decide, by decide⟩ hK hP hD hN hS hA (va_recv hK hP (ci := 2) (q0 := 6) rfl rfl) rfl hl.1 rfl (Nat.le_of_ble_eq_true rfl) d_Tr_grow_9 ⟨Nat.zero_le _, Nat.zero_le _⟩) hS hD rfl hA (fun H locs hP hD hS => ?_)
  refine W.eq (g2 := F0 m 12 ls []) rfl ?_
  refine lv_aload_n hx hb d_Tr_grow_12 rfl (lv_at hl 0 rfl) ?_
  refine lv_iconst (v := 0) hx hb d_Tr_grow_13 (by decide) ?_
  refine lv_aload_n hx hb d_Tr_grow_14 rfl (lv_at hl 0 rfl) ?_
  refine va_get (D := (dC, dI)) (ci := 2) (v := .ref (ad 1)) (C := R_Tr) (T := F_Tr) (N := 6) hx hb hts iw_Tr hown hK hP 6 rfl rfl 0 (by decide) (hts _ m_107) (fun _ h9 => h9) rfl d_Tr_grow_15 ?_
  obtain ⟨r6, hc7, hf⟩ := ob1_inv hf
  refine xk_i (xrunV (C := R_Co) (As := []) (rest := [.int (0 : Int32), .ref (ad 6)]) ⟨hx, hb, hml, hown, hts⟩ (c_Co_count l dC dI ty ad ta H.size co_rows co_marks co_rowSets co_partners co_open co_count w1 w2 w3 tr_seconds w4 gr_kinds gr_nodes gr_rowSets gr_firstStates gr_targetCounts gr_targets gr_stepScores gr_letterScores gr_size tx_letters tx_length va_scores va_knownEnds hi_begins hi_lengths hi_scores hi_taken hi_count de_states de_begins de_lengths de_length  r6 hc7) z_Tr_36 ⟨⟨rfl, rfl⟩, by decide, by decide⟩ hK hP hD hN hS hA (va_recv hK hP (ci := 1) (q0 := 1) rfl rfl) rfl hl.1 rfl (Nat.le_of_ble_eq_true rfl) d_Tr_grow_18 ⟨Nat.zero_le _, Nat.zero_le _⟩) hS hD rfl hA (fun H locs hP hD hS => ?_)
  refine W.eq (g2 := F0 m 21 ls [.int r6, .int (0 : Int32), .ref (ad 6)]) rfl ?_
  refine lv_iconst (v := 1) hx hb d_Tr_grow_21 (by decide) ?_
  refine lv_isub hx hb d_Tr_grow_22 ?_
  refine lv_iconst (v := 0) hx hb d_Tr_grow_23 (by decide) ?_
  obtain ⟨w8, w9, w10, w11, w12, hc13, hf⟩ := ob5_inv hf
  refine xk_v (xrunV (C := R_Tr) (As := [.int (0 : Int32), .int (r6 - (1 : Int32)), .int (0 : Int32)]) (rest := []) ⟨hx, hb, hml, hown, hts⟩ (c_Tr_growPart l dC dI ty ad ta 12 H.size co_rows co_marks co_rowSets co_partners co_open co_count w1 w2 w3 tr_seconds w4 gr_kinds gr_nodes gr_rowSets gr_firstStates gr_targetCounts gr_targets gr_stepScores gr_letterScores gr_size tx_letters tx_length va_scores va_knownEnds hi_begins hi_lengths hi_scores hi_taken hi_count de_states de_begins de_lengths de_length (0 : Int32) (r6 - (1 : Int32)) (0 : Int32) w8 w9 w10 w11 w12 hc13) z_Tr_42 ⟨⟨rfl, rfl⟩, by simp only [rm_Tr_grow, rm_Tr_growPart]; omega, by simp only [rm_Tr_grow, rm_Tr_growPart]; omega⟩ hK hP hD hN hS hA (va_recv hK hP (ci := 2) (q0 := 6) rfl rfl) rfl hl.1 rfl (Nat.le_of_ble_eq_true rfl) d_Tr_grow_24 ⟨Nat.zero_le _, Nat.zero_le _⟩) hS hD rfl hA (fun H locs hP hD hS => ?_)
  refine W.eq (g2 := F0 m 27 ls []) rfl ?_
  obtain ⟨rfl, rfl, rfl, rfl, rfl⟩ := os5 hf
  exact hret H locs _ _ d_Tr_grow_27 hP hS
def f_Tr_size (tr_size : Int32) : Option (Int32) := some (tr_size)
set_option maxHeartbeats 4000000 in
set_option maxRecDepth 100000 in
theorem c_Tr_size (l : Launch) (dC : Nat → ClassId) (dI : Nat → Nat → Nat) (ty : Nat → ClassId) (ad : Nat → Nat) (ta : Nat → Nat) (sz : Nat) (co_rows : Int32) (co_marks : (Nat → Int32)) (co_rowSets : (Nat → Int32)) (co_partners : (Nat → Int32)) (co_open : (Nat → Int32)) (co_count : Int32) (tr_kinds : (Nat → Int32)) (tr_lefts : (Nat → Int32)) (tr_rights : (Nat → Int32)) (tr_seconds : (Nat → Int32)) (tr_size : Int32) (gr_kinds : (Nat → Int32)) (gr_nodes : (Nat → Int32)) (gr_rowSets : (Nat → Int32)) (gr_firstStates : (Nat → Int32)) (gr_targetCounts : (Nat → Int32)) (gr_targets : (Nat → Int32)) (gr_stepScores : (Nat → Int32)) (gr_letterScores : (Nat → Int32)) (gr_size : Int32) (tx_letters : (Nat → Int32)) (tx_length : Int32) (va_scores : (Nat → Int32)) (va_knownEnds : Int32) (hi_begins : (Nat → Int32)) (hi_lengths : (Nat → Int32)) (hi_scores : (Nat → Int32)) (hi_taken : (Nat → Int32)) (hi_count : Int32) (de_states : (Nat → Int32)) (de_begins : (Nat → Int32)) (de_lengths : (Nat → Int32)) (de_length : Int32)  (r0 : Int32) (hf : f_Tr_size tr_size = some (r0)) : Met l y_Tr_size (.code y_Tr_size prog_7_method_2_code 1 (some .int) :: gw) rm_Tr_size (xPre ta (dC, dI) classes (tys3 ty) (wX ty ad co_rows co_marks co_rowSets co_partners co_open co_count tr_kinds tr_lefts tr_rights tr_seconds tr_size gr_kinds gr_nodes gr_rowSets gr_firstStates gr_targetCounts gr_targets gr_stepScores gr_letterScores gr_size tx_letters tx_length va_scores va_knownEnds hi_begins hi_lengths hi_scores hi_taken hi_count de_states de_begins de_lengths de_length) sz [.ref (ad 6)]) (xQi (dC, dI) classes (wX ty ad co_rows co_marks co_rowSets co_partners co_open co_count tr_kinds tr_lefts tr_rights tr_seconds tr_size gr_kinds gr_nodes gr_rowSets gr_firstStates gr_targetCounts gr_targets gr_stepScores gr_letterScores gr_size tx_letters tx_length va_scores va_knownEnds hi_begins hi_lengths hi_scores hi_taken hi_count de_states de_begins de_lengths de_length) (wX ty ad co_rows co_marks co_rowSets co_partners co_open co_count tr_kinds tr_lefts tr_rights tr_seconds tr_size gr_kinds gr_nodes gr_rowSets gr_firstStates gr_targetCounts gr_targets gr_stepScores gr_letterScores gr_size tx_letters tx_length va_scores va_knownEnds hi_begins hi_lengths hi_scores hi_taken hi_count de_states de_begins de_lengths de_length) sz r0) 0 0 (va_A (wX ty ad co_rows co_marks co_rowSets co_partners co_open co_count tr_kinds tr_lefts tr_rights tr_seconds tr_size gr_kinds gr_nodes gr_rowSets gr_firstStates gr_targetCounts gr_targets gr_stepScores gr_letterScores gr_size tx_letters tx_length va_scores va_knownEnds hi_begins hi_lengths hi_scores hi_taken hi_count de_states de_begins de_lengths de_length) sz) := by
  refine xmet_i rfl (Nat.le_of_ble_eq_true rfl) ?_
  intro p e s m below meth c A ls Q hx hb hml hts hown hK hN hA hP hD hS hl hret
  replace hown : s.vm.findClass R_Tr = some m.cls := hown
  have hl : lv_has ls 1 [(0, .ref (ad 6))] := hl
  rw [f_Tr_size] at hf
  obtain ⟨H, eH⟩ : ∃ H : Heap, H = s.heap := ⟨_, rfl⟩
  obtain ⟨locs, eL⟩ : ∃ L : List Loc, L = [] := ⟨_, rfl⟩
  have hP : va_P (dC, dI) classes (wX ty ad co_rows co_marks co_rowSets co_partners co_open co_count tr_kinds tr_lefts tr_rights tr_seconds tr_size gr_kinds gr_nodes gr_rowSets gr_firstStates gr_targetCounts gr_targets gr_stepScores gr_letterScores gr_size tx_letters tx_length va_scores va_knownEnds hi_begins hi_lengths hi_scores hi_taken hi_count de_states de_begins de_lengths de_length) H := by rw [eH]; exact hP
  have hS : va_S A s.heap H locs := by rw [eH, eL]; exact hS
  rw [← eL]
  suffices hgoal : W p l e rm_Tr_size s m (List.toArray [.ref (ad 6)]) below meth c H locs 0 0 Q (F0 m 0 ls []) by rw [eH] at hgoal; exact hgoal
  clear eH eL
  refine lv_aload_n hx hb d_Tr_size_0 rfl (lv_at hl 0 rfl) ?_
  refine va_get (D := (dC, dI)) (ci := 2) (v := .int tr_size) (C := R_Tr) (T := F_Tr) (N := 6) hx hb hts iw_Tr hown hK hP 6 rfl rfl 5 (by decide) (hts _ m_112) (fun _ h9 => h9) rfl d_Tr_size_1 ?_
  obtain rfl := os1 hf
  exact hret H locs _ _ _ d_Tr_size_4 rfl hP hS
def f_Tr_kindOf (tr_kinds : (Nat → Int32)) (a1 : Int32) : Option (Int32) := gd (xin a1 18) (some ((tr_kinds (Int32.toNatClampNeg a1))))
set_option maxHeartbeats 4000000 in
set_option maxRecDepth 100000 in
theorem c_Tr_kindOf (l : Launch) (dC : Nat → ClassId) (dI : Nat → Nat → Nat) (ty : Nat → ClassId) (ad : Nat → Nat) (ta : Nat → Nat) (sz : Nat) (co_rows : Int32) (co_marks : (Nat → Int32)) (co_rowSets : (Nat → Int32)) (co_partners : (Nat → Int32)) (co_open : (Nat → Int32)) (co_count : Int32) (tr_kinds : (Nat → Int32)) (tr_lefts : (Nat → Int32)) (tr_rights : (Nat → Int32)) (tr_seconds : (Nat → Int32)) (tr_size : Int32) (gr_kinds : (Nat → Int32)) (gr_nodes : (Nat → Int32)) (gr_rowSets : (Nat → Int32)) (gr_firstStates : (Nat → Int32)) (gr_targetCounts : (Nat → Int32)) (gr_targets : (Nat → Int32)) (gr_stepScores : (Nat → Int32)) (gr_letterScores : (Nat → Int32)) (gr_size : Int32) (tx_letters : (Nat → Int32)) (tx_length : Int32) (va_scores : (Nat → Int32)) (va_knownEnds : Int32) (hi_begins : (Nat → Int32)) (hi_lengths : (Nat → Int32)) (hi_scores : (Nat → Int32)) (hi_taken : (Nat → Int32)) (hi_count : Int32) (de_states : (Nat → Int32)) (de_begins : (Nat → Int32)) (de_lengths : (Nat → Int32)) (de_length : Int32) (a1 : Int32) (r0 : Int32) (hf : f_Tr_kindOf tr_kinds a1 = some (r0)) : Met l y_Tr_kindOf (.code y_Tr_kindOf prog_7_method_3_code 2 (some .int) :: gw) rm_Tr_kindOf (xPre ta (dC, dI) classes (tys3 ty) (wX ty ad co_rows co_marks co_rowSets co_partners co_open co_count tr_kinds tr_lefts tr_rights tr_seconds tr_size gr_kinds gr_nodes gr_rowSets gr_firstStates gr_targetCounts gr_targets gr_stepScores gr_letterScores gr_size tx_letters tx_length va_scores va_knownEnds hi_begins hi_lengths hi_scores hi_taken hi_count de_states de_begins de_lengths de_length) sz [.ref (ad 6), .int a1]) (xQi (dC, dI) classes (wX ty ad co_rows co_marks co_rowSets co_partners co_open co_count tr_kinds tr_lefts tr_rights tr_seconds tr_size gr_kinds gr_nodes gr_rowSets gr_firstStates gr_targetCounts gr_targets gr_stepScores gr_letterScores gr_size tx_letters tx_length va_scores va_knownEnds hi_begins hi_lengths hi_scores hi_taken hi_count de_states de_begins de_lengths de_length) (wX ty ad co_rows co_marks co_rowSets co_partners co_open co_count tr_kinds tr_lefts tr_rights tr_seconds tr_size gr_kinds gr_nodes gr_rowSets gr_firstStates gr_targetCounts gr_targets gr_stepScores gr_letterScores gr_size tx_letters tx_length va_scores va_knownEnds hi_begins hi_lengths hi_scores hi_taken hi_count de_states de_begins de_lengths de_length) sz r0) 0 0 (va_A (wX ty ad co_rows co_marks co_rowSets co_partners co_open co_count tr_kinds tr_lefts tr_rights tr_seconds tr_size gr_kinds gr_nodes gr_rowSets gr_firstStates gr_targetCounts gr_targets gr_stepScores gr_letterScores gr_size tx_letters tx_length va_scores va_knownEnds hi_begins hi_lengths hi_scores hi_taken hi_count de_states de_begins de_lengths de_length) sz) := by
  refine xmet_i rfl (Nat.le_of_ble_eq_true rfl) ?_
  intro p e s m below meth c A ls Q hx hb hml hts hown hK hN hA hP hD hS hl hret
  replace hown : s.vm.findClass R_Tr = some m.cls := hown
  have hl : lv_has ls 2 [(0, .ref (ad 6)), (1, .int a1)] := hl
  rw [f_Tr_kindOf] at hf
  obtain ⟨H, eH⟩ : ∃ H : Heap, H = s.heap := ⟨_, rfl⟩
  obtain ⟨locs, eL⟩ : ∃ L : List Loc, L = [] := ⟨_, rfl⟩
  have hP : va_P (dC, dI) classes (wX ty ad co_rows co_marks co_rowSets co_partners co_open co_count tr_kinds tr_lefts tr_rights tr_seconds tr_size gr_kinds gr_nodes gr_rowSets gr_firstStates gr_targetCounts gr_targets gr_stepScores gr_letterScores gr_size tx_letters tx_length va_scores va_knownEnds hi_begins hi_lengths hi_scores hi_taken hi_count de_states de_begins de_lengths de_length) H := by rw [eH]; exact hP
  have hS : va_S A s.heap H locs := by rw [eH, eL]; exact hS
  rw [← eL]
  suffices hgoal : W p l e rm_Tr_kindOf s m (List.toArray [.ref (ad 6), .int a1]) below meth c H locs 0 0 Q (F0 m 0 ls []) by rw [eH] at hgoal; exact hgoal
  clear eH eL
  refine lv_aload_n hx hb d_Tr_kindOf_0 rfl (lv_at hl 0 rfl) ?_
  refine va_get (D := (dC, dI)) (ci := 2) (v := .ref (ad 7)) (C := R_Tr) (T := F_Tr) (N := 6) hx hb hts iw_Tr hown hK hP 6 rfl rfl 1 (by decide) (hts _ m_108) (fun _ h9 => h9) rfl d_Tr_kindOf_1 ?_
  refine lv_iload_n hx hb d_Tr_kindOf_4 rfl (lv_at hl 1 rfl) ?_
  obtain ⟨hi1, hf⟩ := gdi hf
  refine va_iald hx hb hK hP 7 0 rfl rfl hi1 d_Tr_kindOf_5 ?_
  obtain rfl := os1 hf
  exact hret H locs _ _ _ d_Tr_kindOf_6 rfl hP hS
def f_Fa_statesOf (a1 : Int32) : Option (Nat) := if a1 = (0 : Int32) then (some (0 : Nat)) else (if a1 = (1 : Int32) then (some (1 : Nat)) else (if a1 = (2 : Int32) then (some (2 : Nat)) else (if a1 = (3 : Int32) then (some (3 : Nat)) else (if a1 = (4 : Int32) then (some (4 : Nat)) else (if a1 = (5 : Int32) then (some (5 : Nat)) else (if a1 = (6 : Int32) then (some (6 : Nat)) else (some (7 : Nat))))))))
set_option maxHeartbeats 4000000 in
set_option maxRecDepth 100000 in
theorem c_Fa_statesOf (l : Launch) (dC : Nat → ClassId) (dI : Nat → Nat → Nat) (ty : Nat → ClassId) (ad : Nat → Nat) (ta : Nat → Nat) (sz : Nat) (co_rows : Int32) (co_marks : (Nat → Int32)) (co_rowSets : (Nat → Int32)) (co_partners : (Nat → Int32)) (co_open : (Nat → Int32)) (co_count : Int32) (tr_kinds : (Nat → Int32)) (tr_lefts : (Nat → Int32)) (tr_rights : (Nat → Int32)) (tr_seconds : (Nat → Int32)) (tr_size : Int32) (gr_kinds : (Nat → Int32)) (gr_nodes : (Nat → Int32)) (gr_rowSets : (Nat → Int32)) (gr_firstStates : (Nat → Int32)) (gr_targetCounts : (Nat → Int32)) (gr_targets : (Nat → Int32)) (gr_stepScores : (Nat → Int32)) (gr_letterScores : (Nat → Int32)) (gr_size : Int32) (tx_letters : (Nat → Int32)) (tx_length : Int32) (va_scores : (Nat → Int32)) (va_knownEnds : Int32) (hi_begins : (Nat → Int32)) (hi_lengths : (Nat → Int32)) (hi_scores : (Nat → Int32)) (hi_taken : (Nat → Int32)) (hi_count : Int32) (de_states : (Nat → Int32)) (de_begins : (Nat → Int32)) (de_lengths : (Nat → Int32)) (de_length : Int32) (a1 : Int32) (r0 : Nat) (hf : f_Fa_statesOf a1 = some (r0)) : Met l y_Fa_statesOf (.code y_Fa_statesOf prog_1_method_23_code 1 (some (.array .int)) :: gw) rm_Fa_statesOf (xPre ta (dC, dI) classes (tys3 ty) (wX ty ad co_rows co_marks co_rowSets co_partners co_open co_count tr_kinds tr_lefts tr_rights tr_seconds tr_size gr_kinds gr_nodes gr_rowSets gr_firstStates gr_targetCounts gr_targets gr_stepScores gr_letterScores gr_size tx_letters tx_length va_scores va_knownEnds hi_begins hi_lengths hi_scores hi_taken hi_count de_states de_begins de_lengths de_length) sz [.int a1]) (xQr (dC, dI) classes (wX ty ad co_rows co_marks co_rowSets co_partners co_open co_count tr_kinds tr_lefts tr_rights tr_seconds tr_size gr_kinds gr_nodes gr_rowSets gr_firstStates gr_targetCounts gr_targets gr_stepScores gr_letterScores gr_size tx_letters tx_length va_scores va_knownEnds hi_begins hi_lengths hi_scores hi_taken hi_count de_states de_begins de_lengths de_length) (wX ty ad co_rows co_marks co_rowSets co_partners co_open co_count tr_kinds tr_lefts tr_rights tr_seconds tr_size gr_kinds gr_nodes gr_rowSets gr_firstStates gr_targetCounts gr_targets gr_stepScores gr_letterScores gr_size tx_letters tx_length va_scores va_knownEnds hi_begins hi_lengths hi_scores hi_taken hi_count de_states de_begins de_lengths de_length) sz (ta r0)) 0 0 (va_A (wX ty ad co_rows co_marks co_rowSets co_partners co_open co_count tr_kinds tr_lefts tr_rights tr_seconds tr_size gr_kinds gr_nodes gr_rowSets gr_firstStates gr_targetCounts gr_targets gr_stepScores gr_letterScores gr_size tx_letters tx_length va_scores va_knownEnds hi_begins hi_lengths hi_scores hi_taken hi_count de_states de_begins de_lengths de_length) sz) := by
  refine xmet_r (Or.inr ⟨_, rfl⟩) rfl (Nat.le_of_ble_eq_true rfl) ?_
  intro p e s m below meth c A ls Q hx hb hml hts hown hK hN hA hP hD hS hl hret
  replace hown : s.vm.findClass R_Fa = some m.cls := hown
  have hl : lv_has ls 1 [(0, .int a1)] := hl
  rw [f_Fa_statesOf] at hf
  obtain ⟨H, eH⟩ : ∃ H : Heap, H = s.heap := ⟨_, rfl⟩
  obtain ⟨locs, eL⟩ : ∃ L : List Loc, L = [] := ⟨_, rfl⟩
  have hP : va_P (dC, dI) classes (wX ty ad co_rows co_marks co_rowSets co_partners co_open co_count tr_kinds tr_lefts tr_rights tr_seconds tr_size gr_kinds gr_nodes gr_rowSets gr_firstStates gr_targetCounts gr_targets gr_stepScores gr_letterScores gr_size tx_letters tx_length va_scores va_knownEnds hi_begins hi_lengths hi_scores hi_taken hi_count de_states de_begins de_lengths de_length) H := by rw [eH]; exact hP
  have hS : va_S A s.heap H locs := by rw [eH, eL]; exact hS
  rw [← eL]
  suffices hgoal : W p l e rm_Fa_statesOf s m (List.toArray [.int a1]) below meth c H locs 0 0 Q (F0 m 0 ls []) by rw [eH] at hgoal; exact hgoal
  clear eH eL
  refine lv_iload_n hx hb d_Fa_statesOf_0 rfl (lv_at hl 0 rfl) ?_
  by_cases c1 : a1 = (0 : Int32)
  · have hf := xif_t c1 hf
    refine lv_tableIn (off := 43) (tgt := 44) hx hb d_Fa_statesOf_1 (by rw [c1]; decide) (by rw [c1]; decide) (by rw [c1]; rfl) (by decide) ?_
    refine va_gets (C := "FoldedFamily") (n := "ROOT_STATES") (d := "[I") (ref := "FoldedFamily") (v := .ref (ta 0)) hx hb (hN.2 0).1 hS hown (hts _ m_356) (fun _ h9 => h9) d_Fa_statesOf_44 ?_
    obtain rfl := os1 hf
    exact hret H locs _ _ d_Fa_statesOf_47 hP hS
  · have hf := xif_f c1 hf
    by_cases c2 : a1 = (1 : Int32)
    · have hf := xif_t c2 hf
      refine lv_tableIn (off := 47) (tgt := 48) hx hb d_Fa_statesOf_1 (by rw [c2]; decide) (by rw [c2]; decide) (by rw [c2]; rfl) (by decide) ?_
      refine va_gets (C := "FoldedFamily") (n := "LEFT_STATES") (d := "[I") (ref := "FoldedFamily") (v := .ref (ta 1)) hx hb (hN.2 1).1 hS hown (hts _ m_358) (fun _ h9 => h9) d_Fa_statesOf_48 ?_
      obtain rfl := os1 hf
      exact hret H locs _ _ d_Fa_statesOf_51 hP hS
    · have hf := xif_f c2 hf
      by_cases c3 : a1 = (2 : Int32)
      · have hf := xif_t c3 hf
        refine lv_tableIn (off := 51) (tgt := 52) hx hb d_Fa_statesOf_1 (by rw [c3]; decide) (by rw [c3]; decide) (by rw [c3]; rfl) (by decide) ?_
        refine va_gets (C := "FoldedFamily") (n := "RIGHT_STATES") (d := "[I") (ref := "FoldedFamily") (v := .ref (ta 2)) hx hb (hN.2 2).1 hS hown (hts _ m_360) (fun _ h9 => h9) d_Fa_statesOf_52 ?_
        obtain rfl := os1 hf
        exact hret H locs _ _ d_Fa_statesOf_55 hP hS
      · have hf := xif_f c3 hf
        by_cases c4 : a1 = (3 : Int32)
        · have hf := xif_t c4 hf
          refine lv_tableIn (off := 55) (tgt := 56) hx hb d_Fa_statesOf_1 (by rw [c4]; decide) (by rw [c4]; decide) (by rw [c4]; rfl) (by decide) ?_
          refine va_gets (C := "FoldedFamily") (n := "BOTH_STATES") (d := "[I") (ref := "FoldedFamily") (v := .ref (ta 3)) hx hb (hN.2 3).1 hS hown (hts _ m_362) (fun _ h9 => h9) d_Fa_statesOf_56 ?_
          obtain rfl := os1 hf
          exact hret H locs _ _ d_Fa_statesOf_59 hP hS
        · have hf := xif_f c4 hf
          by_cases c5 : a1 = (4 : Int32)
          · have hf := xif_t c5 hf
            refine lv_tableIn (off := 59) (tgt := 60) hx hb d_Fa_statesOf_1 (by rw [c5]; decide) (by rw [c5]; decide) (by rw [c5]; rfl) (by decide) ?_
            refine va_gets (C := "FoldedFamily") (n := "FORK_STATES") (d := "[I") (ref := "FoldedFamily") (v := .ref (ta 4)) hx hb (hN.2 4).1 hS hown (hts _ m_364) (fun _ h9 => h9) d_Fa_statesOf_60 ?_
            obtain rfl := os1 hf
            exact hret H locs _ _ d_Fa_statesOf_63 hP hS
          · have hf := xif_f c5 hf
            by_cases c6 : a1 = (5 : Int32)
            · have hf := xif_t c6 hf
              refine lv_tableIn (off := 63) (tgt := 64) hx hb d_Fa_statesOf_1 (by rw [c6]; decide) (by rw [c6]; decide) (by rw [c6]; rfl) (by decide) ?_
              refine va_gets (C := "FoldedFamily") (n := "FIRST_STATES") (d := "[I") (ref := "FoldedFamily") (v := .ref (ta 5)) hx hb (hN.2 5).1 hS hown (hts _ m_366) (fun _ h9 => h9) d_Fa_statesOf_64 ?_
              obtain rfl := os1 hf
              exact hret H locs _ _ d_Fa_statesOf_67 hP hS
            · have hf := xif_f c6 hf
              by_cases c7 : a1 = (6 : Int32)
              · have hf := xif_t c7 hf
                refine lv_tableIn (off := 67) (tgt := 68) hx hb d_Fa_statesOf_1 (by rw [c7]; decide) (by rw [c7]; decide) (by rw [c7]; rfl) (by decide) ?_
                refine va_gets (C := "FoldedFamily") (n := "SECOND_STATES") (d := "[I") (ref := "FoldedFamily") (v := .ref (ta 6)) hx hb (hN.2 6).1 hS hown (hts _ m_368) (fun _ h9 => h9) d_Fa_statesOf_68 ?_
                obtain rfl := os1 hf
                exact hret H locs _ _ d_Fa_statesOf_71 hP hS
              · have hf := xif_f c7 hf
                have qc1 := lv_neT (a := 0) c1 rfl
                have qc2 := lv_neT (a := 1) c2 rfl
                have qc3 := lv_neT (a := 2) c3 rfl
                have qc4 := lv_neT (a := 3) c4 rfl
                have qc5 := lv_neT (a := 4) c5 rfl
                have qc6 := lv_neT (a := 5) c6 rfl
                have qc7 := lv_neT (a := 6) c7 rfl
                refine lv_tableOut (tgt := 72) hx hb d_Fa_statesOf_1 (by omega) (by decide) ?_
                refine va_gets (C := "FoldedFamily") (n := "END_STATES") (d := "[I") (ref := "FoldedFamily") (v := .ref (ta 7)) hx hb (hN.2 7).1 hS hown (hts _ m_370) (fun _ h9 => h9) d_Fa_statesOf_72 ?_
                obtain rfl := os1 hf
                exact hret H locs _ _ d_Fa_statesOf_75 hP hS
def f_Co_allRows (co_rows : Int32) : Option (Int32) := some ((((1 : Int32) <<< (co_rows &&& 31)) - (1 : Int32)))
set_option maxHeartbeats 4000000 in
set_option maxRecDepth 100000 in
theorem c_Co_allRows (l : Launch) (dC : Nat → ClassId) (dI : Nat → Nat → Nat) (ty : Nat → ClassId) (ad : Nat → Nat) (ta : Nat → Nat) (sz : Nat) (co_rows : Int32) (co_marks : (Nat → Int32)) (co_rowSets : (Nat → Int32)) (co_partners : (Nat → Int32)) (co_open : (Nat → Int32)) (co_count : Int32) (tr_kinds : (Nat → Int32)) (tr_lefts : (Nat → Int32)) (tr_rights : (Nat → Int32)) (tr_seconds : (Nat → Int32)) (tr_size : Int32) (gr_kinds : (Nat → Int32)) (gr_nodes : (Nat → Int32)) (gr_rowSets : (Nat → Int32)) (gr_firstStates : (Nat → Int32)) (gr_targetCounts : (Nat → Int32)) (gr_targets : (Nat → Int32)) (gr_stepScores : (Nat → Int32)) (gr_letterScores : (Nat → Int32)) (gr_size : Int32) (tx_letters : (Nat → Int32)) (tx_length : Int32) (va_scores : (Nat → Int32)) (va_knownEnds : Int32) (hi_begins : (Nat → Int32)) (hi_lengths : (Nat → Int32)) (hi_scores : (Nat → Int32)) (hi_taken : (Nat → Int32)) (hi_count : Int32) (de_states : (Nat → Int32)) (de_begins : (Nat → Int32)) (de_lengths : (Nat → Int32)) (de_length : Int32)  (r0 : Int32) (hf : f_Co_allRows co_rows = some (r0)) : Met l y_Co_allRows (.code y_Co_allRows prog_2_method_9_code 1 (some .int) :: gw) rm_Co_allRows (xPre ta (dC, dI) classes (tys3 ty) (wX ty ad co_rows co_marks co_rowSets co_partners co_open co_count tr_kinds tr_lefts tr_rights tr_seconds tr_size gr_kinds gr_nodes gr_rowSets gr_firstStates gr_targetCounts gr_targets gr_stepScores gr_letterScores gr_size tx_letters tx_length va_scores va_knownEnds hi_begins hi_lengths hi_scores hi_taken hi_count de_states de_begins de_lengths de_length) sz [.ref (ad 1)]) (xQi (dC, dI) classes (wX ty ad co_rows co_marks co_rowSets co_partners co_open co_count tr_kinds tr_lefts tr_rights tr_seconds tr_size gr_kinds gr_nodes gr_rowSets gr_firstStates gr_targetCounts gr_targets gr_stepScores gr_letterScores gr_size tx_letters tx_length va_scores va_knownEnds hi_begins hi_lengths hi_scores hi_taken hi_count de_states de_begins de_lengths de_length) (wX ty ad co_rows co_marks co_rowSets co_partners co_open co_count tr_kinds tr_lefts tr_rights tr_seconds tr_size gr_kinds gr_nodes gr_rowSets gr_firstStates gr_targetCounts gr_targets gr_stepScores gr_letterScores gr_size tx_letters tx_length va_scores va_knownEnds hi_begins hi_lengths hi_scores hi_taken hi_count de_states de_begins de_lengths de_length) sz r0) 0 0 (va_A (wX ty ad co_rows co_marks co_rowSets co_partners co_open co_count tr_kinds tr_lefts tr_rights tr_seconds tr_size gr_kinds gr_nodes gr_rowSets gr_firstStates gr_targetCounts gr_targets gr_stepScores gr_letterScores gr_size tx_letters tx_length va_scores va_knownEnds hi_begins hi_lengths hi_scores hi_taken hi_count de_states de_begins de_lengths de_length) sz) := by
  refine xmet_i rfl (Nat.le_of_ble_eq_true rfl) ?_
  intro p e s m below meth c A ls Q hx hb hml hts hown hK hN hA hP hD hS hl hret
  replace hown : s.vm.findClass R_Co = some m.cls := hown
  have hl : lv_has ls 1 [(0, .ref (ad 1))] := hl
  rw [f_Co_allRows] at hf
  obtain ⟨H, eH⟩ : ∃ H : Heap, H = s.heap := ⟨_, rfl⟩
  obtain ⟨locs, eL⟩ : ∃ L : List Loc, L = [] := ⟨_, rfl⟩
  have hP : va_P (dC, dI) classes (wX ty ad co_rows co_marks co_rowSets co_partners co_open co_count tr_kinds tr_lefts tr_rights tr_seconds tr_size gr_kinds gr_nodes gr_rowSets gr_firstStates gr_targetCounts gr_targets gr_stepScores gr_letterScores gr_size tx_letters tx_length va_scores va_knownEnds hi_begins hi_lengths hi_scores hi_taken hi_count de_states de_begins de_lengths de_length) H := by rw [eH]; exact hP
  have hS : va_S A s.heap H locs := by rw [eH, eL]; exact hS
  rw [← eL]
  suffices hgoal : W p l e rm_Co_allRows s m (List.toArray [.ref (ad 1)]) below meth c H locs 0 0 Q (F0 m 0 ls []) by rw [eH] at hgoal; exact hgoal
  clear eH eL
  refine lv_iconst (v := 1) hx hb d_Co_allRows_0 (by decide) ?_
  refine lv_aload_n hx hb d_Co_allRows_1 rfl (lv_at hl 0 rfl) ?_
  refine va_get (D := (dC, dI)) (ci := 1) (v := .int co_rows) (C := R_Co) (T := F_Co) (N := 6) hx hb hts iw_Co hown hK hP 1 rfl rfl 0 (by decide) (hts _ m_80) (fun _ h9 => h9) rfl d_Co_allRows_2 ?_
  refine lv_ishl hx hb d_Co_allRows_5 ?_
  refine lv_iconst (v := 1) hx hb d_Co_allRows_6 (by decide) ?_
  refine lv_isub hx hb d_Co_allRows_7 ?_
  obtain rfl := os1 hf
  exact hret H locs _ _ _ d_Co_allRows_8 rfl hP hS
def f_Tr_left (tr_lefts : (Nat → Int32)) (a1 : Int32) : Option (Int32) := gd (xin a1 18) (some ((tr_lefts (Int32.toNatClampNeg a1))))
set_option maxHeartbeats 4000000 in
set_option maxRecDepth 100000 in
theorem c_Tr_left (l : Launch) (dC : Nat → ClassId) (dI : Nat → Nat → Nat) (ty : Nat → ClassId) (ad : Nat → Nat) (ta : Nat → Nat) (sz : Nat) (co_rows : Int32) (co_marks : (Nat → Int32)) (co_rowSets : (Nat → Int32)) (co_partners : (Nat → Int32)) (co_open : (Nat → Int32)) (co_count : Int32) (tr_kinds : (Nat → Int32)) (tr_lefts : (Nat → Int32)) (tr_rights : (Nat → Int32)) (tr_seconds : (Nat → Int32)) (tr_size : Int32) (gr_kinds : (Nat → Int32)) (gr_nodes : (Nat → Int32)) (gr_rowSets : (Nat → Int32)) (gr_firstStates : (Nat → Int32)) (gr_targetCounts : (Nat → Int32)) (gr_targets : (Nat → Int32)) (gr_stepScores : (Nat → Int32)) (gr_letterScores : (Nat → Int32)) (gr_size : Int32) (tx_letters : (Nat → Int32)) (tx_length : Int32) (va_scores : (Nat → Int32)) (va_knownEnds : Int32) (hi_begins : (Nat → Int32)) (hi_lengths : (Nat → Int32)) (hi_scores : (Nat → Int32)) (hi_taken : (Nat → Int32)) (hi_count : Int32) (de_states : (Nat → Int32)) (de_begins : (Nat → Int32)) (de_lengths : (Nat → Int32)) (de_length : Int32) (a1 : Int32) (r0 : Int32) (hf : f_Tr_left tr_lefts a1 = some (r0)) : Met l y_Tr_left (.code y_Tr_left prog_7_method_4_code 2 (some .int) :: gw) rm_Tr_left (xPre ta (dC, dI) classes (tys3 ty) (wX ty ad co_rows co_marks co_rowSets co_partners co_open co_count tr_kinds tr_lefts tr_rights tr_seconds tr_size gr_kinds gr_nodes gr_rowSets gr_firstStates gr_targetCounts gr_targets gr_stepScores gr_letterScores gr_size tx_letters tx_length va_scores va_knownEnds hi_begins hi_lengths hi_scores hi_taken hi_count de_states de_begins de_lengths de_length) sz [.ref (ad 6), .int a1]) (xQi (dC, dI) classes (wX ty ad co_rows co_marks co_rowSets co_partners co_open co_count tr_kinds tr_lefts tr_rights tr_seconds tr_size gr_kinds gr_nodes gr_rowSets gr_firstStates gr_targetCounts gr_targets gr_stepScores gr_letterScores gr_size tx_letters tx_length va_scores va_knownEnds hi_begins hi_lengths hi_scores hi_taken hi_count de_states de_begins de_lengths de_length) (wX ty ad co_rows co_marks co_rowSets co_partners co_open co_count tr_kinds tr_lefts tr_rights tr_seconds tr_size gr_kinds gr_nodes gr_rowSets gr_firstStates gr_targetCounts gr_targets gr_stepScores gr_letterScores gr_size tx_letters tx_length va_scores va_knownEnds hi_begins hi_lengths hi_scores hi_taken hi_count de_states de_begins de_lengths de_length) sz r0) 0 0 (va_A (wX ty ad co_rows co_marks co_rowSets co_partners co_open co_count tr_kinds tr_lefts tr_rights tr_seconds tr_size gr_kinds gr_nodes gr_rowSets gr_firstStates gr_targetCounts gr_targets gr_stepScores gr_letterScores gr_size tx_letters tx_length va_scores va_knownEnds hi_begins hi_lengths hi_scores hi_taken hi_count de_states de_begins de_lengths de_length) sz) := by
  refine xmet_i rfl (Nat.le_of_ble_eq_true rfl) ?_
  intro p e s m below meth c A ls Q hx hb hml hts hown hK hN hA hP hD hS hl hret
  replace hown : s.vm.findClass R_Tr = some m.cls := hown
  have hl : lv_has ls 2 [(0, .ref (ad 6)), (1, .int a1)] := hl
  rw [f_Tr_left] at hf
  obtain ⟨H, eH⟩ : ∃ H : Heap, H = s.heap := ⟨_, rfl⟩
  obtain ⟨locs, eL⟩ : ∃ L : List Loc, L = [] := ⟨_, rfl⟩
  have hP : va_P (dC, dI) classes (wX ty ad co_rows co_marks co_rowSets co_partners co_open co_count tr_kinds tr_lefts tr_rights tr_seconds tr_size gr_kinds gr_nodes gr_rowSets gr_firstStates gr_targetCounts gr_targets gr_stepScores gr_letterScores gr_size tx_letters tx_length va_scores va_knownEnds hi_begins hi_lengths hi_scores hi_taken hi_count de_states de_begins de_lengths de_length) H := by rw [eH]; exact hP
  have hS : va_S A s.heap H locs := by rw [eH, eL]; exact hS
  rw [← eL]
  suffices hgoal : W p l e rm_Tr_left s m (List.toArray [.ref (ad 6), .int a1]) below meth c H locs 0 0 Q (F0 m 0 ls []) by rw [eH] at hgoal; exact hgoal
  clear eH eL
  refine lv_aload_n hx hb d_Tr_left_0 rfl (lv_at hl 0 rfl) ?_
  refine va_get (D := (dC, dI)) (ci := 2) (v := .ref (ad 8)) (C := R_Tr) (T := F_Tr) (N := 6) hx hb hts iw_Tr hown hK hP 6 rfl rfl 2 (by decide) (hts _ m_109) (fun _ h9 => h9) rfl d_Tr_left_1 ?_
  refine lv_iload_n hx hb d_Tr_left_4 rfl (lv_at hl 1 rfl) ?_
  obtain ⟨hi1, hf⟩ := gdi hf
  refine va_iald hx hb hK hP 8 0 rfl rfl hi1 d_Tr_left_5 ?_
  obtain rfl := os1 hf
  exact hret H locs _ _ _ d_Tr_left_6 rfl hP hS
def f_Co_rowsWith (co_rowSets : (Nat → Int32)) (a1 : Int32) (a2 : Int32) : Option (Int32) := if a1 = (-1 : Int32) then (some ((0 : Int32))) else (gd (xin ((a1 * (4 : Int32)) + a2) 32) (some ((co_rowSets (Int32.toNatClampNeg ((a1 * (4 : Int32)) + a2))))))
set_option maxHeartbeats 4000000 in
set_option maxRecDepth 100000 in
theorem c_Co_rowsWith (l : Launch) (dC : Nat → ClassId) (dI : Nat → Nat → Nat) (ty : Nat → ClassId) (ad : Nat → Nat) (ta : Nat → Nat) (sz : Nat) (co_rows : Int32) (co_marks : (Nat → Int32)) (co_rowSets : (Nat → Int32)) (co_partners : (Nat → Int32)) (co_open : (Nat → Int32)) (co_count : Int32) (tr_kinds : (Nat → Int32)) (tr_lefts : (Nat → Int32)) (tr_rights : (Nat → Int32)) (tr_seconds : (Nat → Int32)) (tr_size : Int32) (gr_kinds : (Nat → Int32)) (gr_nodes : (Nat → Int32)) (gr_rowSets : (Nat → Int32)) (gr_firstStates : (Nat → Int32)) (gr_targetCounts : (Nat → Int32)) (gr_targets : (Nat → Int32)) (gr_stepScores : (Nat → Int32)) (gr_letterScores : (Nat → Int32)) (gr_size : Int32) (tx_letters : (Nat → Int32)) (tx_length : Int32) (va_scores : (Nat → Int32)) (va_knownEnds : Int32) (hi_begins : (Nat → Int32)) (hi_lengths : (Nat → Int32)) (hi_scores : (Nat → Int32)) (hi_taken : (Nat → Int32)) (hi_count : Int32) (de_states : (Nat → Int32)) (de_begins : (Nat → Int32)) (de_lengths : (Nat → Int32)) (de_length : Int32) (a1 : Int32) (a2 : Int32) (r0 : Int32) (hf : f_Co_rowsWith co_rowSets a1 a2 = some (r0)) : Met l y_Co_rowsWith (.code y_Co_rowsWith prog_2_method_10_code 3 (some .int) :: gw) rm_Co_rowsWith (xPre ta (dC, dI) classes (tys3 ty) (wX ty ad co_rows co_marks co_rowSets co_partners co_open co_count tr_kinds tr_lefts tr_rights tr_seconds tr_size gr_kinds gr_nodes gr_rowSets gr_firstStates gr_targetCounts gr_targets gr_stepScores gr_letterScores gr_size tx_letters tx_length va_scores va_knownEnds hi_begins hi_lengths hi_scores hi_taken hi_count de_states de_begins de_lengths de_length) sz [.ref (ad 1), .int a1, .int a2]) (xQi (dC, dI) classes (wX ty ad co_rows co_marks co_rowSets co_partners co_open co_count tr_kinds tr_lefts tr_rights tr_seconds tr_size gr_kinds gr_nodes gr_rowSets gr_firstStates gr_targetCounts gr_targets gr_stepScores gr_letterScores gr_size tx_letters tx_length va_scores va_knownEnds hi_begins hi_lengths hi_scores hi_taken hi_count de_states de_begins de_lengths de_length) (wX ty ad co_rows co_marks co_rowSets co_partners co_open co_count tr_kinds tr_lefts tr_rights tr_seconds tr_size gr_kinds gr_nodes gr_rowSets gr_firstStates gr_targetCounts gr_targets gr_stepScores gr_letterScores gr_size tx_letters tx_length va_scores va_knownEnds hi_begins hi_lengths hi_scores hi_taken hi_count de_states de_begins de_lengths de_length) sz r0) 0 0 (va_A (wX ty ad co_rows co_marks co_rowSets co_partners co_open co_count tr_kinds tr_lefts tr_rights tr_seconds tr_size gr_kinds gr_nodes gr_rowSets gr_firstStates gr_targetCounts gr_targets gr_stepScores gr_letterScores gr_size tx_letters tx_length va_scores va_knownEnds hi_begins hi_lengths hi_scores hi_taken hi_count de_states de_begins de_lengths de_length) sz) := by
  refine xmet_i rfl (Nat.le_of_ble_eq_true rfl) ?_
  intro p e s m below meth c A ls Q hx hb hml hts hown hK hN hA hP hD hS hl hret
  replace hown : s.vm.findClass R_Co = some m.cls := hown
  have hl : lv_has ls 3 [(0, .ref (ad 1)), (1, .int a1), (2, .int a2)] := hl
  rw [f_Co_rowsWith] at hf
  obtain ⟨H, eH⟩ : ∃ H : Heap, H = s.heap := ⟨_, rfl⟩
  obtain ⟨locs, eL⟩ : ∃ L : List Loc, L = [] := ⟨_, rfl⟩
  have hP : va_P (dC, dI) classes (wX ty ad co_rows co_marks co_rowSets co_partners co_open co_count tr_kinds tr_lefts tr_rights tr_seconds tr_size gr_kinds gr_nodes gr_rowSets gr_firstStates gr_targetCounts gr_targets gr_stepScores gr_letterScores gr_size tx_letters tx_length va_scores va_knownEnds hi_begins hi_lengths hi_scores hi_taken hi_count de_states de_begins de_lengths de_length) H := by rw [eH]; exact hP
  have hS : va_S A s.heap H locs := by rw [eH, eL]; exact hS
  rw [← eL]
  suffices hgoal : W p l e rm_Co_rowsWith s m (List.toArray [.ref (ad 1), .int a1, .int a2]) below meth c H locs 0 0 Q (F0 m 0 ls []) by rw [eH] at hgoal; exact hgoal
  clear eH eL
  refine lv_iload_n hx hb d_Co_rowsWith_0 rfl (lv_at hl 1 rfl) ?_
  refine lv_iconst (v := -1) hx hb d_Co_rowsWith_1 (by decide) ?_
  refine lv_icmp_ne (tgt := 9) hx hb d_Co_rowsWith_2 (by decide) (fun c1 => ?_) (fun c1 => ?_)
  · have hf := xif_f c1 hf
    refine lv_aload_n hx hb d_Co_rowsWith_9 rfl (lv_at hl 0 rfl) ?_
    refine va_get (D := (dC, dI)) (ci := 1) (v := .ref (ad 3)) (C := R_Co) (T := F_Co) (N := 6) hx hb hts iw_Co hown hK hP 1 rfl rfl 2 (by decide) (hts _ m_82) (fun _ h9 => h9) rfl d_Co_rowsWith_10 ?_
    refine lv_iload_n hx hb d_Co_rowsWith_13 rfl (lv_at hl 1 rfl) ?_
    refine lv_iconst (v := 4) hx hb d_Co_rowsWith_14 (by decide) ?_
    refine lv_imul hx hb d_Co_rowsWith_15 ?_
    refine lv_iload_n hx hb d_Co_rowsWith_16 rfl (lv_at hl 2 rfl) ?_
    refine lv_iadd hx hb d_Co_rowsWith_17 ?_
    obtain ⟨hi2, hf⟩ := gdi hf
    refine va_iald hx hb hK hP 3 0 rfl rfl hi2 d_Co_rowsWith_18 ?_
    obtain rfl := os1 hf
    exact hret H locs _ _ _ d_Co_rowsWith_19 rfl hP hS
  · have hf := xif_t c1 hf
    refine lv_iconst (v := 0) hx hb d_Co_rowsWith_5 (by decide) ?_
    refine lv_goto (tgt := 19) hx hb d_Co_rowsWith_6 (by decide) ?_
    obtain rfl := os1 hf
    exact hret H locs _ _ _ d_Co_rowsWith_19 rfl hP hS
def f_Co_rowsWithAny_K4_24  (x2_4 : Int32) (x3_4 : Int32) : Option (Int32) := some (x2_4)
def f_Co_rowsWithAny_L4 (co_rowSets : (Nat → Int32)) (a1 : Int32) (k4_24 : (Int32 → Int32 → Option (Int32))) : Nat → Int32 → Int32 → Option (Int32)
  | 0, _, _ => none
  | n4 + 1, x2_4, x3_4 => if (4 : Int32) ≤ x3_4 then (k4_24 x2_4 x3_4) else (ob1 (f_Co_rowsWith co_rowSets a1 x3_4) (fun r2 => (f_Co_rowsWithAny_L4 co_rowSets a1 k4_24 n4) (x2_4 ||| r2) (x3_4 + (1 : Int32))))
def f_Co_rowsWithAny (co_rowSets : (Nat → Int32)) (a1 : Int32) : Option (Int32) := f_Co_rowsWithAny_L4 co_rowSets a1 (f_Co_rowsWithAny_K4_24) 1000 (0 : Int32) (0 : Int32)
set_option maxHeartbeats 4000000 in
set_option maxRecDepth 100000 in
theorem c_Co_rowsWithAny (l : Launch) (dC : Nat → ClassId) (dI : Nat → Nat → Nat) (ty : Nat → ClassId) (ad : Nat → Nat) (ta : Nat → Nat) (sz : Nat) (co_rows : Int32) (co_marks : (Nat → Int32)) (co_rowSets : (Nat → Int32)) (co_partners : (Nat → Int32)) (co_open : (Nat → Int32)) (co_count : Int32) (tr_kinds : (Nat → Int32)) (tr_lefts : (Nat → Int32)) (tr_rights : (Nat → Int32)) (tr_seconds : (Nat → Int32)) (tr_size : Int32) (gr_kinds : (Nat → Int32)) (gr_nodes : (Nat → Int32)) (gr_rowSets : (Nat → Int32)) (gr_firstStates : (Nat → Int32)) (gr_targetCounts : (Nat → Int32)) (gr_targets : (Nat → Int32)) (gr_stepScores : (Nat → Int32)) (gr_letterScores : (Nat → Int32)) (gr_size : Int32) (tx_letters : (Nat → Int32)) (tx_length : Int32) (va_scores : (Nat → Int32)) (va_knownEnds : Int32) (hi_begins : (Nat → Int32)) (hi_lengths : (Nat → Int32)) (hi_scores : (Nat → Int32)) (hi_taken : (Nat → Int32)) (hi_count : Int32) (de_states : (Nat → Int32)) (de_begins : (Nat → Int32)) (de_lengths : (Nat → Int32)) (de_length : Int32) (a1 : Int32) (r0 : Int32) (hf : f_Co_rowsWithAny co_rowSets a1 = some (r0)) : Met l y_Co_rowsWithAny (.code y_Co_rowsWithAny prog_2_method_11_code 4 (some .int) :: gw) rm_Co_rowsWithAny (xPre ta (dC, dI) classes (tys3 ty) (wX ty ad co_rows co_marks co_rowSets co_partners co_open co_count tr_kinds tr_lefts tr_rights tr_seconds tr_size gr_kinds gr_nodes gr_rowSets gr_firstStates gr_targetCounts gr_targets gr_stepScores gr_letterScores gr_size tx_letters tx_length va_scores va_knownEnds hi_begins hi_lengths hi_scores hi_taken hi_count de_states de_begins de_lengths de_length) sz [.ref (ad 1), .int a1]) (xQi (dC, dI) classes (wX ty ad co_rows co_marks co_rowSets co_partners co_open co_count tr_kinds tr_lefts tr_rights tr_seconds tr_size gr_kinds gr_nodes gr_rowSets gr_firstStates gr_targetCounts gr_targets gr_stepScores gr_letterScores gr_size tx_letters tx_length va_scores va_knownEnds hi_begins hi_lengths hi_scores hi_taken hi_count de_states de_begins de_lengths de_length) (wX ty ad co_rows co_marks co_rowSets co_partners co_open co_count tr_kinds tr_lefts tr_rights tr_seconds tr_size gr_kinds gr_nodes gr_rowSets gr_firstStates gr_targetCounts gr_targets gr_stepScores gr_letterScores gr_size tx_letters tx_length va_scores va_knownEnds hi_begins hi_lengths hi_scores hi_taken hi_count de_states de_begins de_lengths de_length) sz r0) 0 0 (va_A (wX ty ad co_rows co_marks co_rowSets co_partners co_open co_count tr_kinds tr_lefts tr_rights tr_seconds tr_size gr_kinds gr_nodes gr_rowSets gr_firstStates gr_targetCounts gr_targets gr_stepScores gr_letterScores gr_size tx_letters tx_length va_scores va_knownEnds hi_begins hi_lengths hi_scores hi_taken hi_count de_states de_begins de_lengths de_length) sz) := by
  refine xmet_i rfl (Nat.le_of_ble_eq_true rfl) ?_
  intro p e s m below meth c A ls Q hx hb hml hts hown hK hN hA hP hD hS hl hret
  replace hown : s.vm.findClass R_Co = some m.cls := hown
  have hl : lv_has ls 4 [(0, .ref (ad 1)), (1, .int a1)] := hl
  rw [f_Co_rowsWithAny] at hf
  obtain ⟨H, eH⟩ : ∃ H : Heap, H = s.heap := ⟨_, rfl⟩
  obtain ⟨locs, eL⟩ : ∃ L : List Loc, L = [] := ⟨_, rfl⟩
  have hP : va_P (dC, dI) classes (wX ty ad co_rows co_marks co_rowSets co_partners co_open co_count tr_kinds tr_lefts tr_rights tr_seconds tr_size gr_kinds gr_nodes gr_rowSets gr_firstStates gr_targetCounts gr_targets gr_stepScores gr_letterScores gr_size tx_letters tx_length va_scores va_knownEnds hi_begins hi_lengths hi_scores hi_taken hi_count de_states de_begins de_lengths de_length) H := by rw [eH]; exact hP
  have hS : va_S A s.heap H locs := by rw [eH, eL]; exact hS
  rw [← eL]
  suffices hgoal : W p l e rm_Co_rowsWithAny s m (List.toArray [.ref (ad 1), .int a1]) below meth c H locs 0 0 Q (F0 m 0 ls []) by rw [eH] at hgoal; exact hgoal
  clear eH eL
  refine lv_iconst (v := 0) hx hb d_Co_rowsWithAny_0 (by decide) ?_
  refine lv_istore_n (lv' := [(2, .int (0 : Int32)), (0, .ref (ad 1)), (1, .int a1)]) hx hb d_Co_rowsWithAny_1 rfl hl (by decide) rfl (fun ls hl => ?_)
  refine lv_iconst (v := 0) hx hb d_Co_rowsWithAny_2 (by decide) ?_
  refine lv_istore_n (lv' := [(3, .int (0 : Int32)), (2, .int (0 : Int32)), (0, .ref (ad 1)), (1, .int a1)]) hx hb d_Co_rowsWithAny_3 rfl hl (by decide) rfl (fun ls hl => ?_)
  have K4_24 : ∀ (x2_4 : Int32) (x3_4 : Int32) (H : Heap) (locs : List Loc) (ls : Array Slot), va_P (dC, dI) classes (wX ty ad co_rows co_marks co_rowSets co_partners co_open co_count tr_kinds tr_lefts tr_rights tr_seconds tr_size gr_kinds gr_nodes gr_rowSets gr_firstStates gr_targetCounts gr_targets gr_stepScores gr_letterScores gr_size tx_letters tx_length va_scores va_knownEnds hi_begins hi_lengths hi_scores hi_taken hi_count de_states de_begins de_lengths de_length) H → va_D A (wX ty ad co_rows co_marks co_rowSets co_partners co_open co_count tr_kinds tr_lefts tr_rights tr_seconds tr_size gr_kinds gr_nodes gr_rowSets gr_firstStates gr_targetCounts gr_targets gr_stepScores gr_letterScores gr_size tx_letters tx_length va_scores va_knownEnds hi_begins hi_lengths hi_scores hi_taken hi_count de_states de_begins de_lengths de_length) → va_S A s.heap H locs → lv_has ls 4 [(2, .int x2_4)] → f_Co_rowsWithAny_K4_24 x2_4 x3_4 = some (r0) → W p l e rm_Co_rowsWithAny s m (List.toArray [.ref (ad 1), .int a1]) below meth c H locs 0 0 Q (F0 m 24 ls []) := by
    intro x2_4 x3_4 H locs ls hP hD hS hl hf
    rw [f_Co_rowsWithAny_K4_24] at hf
    refine lv_iload_n hx hb d_Co_rowsWithAny_24 rfl (lv_at hl 0 rfl) ?_
    obtain rfl := os1 hf
    exact hret H locs _ _ _ d_Co_rowsWithAny_25 rfl hP hS
  have L4 : ∀ (n4 : Nat), ∀ (x2_4 : Int32) (x3_4 : Int32) (H : Heap) (locs : List Loc) (ls : Array Slot), va_P (dC, dI) classes (wX ty ad co_rows co_marks co_rowSets co_partners co_open co_count tr_kinds tr_lefts tr_rights tr_seconds tr_size gr_kinds gr_nodes gr_rowSets gr_firstStates gr_targetCounts gr_targets gr_stepScores gr_letterScores gr_size tx_letters tx_length va_scores va_knownEnds hi_begins hi_lengths hi_scores hi_taken hi_count de_states de_begins de_lengths de_length) H → va_D A (wX ty ad co_rows co_marks co_rowSets co_partners co_open co_count tr_kinds tr_lefts tr_rights tr_seconds tr_size gr_kinds gr_nodes gr_rowSets gr_firstStates gr_targetCounts gr_targets gr_stepScores gr_letterScores gr_size tx_letters tx_length va_scores va_knownEnds hi_begins hi_lengths hi_scores hi_taken hi_count de_states de_begins de_lengths de_length) → va_S A s.heap H locs → lv_has ls 4 [(0, .ref (ad 1)), (1, .int a1), (2, .int x2_4), (3, .int x3_4)] → f_Co_rowsWithAny_L4 co_rowSets a1 (f_Co_rowsWithAny_K4_24) n4 x2_4 x3_4 = some (r0) → W p l e rm_Co_rowsWithAny s m (List.toArray [.ref (ad 1), .int a1]) below meth c H locs 0 0 Q (F0 m 4 ls []) := by
    intro n4
    induction n4 with
    | zero =>
      intro x2_4 x3_4 H locs ls hP hD hS hl hf
      rw [f_Co_rowsWithAny_L4] at hf
      cases hf
    | succ n4 ih4 =>
      intro x2_4 x3_4 H locs ls hP hD hS hl hf
      rw [f_Co_rowsWithAny_L4] at hf
      refine lv_iload_n hx hb d_Co_rowsWithAny_4 rfl (lv_at hl 3 rfl) ?_
      refine lv_iconst (v := 4) hx hb d_Co_rowsWithAny_5 (by decide) ?_
      refine lv_icmp_ge (tgt := 24) hx hb d_Co_rowsWithAny_6 (by decide) (fun c1 => ?_) (fun c1 => ?_)
      · have hf := xif_t c1 hf
        exact K4_24 x2_4 x3_4 _ _ _ hP hD hS (lv_sub hl [2] rfl) hf
      · have hf := xif_f c1 hf
        refine lv_iload_n hx hb d_Co_rowsWithAny_9 rfl (lv_at hl 2 rfl) ?_
        refine lv_aload_n hx hb d_Co_rowsWithAny_10 rfl (lv_at hl 0 rfl) ?_
        refine lv_iload_n hx hb d_Co_rowsWithAny_11 rfl (lv_at hl 1 rfl) ?_
        refine lv_iload_n hx hb d_Co_rowsWithAny_12 rfl (lv_at hl 3 rfl) ?_
        obtain ⟨r2, hc3, hf⟩ := ob1_inv hf
        refine xk_i (xrunV (C := R_Co) (As := [.int a1, .int x3_4]) (rest := [.int x2_4]) ⟨hx, hb, hml, hown, hts⟩ (c_Co_rowsWith l dC dI ty ad ta H.size co_rows co_marks co_rowSets co_partners co_open co_count tr_kinds tr_lefts tr_rights tr_seconds tr_size gr_kinds gr_nodes gr_rowSets gr_firstStates gr_targetCounts gr_targets gr_stepScores gr_letterScores gr_size tx_letters tx_length va_scores va_knownEnds hi_begins hi_lengths hi_scores hi_taken hi_count de_states de_begins de_lengths de_length a1 x3_4 r2 hc3) z_Co_36 ⟨⟨rfl, rfl⟩, by decide, by decide⟩ hK hP hD hN hS hA (va_recv hK hP (ci := 1) (q0 := 1) rfl rfl) rfl hl.1 rfl (Nat.le_of_ble_eq_true rfl) d_Co_rowsWithAny_13 ⟨Nat.zero_le _, Nat.zero_le _⟩) hS hD rfl hA (fun H locs hP hD hS => ?_)
        refine W.eq (g2 := F0 m 16 ls [.int r2, .int x2_4]) rfl ?_
        refine lv_ior hx hb d_Co_rowsWithAny_16 ?_
        refine lv_istore_n (lv' := [(2, .int (x2_4 ||| r2)), (0, .ref (ad 1)), (1, .int a1), (3, .int x3_4)]) hx hb d_Co_rowsWithAny_17 rfl hl (by decide) rfl (fun ls hl => ?_)
        refine lv_iinc (v := (x3_4 + (1 : Int32))) (lv' := [(3, .int (x3_4 + (1 : Int32))), (2, .int (x2_4 ||| r2)), (0, .ref (ad 1)), (1, .int a1)]) hx hb d_Co_rowsWithAny_18 hl (k := 3) rfl rfl (by decide) rfl (fun ls hl => ?_)
        refine lv_goto (tgt := 4) hx hb d_Co_rowsWithAny_21 (by decide) ?_
        exact ih4 (x2_4 ||| r2) (x3_4 + (1 : Int32)) _ _ _ hP hD hS (lv_sub hl [2, 3, 1, 0] rfl) hf
  exact L4 1000 (0 : Int32) (0 : Int32) _ _ _ hP hD hS (lv_sub hl [2, 3, 1, 0] rfl) hf
def f_Tr_right (tr_rights : (Nat → Int32)) (a1 : Int32) : Option (Int32) := gd (xin a1 18) (some ((tr_rights (Int32.toNatClampNeg a1))))
set_option maxHeartbeats 4000000 in
set_option maxRecDepth 100000 in
theorem c_Tr_right (l : Launch) (dC : Nat → ClassId) (dI : Nat → Nat → Nat) (ty : Nat → ClassId) (ad : Nat → Nat) (ta : Nat → Nat) (sz : Nat) (co_rows : Int32) (co_marks : (Nat → Int32)) (co_rowSets : (Nat → Int32)) (co_partners : (Nat → Int32)) (co_open : (Nat → Int32)) (co_count : Int32) (tr_kinds : (Nat → Int32)) (tr_lefts : (Nat → Int32)) (tr_rights : (Nat → Int32)) (tr_seconds : (Nat → Int32)) (tr_size : Int32) (gr_kinds : (Nat → Int32)) (gr_nodes : (Nat → Int32)) (gr_rowSets : (Nat → Int32)) (gr_firstStates : (Nat → Int32)) (gr_targetCounts : (Nat → Int32)) (gr_targets : (Nat → Int32)) (gr_stepScores : (Nat → Int32)) (gr_letterScores : (Nat → Int32)) (gr_size : Int32) (tx_letters : (Nat → Int32)) (tx_length : Int32) (va_scores : (Nat → Int32)) (va_knownEnds : Int32) (hi_begins : (Nat → Int32)) (hi_lengths : (Nat → Int32)) (hi_scores : (Nat → Int32)) (hi_taken : (Nat → Int32)) (hi_count : Int32) (de_states : (Nat → Int32)) (de_begins : (Nat → Int32)) (de_lengths : (Nat → Int32)) (de_length : Int32) (a1 : Int32) (r0 : Int32) (hf : f_Tr_right tr_rights a1 = some (r0)) : Met l y_Tr_right (.code y_Tr_right prog_7_method_5_code 2 (some .int) :: gw) rm_Tr_right (xPre ta (dC, dI) classes (tys3 ty) (wX ty ad co_rows co_marks co_rowSets co_partners co_open co_count tr_kinds tr_lefts tr_rights tr_seconds tr_size gr_kinds gr_nodes gr_rowSets gr_firstStates gr_targetCounts gr_targets gr_stepScores gr_letterScores gr_size tx_letters tx_length va_scores va_knownEnds hi_begins hi_lengths hi_scores hi_taken hi_count de_states de_begins de_lengths de_length) sz [.ref (ad 6), .int a1]) (xQi (dC, dI) classes (wX ty ad co_rows co_marks co_rowSets co_partners co_open co_count tr_kinds tr_lefts tr_rights tr_seconds tr_size gr_kinds gr_nodes gr_rowSets gr_firstStates gr_targetCounts gr_targets gr_stepScores gr_letterScores gr_size tx_letters tx_length va_scores va_knownEnds hi_begins hi_lengths hi_scores hi_taken hi_count de_states de_begins de_lengths de_length) (wX ty ad co_rows co_marks co_rowSets co_partners co_open co_count tr_kinds tr_lefts tr_rights tr_seconds tr_size gr_kinds gr_nodes gr_rowSets gr_firstStates gr_targetCounts gr_targets gr_stepScores gr_letterScores gr_size tx_letters tx_length va_scores va_knownEnds hi_begins hi_lengths hi_scores hi_taken hi_count de_states de_begins de_lengths de_length) sz r0) 0 0 (va_A (wX ty ad co_rows co_marks co_rowSets co_partners co_open co_count tr_kinds tr_lefts tr_rights tr_seconds tr_size gr_kinds gr_nodes gr_rowSets gr_firstStates gr_targetCounts gr_targets gr_stepScores gr_letterScores gr_size tx_letters tx_length va_scores va_knownEnds hi_begins hi_lengths hi_scores hi_taken hi_count de_states de_begins de_lengths de_length) sz) := by
  refine xmet_i rfl (Nat.le_of_ble_eq_true rfl) ?_
  intro p e s m below meth c A ls Q hx hb hml hts hown hK hN hA hP hD hS hl hret
  replace hown : s.vm.findClass R_Tr = some m.cls := hown
  have hl : lv_has ls 2 [(0, .ref (ad 6)), (1, .int a1)] := hl
  rw [f_Tr_right] at hf
  obtain ⟨H, eH⟩ : ∃ H : Heap, H = s.heap := ⟨_, rfl⟩
  obtain ⟨locs, eL⟩ : ∃ L : List Loc, L = [] := ⟨_, rfl⟩
  have hP : va_P (dC, dI) classes (wX ty ad co_rows co_marks co_rowSets co_partners co_open co_count tr_kinds tr_lefts tr_rights tr_seconds tr_size gr_kinds gr_nodes gr_rowSets gr_firstStates gr_targetCounts gr_targets gr_stepScores gr_letterScores gr_size tx_letters tx_length va_scores va_knownEnds hi_begins hi_lengths hi_scores hi_taken hi_count de_states de_begins de_lengths de_length) H := by rw [eH]; exact hP
  have hS : va_S A s.heap H locs := by rw [eH, eL]; exact hS
  rw [← eL]
  suffices hgoal : W p l e rm_Tr_right s m (List.toArray [.ref (ad 6), .int a1]) below meth c H locs 0 0 Q (F0 m 0 ls []) by rw [eH] at hgoal; exact hgoal
  clear eH eL
  refine lv_aload_n hx hb d_Tr_right_0 rfl (lv_at hl 0 rfl) ?_
  refine va_get (D := (dC, dI)) (ci := 2) (v := .ref (ad 9)) (C := R_Tr) (T := F_Tr) (N := 6) hx hb hts iw_Tr hown hK hP 6 rfl rfl 3 (by decide) (hts _ m_110) (fun _ h9 => h9) rfl d_Tr_right_1 ?_
  refine lv_iload_n hx hb d_Tr_right_4 rfl (lv_at hl 1 rfl) ?_
  obtain ⟨hi1, hf⟩ := gdi hf
  refine va_iald hx hb hK hP 9 0 rfl rfl hi1 d_Tr_right_5 ?_
  obtain rfl := os1 hf
  exact hret H locs _ _ _ d_Tr_right_6 rfl hP hS
def f_Gr_rowsIn (co_rows : Int32) (co_rowSets : (Nat → Int32)) (tr_lefts : (Nat → Int32)) (tr_rights : (Nat → Int32)) (a1 : Int32) (a2 : Int32) : Option (Int32) := ob1 (f_Co_allRows co_rows) (fun r1 => ob1 (f_Tr_left tr_lefts a2) (fun r3 => ob1 (f_Co_rowsWithAny co_rowSets r3) (fun r5 => ob1 (f_Tr_right tr_rights a2) (fun r7 => ob1 (f_Co_rowsWithAny co_rowSets r7) (fun r9 => if a1 = (1 : Int32) then (some ((r5 &&& r9))) else (if a1 = (2 : Int32) then (some ((r5 &&& (r9 ^^^ (-1 : Int32))))) else (if a1 = (3 : Int32) then (some ((r9 &&& (r5 ^^^ (-1 : Int32))))) else (if a1 = (4 : Int32) then (some (((r1 &&& (r5 ^^^ (-1 : Int32))) &&& (r9 ^^^ (-1 : Int32))))) else (if a1 = (5 : Int32) then (some ((0 : Int32))) else (if a1 = (6 : Int32) then (some ((0 : Int32))) else (some (r1))))))))))))
set_option maxHeartbeats 4000000 in
set_option maxRecDepth 100000 in
theorem c_Gr_rowsIn (l : Launch) (dC : Nat → ClassId) (dI : Nat → Nat → Nat) (ty : Nat → ClassId) (ad : Nat → Nat) (ta : Nat → Nat) (sz : Nat) (co_rows : Int32) (co_marks : (Nat → Int32)) (co_rowSets : (Nat → Int32)) (co_partners : (Nat → Int32)) (co_open : (Nat → Int32)) (co_count : Int32) (tr_kinds : (Nat → Int32)) (tr_lefts : (Nat → Int32)) (tr_rights : (Nat → Int32)) (tr_seconds : (Nat → Int32)) (tr_size : Int32) (gr_kinds : (Nat → Int32)) (gr_nodes : (Nat → Int32)) (gr_rowSets : (Nat → Int32)) (gr_firstStates : (Nat → Int32)) (gr_targetCounts : (Nat → Int32)) (gr_targets : (Nat → Int32)) (gr_stepScores : (Nat → Int32)) (gr_letterScores : (Nat → Int32)) (gr_size : Int32) (tx_letters : (Nat → Int32)) (tx_length : Int32) (va_scores : (Nat → Int32)) (va_knownEnds : Int32) (hi_begins : (Nat → Int32)) (hi_lengths : (Nat → Int32)) (hi_scores : (Nat → Int32)) (hi_taken : (Nat → Int32)) (hi_count : Int32) (de_states : (Nat → Int32)) (de_begins : (Nat → Int32)) (de_lengths : (Nat → Int32)) (de_length : Int32) (a1 : Int32) (a2 : Int32) (r0 : Int32) (hf : f_Gr_rowsIn co_rows co_rowSets tr_lefts tr_rights a1 a2 = some (r0)) : Met l y_Gr_rowsIn (.code y_Gr_rowsIn prog_4_method_14_code 6 (some .int) :: gw) rm_Gr_rowsIn (xPre ta (dC, dI) classes (tys3 ty) (wX ty ad co_rows co_marks co_rowSets co_partners co_open co_count tr_kinds tr_lefts tr_rights tr_seconds tr_size gr_kinds gr_nodes gr_rowSets gr_firstStates gr_targetCounts gr_targets gr_stepScores gr_letterScores gr_size tx_letters tx_length va_scores va_knownEnds hi_begins hi_lengths hi_scores hi_taken hi_count de_states de_begins de_lengths de_length) sz [.ref (ad 11), .int a1, .int a2]) (xQi (dC, dI) classes (wX ty ad co_rows co_marks co_rowSets co_partners co_open co_count tr_kinds tr_lefts tr_rights tr_seconds tr_size gr_kinds gr_nodes gr_rowSets gr_firstStates gr_targetCounts gr_targets gr_stepScores gr_letterScores gr_size tx_letters tx_length va_scores va_knownEnds hi_begins hi_lengths hi_scores hi_taken hi_count de_states de_begins de_lengths de_length) (wX ty ad co_rows co_marks co_rowSets co_partners co_open co_count tr_kinds tr_lefts tr_rights tr_seconds tr_size gr_kinds gr_nodes gr_rowSets gr_firstStates gr_targetCounts gr_targets gr_stepScores gr_letterScores gr_size tx_letters tx_length va_scores va_knownEnds hi_begins hi_lengths hi_scores hi_taken hi_count de_states de_begins de_lengths de_length) sz r0) 0 0 (va_A (wX ty ad co_rows co_marks co_rowSets co_partners co_open co_count tr_kinds tr_lefts tr_rights tr_seconds tr_size gr_kinds gr_nodes gr_rowSets gr_firstStates gr_targetCounts gr_targets gr_stepScores gr_letterScores gr_size tx_letters tx_length va_scores va_knownEnds hi_begins hi_lengths hi_scores hi_taken hi_count de_states de_begins de_lengths de_length) sz) := by
  refine xmet_i rfl (Nat.le_of_ble_eq_true rfl) ?_
  intro p e s m below meth c A ls Q hx hb hml hts hown hK hN hA hP hD hS hl hret
  replace hown : s.vm.findClass R_Gr = some m.cls := hown
  have hl : lv_has ls 6 [(0, .ref (ad 11)), (1, .int a1), (2, .int a2)] := hl
  rw [f_Gr_rowsIn] at hf
  obtain ⟨H, eH⟩ : ∃ H : Heap, H = s.heap := ⟨_, rfl⟩
  obtain ⟨locs, eL⟩ : ∃ L : List Loc, L = [] := ⟨_, rfl⟩
  have hP : va_P (dC, dI) classes (wX ty ad co_rows co_marks co_rowSets co_partners co_open co_count tr_kinds tr_lefts tr_rights tr_seconds tr_size gr_kinds gr_nodes gr_rowSets gr_firstStates gr_targetCounts gr_targets gr_stepScores gr_letterScores gr_size tx_letters tx_length va_scores va_knownEnds hi_begins hi_lengths hi_scores hi_taken hi_count de_states de_begins de_lengths de_length) H := by rw [eH]; exact hP
  have hS : va_S A s.heap H locs := by rw [eH, eL]; exact hS
  rw [← eL]
  suffices hgoal : W p l e rm_Gr_rowsIn s m (List.toArray [.ref (ad 11), .int a1, .int a2]) below meth c H locs 0 0 Q (F0 m 0 ls []) by rw [eH] at hgoal; exact hgoal
  clear eH eL
  refine lv_aload_n hx hb d_Gr_rowsIn_0 rfl (lv_at hl 0 rfl) ?_
  refine va_get (D := (dC, dI)) (ci := 3) (v := .ref (ad 1)) (C := R_Gr) (T := F_Gr) (N := 11) hx hb hts iw_Gr hown hK hP 11 rfl rfl 0 (by decide) (hts _ m_132) (fun _ h9 => h9) rfl d_Gr_rowsIn_1 ?_
  obtain ⟨r1, hc2, hf⟩ := ob1_inv hf
  refine xk_i (xrunV (C := R_Co) (As := []) (rest := []) ⟨hx, hb, hml, hown, hts⟩ (c_Co_allRows l dC dI ty ad ta H.size co_rows co_marks co_rowSets co_partners co_open co_count tr_kinds tr_lefts tr_rights tr_seconds tr_size gr_kinds gr_nodes gr_rowSets gr_firstStates gr_targetCounts gr_targets gr_stepScores gr_letterScores gr_size tx_letters tx_length va_scores va_knownEnds hi_begins hi_lengths hi_scores hi_taken hi_count de_states de_begins de_lengths de_length  r1 hc2) z_Gr_82 ⟨⟨rfl, rfl⟩, by decide, by decide⟩ hK hP hD hN hS hA (va_recv hK hP (ci := 1) (q0 := 1) rfl rfl) rfl hl.1 rfl (Nat.le_of_ble_eq_true rfl) d_Gr_rowsIn_4 ⟨Nat.zero_le _, Nat.zero_le _⟩) hS hD rfl hA (fun H locs hP hD hS => ?_)
  refine W.eq (g2 := F0 m 7 ls [.int r1]) rfl ?_
  refine lv_istore_n (lv' := [(3, .int r1), (0, .ref (ad 11)), (1, .int a1), (2, .int a2)]) hx hb d_Gr_rowsIn_7 rfl hl (by decide) rfl (fun ls hl => ?_)
  refine lv_aload_n hx hb d_Gr_rowsIn_8 rfl (lv_at hl 1 rfl) ?_
  refine va_get (D := (dC, dI)) (ci := 3) (v := .ref (ad 1)) (C := R_Gr) (T := F_Gr) (N := 11) hx hb hts iw_Gr hown hK hP 11 rfl rfl 0 (by decide) (hts _ m_132) (fun _ h9 => h9) rfl d_Gr_rowsIn_9 ?_
  refine lv_aload_n hx hb d_Gr_rowsIn_12 rfl (lv_at hl 1 rfl) ?_
  refine va_get (D := (dC, dI)) (ci := 3) (v := .ref (ad 6)) (C := R_Gr) (T := F_Gr) (N := 11) hx hb hts iw_Gr hown hK hP 11 rfl rfl 1 (by decide) (hts _ m_133) (fun _ h9 => h9) rfl d_Gr_rowsIn_13 ?_
  refine lv_iload_n hx hb d_Gr_rowsIn_16 rfl (lv_at hl 3 rfl) ?_
  obtain ⟨r3, hc4, hf⟩ := ob1_inv hf
  refine xk_i (xrunV (C := R_Tr) (As := [.int a2]) (rest := [.ref (ad 1)]) ⟨hx, hb, hml, hown, hts⟩ (c_Tr_left l dC dI ty ad ta H.size co_rows co_marks co_rowSets co_partners co_open co_count tr_kinds tr_lefts tr_rights tr_seconds tr_size gr_kinds gr_nodes gr_rowSets gr_firstStates gr_targetCounts gr_targets gr_stepScores gr_letterScores gr_size tx_letters tx_length va_scores va_knownEnds hi_begins hi_lengths hi_scores hi_taken hi_count de_states de_begins de_lengths de_length a2 r3 hc4) z_Gr_87 ⟨⟨rfl, rfl⟩, by decide, by decide⟩ hK hP hD hN hS hA (va_recv hK hP (ci := 2) (q0 := 6) rfl rfl) rfl hl.1 rfl (Nat.le_of_ble_eq_true rfl) d_Gr_rowsIn_17 ⟨Nat.zero_le _, Nat.zero_le _⟩) hS hD rfl hA (fun H locs hP hD hS => ?_)
  refine W.eq (g2 := F0 m 20 ls [.int r3, .ref (ad 1)]) rfl ?_
  obtain ⟨r5, hc6, hf⟩ := ob1_inv hf
  refine xk_i (xrunV (C := R_Co) (As := [.int r3]) (rest := []) ⟨hx, hb, hml, hown, hts⟩ (c_Co_rowsWithAny l dC dI ty ad ta H.size co_rows co_marks co_rowSets co_partners co_open co_count tr_kinds tr_lefts tr_rights tr_seconds tr_size gr_kinds gr_nodes gr_rowSets gr_firstStates gr_targetCounts gr_targets gr_stepScores gr_letterScores gr_size tx_letters tx_length va_scores va_knownEnds hi_begins hi_lengths hi_scores hi_taken hi_count de_states de_begins de_lengths de_length r3 r5 hc6) z_Gr_90 ⟨⟨rfl, rfl⟩, by decide, by decide⟩ hK hP hD hN hS hA (va_recv hK hP (ci := 1) (q0 := 1) rfl rfl) rfl hl.1 rfl (Nat.le_of_ble_eq_true rfl) d_Gr_rowsIn_20 ⟨Nat.zero_le _, Nat.zero_le _⟩) hS hD rfl hA (fun H locs hP hD hS => ?_)
  refine W.eq (g2 := F0 m 23 ls [.int r5]) rfl ?_
  refine lv_istore (lv' := [(4, .int r5), (3, .int r1), (0, .ref (ad 11)), (1, .int a1), (2, .int a2)]) hx hb d_Gr_rowsIn_23 hl (by decide) rfl (fun ls hl => ?_)
  refine lv_aload_n hx hb d_Gr_rowsIn_25 rfl (lv_at hl 2 rfl) ?_
  refine va_get (D := (dC, dI)) (ci := 3) (v := .ref (ad 1)) (C := R_Gr) (T := F_Gr) (N := 11) hx hb hts iw_Gr hown hK hP 11 rfl rfl 0 (by decide) (hts _ m_132) (fun _ h9 => h9) rfl d_Gr_rowsIn_26 ?_
  refine lv_aload_n hx hb d_Gr_rowsIn_29 rfl (lv_at hl 2 rfl) ?_
  refine va_get (D := (dC, dI)) (ci := 3) (v := .ref (ad 6)) (C := R_Gr) (T := F_Gr) (N := 11) hx hb hts iw_Gr hown hK hP 11 rfl rfl 1 (by decide) (hts _ m_133) (fun _ h9 => h9) rfl d_Gr_rowsIn_30 ?_
  refine lv_iload_n hx hb d_Gr_rowsIn_33 rfl (lv_at hl 4 rfl) ?_
  obtain ⟨r7, hc8, hf⟩ := ob1_inv hf
  refine xk_i (xrunV (C := R_Tr) (As := [.int a2]) (rest := [.ref (ad 1)]) ⟨hx, hb, hml, hown, hts⟩ (c_Tr_right l dC dI ty ad ta H.size co_rows co_marks co_rowSets co_partners co_open co_count tr_kinds tr_lefts tr_rights tr_seconds tr_size gr_kinds gr_nodes gr_rowSets gr_firstStates gr_targetCounts gr_targets gr_stepScores gr_letterScores gr_size tx_letters tx_length va_scores va_knownEnds hi_begins hi_lengths hi_scores hi_taken hi_count de_states de_begins de_lengths de_length a2 r7 hc8) z_Gr_93 ⟨⟨rfl, rfl⟩, by decide, by decide⟩ hK hP hD hN hS hA (va_recv hK hP (ci := 2) (q0 := 6) rfl rfl) rfl hl.1 rfl (Nat.le_of_ble_eq_true rfl) d_Gr_rowsIn_34 ⟨Nat.zero_le _, Nat.zero_le _⟩) hS hD rfl hA (fun H locs hP hD hS => ?_)
  refine W.eq (g2 := F0 m 37 ls [.int r7, .ref (ad 1)]) rfl ?_
  obtain ⟨r9, hc10, hf⟩ := ob1_inv hf
  refine xk_i (xrunV (C := R_Co) (As := [.int r7]) (rest := []) ⟨hx, hb, hml, hown, hts⟩ (c_Co_rowsWithAny l dC dI ty ad ta H.size co_rows co_marks co_rowSets co_partners co_open co_count tr_kinds tr_lefts tr_rights tr_seconds tr_size gr_kinds gr_nodes gr_rowSets gr_firstStates gr_targetCounts gr_targets gr_stepScores gr_letterScores gr_size tx_letters tx_length va_scores va_knownEnds hi_begins hi_lengths hi_scores hi_taken hi_count de_states de_begins de_lengths de_length r7 r9 hc10) z_Gr_90 ⟨⟨rfl, rfl⟩, by decide, by decide⟩ hK hP hD hN hS hA (va_recv hK hP (ci := 1) (q0 := 1) rfl rfl) rfl hl.1 rfl (Nat.le_of_ble_eq_true rfl) d_Gr_rowsIn_37 ⟨Nat.zero_le _, Nat.zero_le _⟩) hS hD rfl hA (fun H locs hP hD hS => ?_)
  refine W.eq (g2 := F0 m 40 ls [.int r9]) rfl ?_
  refine lv_istore (lv' := [(5, .int r9), (4, .int r5), (3, .int r1), (0, .ref (ad 11)), (1, .int a1), (2, .int a2)]) hx hb d_Gr_rowsIn_40 hl (by decide) rfl (fun ls hl => ?_)
  refine lv_iload_n hx hb d_Gr_rowsIn_42 rfl (lv_at hl 4 rfl) ?_
  by_cases c11 : a1 = (1 : Int32)
  · have hf := xif_t c11 hf
    refine lv_tableIn (off := 37) (tgt := 80) hx hb d_Gr_rowsIn_43 (by rw [c11]; decide) (by rw [c11]; decide) (by rw [c11]; rfl) (by decide) ?_
    refine lv_iload hx hb d_Gr_rowsIn_80 (lv_at hl 1 rfl) ?_
    refine lv_iload hx hb d_Gr_rowsIn_82 (lv_at hl 0 rfl) ?_
    refine lv_iand hx hb d_Gr_rowsIn_84 ?_
    obtain rfl := os1 hf
    exact hret H locs _ _ _ d_Gr_rowsIn_85 rfl hP hS
  · have hf := xif_f c11 hf
    by_cases c12 : a1 = (2 : Int32)
    · have hf := xif_t c12 hf
      refine lv_tableIn (off := 43) (tgt := 86) hx hb d_Gr_rowsIn_43 (by rw [c12]; decide) (by rw [c12]; decide) (by rw [c12]; rfl) (by decide) ?_
      refine lv_iload hx hb d_Gr_rowsIn_86 (lv_at hl 1 rfl) ?_
      refine lv_iload hx hb d_Gr_rowsIn_88 (lv_at hl 0 rfl) ?_
      refine lv_iconst (v := -1) hx hb d_Gr_rowsIn_90 (by decide) ?_
      refine lv_ixor hx hb d_Gr_rowsIn_91 ?_
      refine lv_iand hx hb d_Gr_rowsIn_92 ?_
      obtain rfl := os1 hf
      exact hret H locs _ _ _ d_Gr_rowsIn_93 rfl hP hS
    · have hf := xif_f c12 hf
      by_cases c13 : a1 = (3 : Int32)
      · have hf := xif_t c13 hf
        refine lv_tableIn (off := 51) (tgt := 94) hx hb d_Gr_rowsIn_43 (by rw [c13]; decide) (by rw [c13]; decide) (by rw [c13]; rfl) (by decide) ?_
        refine lv_iload hx hb d_Gr_rowsIn_94 (lv_at hl 0 rfl) ?_
        refine lv_iload hx hb d_Gr_rowsIn_96 (lv_at hl 1 rfl) ?_
        refine lv_iconst (v := -1) hx hb d_Gr_rowsIn_98 (by decide) ?_
        refine lv_ixor hx hb d_Gr_rowsIn_99 ?_
        refine lv_iand hx hb d_Gr_rowsIn_100 ?_
        obtain rfl := os1 hf
        exact hret H locs _ _ _ d_Gr_rowsIn_101 rfl hP hS
      · have hf := xif_f c13 hf
        by_cases c14 : a1 = (4 : Int32)
        · have hf := xif_t c14 hf
          refine lv_tableIn (off := 59) (tgt := 102) hx hb d_Gr_rowsIn_43 (by rw [c14]; decide) (by rw [c14]; decide) (by rw [c14]; rfl) (by decide) ?_
          refine lv_iload_n hx hb d_Gr_rowsIn_102 rfl (lv_at hl 2 rfl) ?_
          refine lv_iload hx hb d_Gr_rowsIn_103 (lv_at hl 1 rfl) ?_
          refine lv_iconst (v := -1) hx hb d_Gr_rowsIn_105 (by decide) ?_
          refine lv_ixor hx hb d_Gr_rowsIn_106 ?_
          refine lv_iand hx hb d_Gr_rowsIn_107 ?_
          refine lv_iload hx hb d_Gr_rowsIn_108 (lv_at hl 0 rfl) ?_
          refine lv_iconst (v := -1) hx hb d_Gr_rowsIn_110 (by decide) ?_
          refine lv_ixor hx hb d_Gr_rowsIn_111 ?_
          refine lv_iand hx hb d_Gr_rowsIn_112 ?_
          obtain rfl := os1 hf
          exact hret H locs _ _ _ d_Gr_rowsIn_113 rfl hP hS
        · have hf := xif_f c14 hf
          by_cases c15 : a1 = (5 : Int32)
          · have hf := xif_t c15 hf
            refine lv_tableIn (off := 71) (tgt := 114) hx hb d_Gr_rowsIn_43 (by rw [c15]; decide) (by rw [c15]; decide) (by rw [c15]; rfl) (by decide) ?_
            refine lv_iconst (v := 0) hx hb d_Gr_rowsIn_114 (by decide) ?_
            obtain rfl := os1 hf
            exact hret H locs _ _ _ d_Gr_rowsIn_115 rfl hP hS
          · have hf := xif_f c15 hf
            by_cases c16 : a1 = (6 : Int32)
            · have hf := xif_t c16 hf
              refine lv_tableIn (off := 71) (tgt := 114) hx hb d_Gr_rowsIn_43 (by rw [c16]; decide) (by rw [c16]; decide) (by rw [c16]; rfl) (by decide) ?_
              refine lv_iconst (v := 0) hx hb d_Gr_rowsIn_114 (by decide) ?_
              obtain rfl := os1 hf
              exact hret H locs _ _ _ d_Gr_rowsIn_115 rfl hP hS
            · have hf := xif_f c16 hf
              have qc11 := lv_neT (a := 1) c11 rfl
              have qc12 := lv_neT (a := 2) c12 rfl
              have qc13 := lv_neT (a := 3) c13 rfl
              have qc14 := lv_neT (a := 4) c14 rfl
              have qc15 := lv_neT (a := 5) c15 rfl
              have qc16 := lv_neT (a := 6) c16 rfl
              refine lv_tableOut (tgt := 116) hx hb d_Gr_rowsIn_43 (by omega) (by decide) ?_
              refine lv_iload_n hx hb d_Gr_rowsIn_116 rfl (lv_at hl 2 rfl) ?_
              obtain rfl := os1 hf
              exact hret H locs _ _ _ d_Gr_rowsIn_117 rfl hP hS
