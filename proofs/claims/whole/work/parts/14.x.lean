/-! pure functions and contracts of Gr_targetOf, Fa_eighthPower, Fa_log, Gr_scoreSteps, Fa_lettersBefore, Fa_lettersBehind, Fa_lettersOf, Gr_rowsWithLetters (written by wip/gen) -/
def f_Gr_targetOf (gr_targets : (Nat → Int32)) (a1 : Int32) (a2 : Int32) : Option (Int32) := gd (xin ((a1 * (6 : Int32)) + a2) 258) (some ((gr_targets (Int32.toNatClampNeg ((a1 * (6 : Int32)) + a2)))))
set_option maxHeartbeats 4000000 in
set_option maxRecDepth 100000 in
theorem c_Gr_targetOf (l : Launch) (dC : Nat → ClassId) (dI : Nat → Nat → Nat) (ty : Nat → ClassId) (ad : Nat → Nat) (ta : Nat → Nat) (sz : Nat) (co_rows : Int32) (co_marks : (Nat → Int32)) (co_rowSets : (Nat → Int32)) (co_partners : (Nat → Int32)) (co_open : (Nat → Int32)) (co_count : Int32) (tr_kinds : (Nat → Int32)) (tr_lefts : (Nat → Int32)) (tr_rights : (Nat → Int32)) (tr_seconds : (Nat → Int32)) (tr_size : Int32) (gr_kinds : (Nat → Int32)) (gr_nodes : (Nat → Int32)) (gr_rowSets : (Nat → Int32)) (gr_firstStates : (Nat → Int32)) (gr_targetCounts : (Nat → Int32)) (gr_targets : (Nat → Int32)) (gr_stepScores : (Nat → Int32)) (gr_letterScores : (Nat → Int32)) (gr_size : Int32) (tx_letters : (Nat → Int32)) (tx_length : Int32) (va_scores : (Nat → Int32)) (va_knownEnds : Int32) (hi_begins : (Nat → Int32)) (hi_lengths : (Nat → Int32)) (hi_scores : (Nat → Int32)) (hi_taken : (Nat → Int32)) (hi_count : Int32) (de_states : (Nat → Int32)) (de_begins : (Nat → Int32)) (de_lengths : (Nat → Int32)) (de_length : Int32) (a1 : Int32) (a2 : Int32) (r0 : Int32) (hf : f_Gr_targetOf gr_targets a1 a2 = some (r0)) : Met l y_Gr_targetOf (.code y_Gr_targetOf prog_4_method_9_code 3 (some .int) :: gw) rm_Gr_targetOf (xPre ta (dC, dI) classes (tys3 ty) (wX ty ad co_rows co_marks co_rowSets co_partners co_open co_count tr_kinds tr_lefts tr_rights tr_seconds tr_size gr_kinds gr_nodes gr_rowSets gr_firstStates gr_targetCounts gr_targets gr_stepScores gr_letterScores gr_size tx_letters tx_length va_scores va_knownEnds hi_begins hi_lengths hi_scores hi_taken hi_count de_states de_begins de_lengths de_length) sz [.ref (ad 11), .int a1, .int a2]) (xQi (dC, dI) classes (wX ty ad co_rows co_marks co_rowSets co_partners co_open co_count tr_kinds tr_lefts tr_rights tr_seconds tr_size gr_kinds gr_nodes gr_rowSets gr_firstStates gr_targetCounts gr_targets gr_stepScores gr_letterScores gr_size tx_letters tx_length va_scores va_knownEnds hi_begins hi_lengths hi_scores hi_taken hi_count de_states de_begins de_lengths de_length) (wX ty ad co_rows co_marks co_rowSets co_partners co_open co_count tr_kinds tr_lefts tr_rights tr_seconds tr_size gr_kinds gr_nodes gr_rowSets gr_firstStates gr_targetCounts gr_targets gr_stepScores gr_letterScores gr_size tx_letters tx_length va_scores va_knownEnds hi_begins hi_lengths hi_scores hi_taken hi_count de_states de_begins de_lengths de_length) sz r0) 0 0 (va_A (wX ty ad co_rows co_marks co_rowSets co_partners co_open co_count tr_kinds tr_lefts tr_rights tr_seconds tr_size gr_kinds gr_nodes gr_rowSets gr_firstStates gr_targetCounts gr_targets gr_stepScores gr_letterScores gr_size tx_letters tx_length va_scores va_knownEnds hi_begins hi_lengths hi_scores hi_taken hi_count de_states de_begins de_lengths de_length) sz) := by
  refine xmet_i rfl (Nat.le_of_ble_eq_true rfl) ?_
  intro p e s m below meth c A ls Q hx hb hml hts hown hK hN hA hP hD hS hl hret
  replace hown : s.vm.findClass R_Gr = some m.cls := hown
  have hl : lv_has ls 3 [(0, .ref (ad 11)), (1, .int a1), (2, .int a2)] := hl
  rw [f_Gr_targetOf] at hf
  obtain ⟨H, eH⟩ : ∃ H : Heap, H = s.heap := ⟨_, rfl⟩
  obtain ⟨locs, eL⟩ : ∃ L : List Loc, L = [] := ⟨_, rfl⟩
  have hP : va_P (dC, dI) classes (wX ty ad co_rows co_marks co_rowSets co_partners co_open co_count tr_kinds tr_lefts tr_rights tr_seconds tr_size gr_kinds gr_nodes gr_rowSets gr_firstStates gr_targetCounts gr_targets gr_stepScores gr_letterScores gr_size tx_letters tx_length va_scores va_knownEnds hi_begins hi_lengths hi_scores hi_taken hi_count de_states de_begins de_lengths de_length) H := by rw [eH]; exact hP
  have hS : va_S A s.heap H locs := by rw [eH, eL]; exact hS
  rw [← eL]
  suffices hgoal : W p l e rm_Gr_targetOf s m (List.toArray [.ref (ad 11), .int a1, .int a2]) below meth c H locs 0 0 Q (F0 m 0 ls []) by rw [eH] at hgoal; exact hgoal
  clear eH eL
  refine lv_aload_n hx hb d_Gr_targetOf_0 rfl (lv_at hl 0 rfl) ?_
  refine va_get (D := (dC, dI)) (ci := 3) (v := .ref (ad 17)) (C := R_Gr) (T := F_Gr) (N := 11) hx hb hts iw_Gr hown hK hP 11 rfl rfl 7 (by decide) (hts _ m_139) (fun _ h9 => h9) rfl d_Gr_targetOf_1 ?_
  refine lv_iload_n hx hb d_Gr_targetOf_4 rfl (lv_at hl 1 rfl) ?_
  refine lv_bipush (v := 6) hx hb d_Gr_targetOf_5 (by decide) ?_
  refine lv_imul hx hb d_Gr_targetOf_7 ?_
  refine lv_iload_n hx hb d_Gr_targetOf_8 rfl (lv_at hl 2 rfl) ?_
  refine lv_iadd hx hb d_Gr_targetOf_9 ?_
  obtain ⟨hi1, hf⟩ := gdi hf
  refine va_iald hx hb hK hP 17 0 rfl rfl hi1 d_Gr_targetOf_10 ?_
  obtain rfl := os1 hf
  exact hret H locs _ _ _ d_Gr_targetOf_11 rfl hP hS
def f_Fa_eighthPower (a1 : Int32) : Option (Int64) := some (((((Int32.toInt64 a1) * (Int32.toInt64 a1)) * ((Int32.toInt64 a1) * (Int32.toInt64 a1))) * (((Int32.toInt64 a1) * (Int32.toInt64 a1)) * ((Int32.toInt64 a1) * (Int32.toInt64 a1)))))
set_option maxHeartbeats 4000000 in
set_option maxRecDepth 100000 in
theorem c_Fa_eighthPower (l : Launch) (dC : Nat → ClassId) (dI : Nat → Nat → Nat) (ty : Nat → ClassId) (ad : Nat → Nat) (ta : Nat → Nat) (sz : Nat) (co_rows : Int32) (co_marks : (Nat → Int32)) (co_rowSets : (Nat → Int32)) (co_partners : (Nat → Int32)) (co_open : (Nat → Int32)) (co_count : Int32) (tr_kinds : (Nat → Int32)) (tr_lefts : (Nat → Int32)) (tr_rights : (Nat → Int32)) (tr_seconds : (Nat → Int32)) (tr_size : Int32) (gr_kinds : (Nat → Int32)) (gr_nodes : (Nat → Int32)) (gr_rowSets : (Nat → Int32)) (gr_firstStates : (Nat → Int32)) (gr_targetCounts : (Nat → Int32)) (gr_targets : (Nat → Int32)) (gr_stepScores : (Nat → Int32)) (gr_letterScores : (Nat → Int32)) (gr_size : Int32) (tx_letters : (Nat → Int32)) (tx_length : Int32) (va_scores : (Nat → Int32)) (va_knownEnds : Int32) (hi_begins : (Nat → Int32)) (hi_lengths : (Nat → Int32)) (hi_scores : (Nat → Int32)) (hi_taken : (Nat → Int32)) (hi_count : Int32) (de_states : (Nat → Int32)) (de_begins : (Nat → Int32)) (de_lengths : (Nat → Int32)) (de_length : Int32) (a1 : Int32) (r0 : Int64) (hf : f_Fa_eighthPower a1 = some (r0)) : Met l y_Fa_eighthPower (.code y_Fa_eighthPower prog_1_method_25_code 5 (some .long) :: gw) rm_Fa_eighthPower (xPre ta (dC, dI) classes (tys3 ty) (wX ty ad co_rows co_marks co_rowSets co_partners co_open co_count tr_kinds tr_lefts tr_rights tr_seconds tr_size gr_kinds gr_nodes gr_rowSets gr_firstStates gr_targetCounts gr_targets gr_stepScores gr_letterScores gr_size tx_letters tx_length va_scores va_knownEnds hi_begins hi_lengths hi_scores hi_taken hi_count de_states de_begins de_lengths de_length) sz [.int a1]) (xQl (dC, dI) classes (wX ty ad co_rows co_marks co_rowSets co_partners co_open co_count tr_kinds tr_lefts tr_rights tr_seconds tr_size gr_kinds gr_nodes gr_rowSets gr_firstStates gr_targetCounts gr_targets gr_stepScores gr_letterScores gr_size tx_letters tx_length va_scores va_knownEnds hi_begins hi_lengths hi_scores hi_taken hi_count de_states de_begins de_lengths de_length) (wX ty ad co_rows co_marks co_rowSets co_partners co_open co_count tr_kinds tr_lefts tr_rights tr_seconds tr_size gr_kinds gr_nodes gr_rowSets gr_firstStates gr_targetCounts gr_targets gr_stepScores gr_letterScores gr_size tx_letters tx_length va_scores va_knownEnds hi_begins hi_lengths hi_scores hi_taken hi_count de_states de_begins de_lengths de_length) sz r0) 0 0 (va_A (wX ty ad co_rows co_marks co_rowSets co_partners co_open co_count tr_kinds tr_lefts tr_rights tr_seconds tr_size gr_kinds gr_nodes gr_rowSets gr_firstStates gr_targetCounts gr_targets gr_stepScores gr_letterScores gr_size tx_letters tx_length va_scores va_knownEnds hi_begins hi_lengths hi_scores hi_taken hi_count de_states de_begins de_lengths de_length) sz) := by
  refine xmet_l rfl (Nat.le_of_ble_eq_true rfl) ?_
  intro p e s m below meth c A ls Q hx hb hml hts hown hK hN hA hP hD hS hl hret
  replace hown : s.vm.findClass R_Fa = some m.cls := hown
  have hl : lv_has ls 5 [(0, .int a1)] := hl
  rw [f_Fa_eighthPower] at hf
  obtain ⟨H, eH⟩ : ∃ H : Heap, H = s.heap := ⟨_, rfl⟩
  obtain ⟨locs, eL⟩ : ∃ L : List Loc, L = [] := ⟨_, rfl⟩
  have hP : va_P (dC, dI) classes (wX ty ad co_rows co_marks co_rowSets co_partners co_open co_count tr_kinds tr_lefts tr_rights tr_seconds tr_size gr_kinds gr_nodes gr_rowSets gr_firstStates gr_targetCounts gr_targets gr_stepScores gr_letterScores gr_size tx_letters tx_length va_scores va_knownEnds hi_begins hi_lengths hi_scores hi_taken hi_count de_states de_begins de_lengths de_length) H := by rw [eH]; exact hP
  have hS : va_S A s.heap H locs := by rw [eH, eL]; exact hS
  rw [← eL]
  suffices hgoal : W p l e rm_Fa_eighthPower s m (List.toArray [.int a1]) below meth c H locs 0 0 Q (F0 m 0 ls []) by rw [eH] at hgoal; exact hgoal
  clear eH eL
  refine lv_iload_n hx hb d_Fa_eighthPower_0 rfl (lv_at hl 0 rfl) ?_
  refine lv_i2l (v := (Int32.toInt64 a1)) hx hb d_Fa_eighthPower_1 rfl ?_
  refine lv_iload_n hx hb d_Fa_eighthPower_2 rfl (lv_at hl 0 rfl) ?_
  refine lv_i2l (v := (Int32.toInt64 a1)) hx hb d_Fa_eighthPower_3 rfl ?_
  refine lv_lmul hx hb d_Fa_eighthPower_4 ?_
  refine lv_lstore_n (lv' := [(1, .long ((Int32.toInt64 a1) * (Int32.toInt64 a1))), (0, .int a1)]) hx hb d_Fa_eighthPower_5 rfl hl (by decide) rfl (fun ls hl => ?_)
  refine lv_lload_n hx hb d_Fa_eighthPower_6 rfl (lv_at hl 0 rfl) ?_
  refine lv_lload_n hx hb d_Fa_eighthPower_7 rfl (lv_at hl 0 rfl) ?_
  refine lv_lmul hx hb d_Fa_eighthPower_8 ?_
  refine lv_lstore_n (lv' := [(3, .long (((Int32.toInt64 a1) * (Int32.toInt64 a1)) * ((Int32.toInt64 a1) * (Int32.toInt64 a1)))), (1, .long ((Int32.toInt64 a1) * (Int32.toInt64 a1))), (0, .int a1)]) hx hb d_Fa_eighthPower_9 rfl hl (by decide) rfl (fun ls hl => ?_)
  refine lv_lload_n hx hb d_Fa_eighthPower_10 rfl (lv_at hl 0 rfl) ?_
  refine lv_lload_n hx hb d_Fa_eighthPower_11 rfl (lv_at hl 0 rfl) ?_
  refine lv_lmul hx hb d_Fa_eighthPower_12 ?_
  obtain rfl := os1 hf
  exact hret H locs _ _ _ d_Fa_eighthPower_13 rfl hP hS
def f_Fa_log_K40_72  (x4_40 : Int64) (x6_40 : Int32) : Option (Int32) := some (x6_40)
def f_Fa_log_L40 (x2_14 : Int64) (k40_72 : (Int64 → Int32 → Option (Int32))) : Nat → Int64 → Int32 → Option (Int32)
  | 0, _, _ => none
  | n40 + 1, x4_40, x6_40 => if (lg_cmp x2_14 ((2 : Int64) * x4_40)) < (0 : Int32) then (k40_72 x4_40 x6_40) else (if (64 : Int32) ≤ x6_40 then (k40_72 x4_40 x6_40) else ((f_Fa_log_L40 x2_14 k40_72 n40) (x4_40 * (2 : Int64)) (x6_40 + (1 : Int32))))
def f_Fa_log_K14_40 (r3 : Int64) (x2_14 : Int64) (x6_14 : Int32) : Option (Int32) := f_Fa_log_L40 x2_14 (f_Fa_log_K40_72) 1000 r3 x6_14
def f_Fa_log_L14 (r3 : Int64) (k14_40 : (Int64 → Int32 → Option (Int32))) : Nat → Int64 → Int32 → Option (Int32)
  | 0, _, _ => none
  | n14 + 1, x2_14, x6_14 => if (0 : Int32) ≤ (lg_cmp x2_14 r3) then (k14_40 x2_14 x6_14) else (if x6_14 ≤ (-64 : Int32) then (k14_40 x2_14 x6_14) else ((f_Fa_log_L14 r3 k14_40 n14) (x2_14 * (2 : Int64)) (x6_14 + (-1 : Int32))))
def f_Fa_log (a1 : Int32) (a2 : Int32) : Option (Int32) := ob1 (f_Fa_eighthPower a1) (fun r1 => ob1 (f_Fa_eighthPower a2) (fun r3 => f_Fa_log_L14 r3 (f_Fa_log_K14_40 r3) 1000 r1 (0 : Int32)))
set_option maxHeartbeats 4000000 in
set_option maxRecDepth 100000 in
theorem c_Fa_log (l : Launch) (dC : Nat → ClassId) (dI : Nat → Nat → Nat) (ty : Nat → ClassId) (ad : Nat → Nat) (ta : Nat → Nat) (sz : Nat) (co_rows : Int32) (co_marks : (Nat → Int32)) (co_rowSets : (Nat → Int32)) (co_partners : (Nat → Int32)) (co_open : (Nat → Int32)) (co_count : Int32) (tr_kinds : (Nat → Int32)) (tr_lefts : (Nat → Int32)) (tr_rights : (Nat → Int32)) (tr_seconds : (Nat → Int32)) (tr_size : Int32) (gr_kinds : (Nat → Int32)) (gr_nodes : (Nat → Int32)) (gr_rowSets : (Nat → Int32)) (gr_firstStates : (Nat → Int32)) (gr_targetCounts : (Nat → Int32)) (gr_targets : (Nat → Int32)) (gr_stepScores : (Nat → Int32)) (gr_letterScores : (Nat → Int32)) (gr_size : Int32) (tx_letters : (Nat → Int32)) (tx_length : Int32) (va_scores : (Nat → Int32)) (va_knownEnds : Int32) (hi_begins : (Nat → Int32)) (hi_lengths : (Nat → Int32)) (hi_scores : (Nat → Int32)) (hi_taken : (Nat → Int32)) (hi_count : Int32) (de_states : (Nat → Int32)) (de_begins : (Nat → Int32)) (de_lengths : (Nat → Int32)) (de_length : Int32) (a1 : Int32) (a2 : Int32) (r0 : Int32) (hf : f_Fa_log a1 a2 = some (r0)) : Met l y_Fa_log (.code y_Fa_log prog_1_method_24_code 7 (some .int) :: gw) rm_Fa_log (xPre ta (dC, dI) classes (tys3 ty) (wX ty ad co_rows co_marks co_rowSets co_partners co_open co_count tr_kinds tr_lefts tr_rights tr_seconds tr_size gr_kinds gr_nodes gr_rowSets gr_firstStates gr_targetCounts gr_targets gr_stepScores gr_letterScores gr_size tx_letters tx_length va_scores va_knownEnds hi_begins hi_lengths hi_scores hi_taken hi_count de_states de_begins de_lengths de_length) sz [.int a1, .int a2]) (xQi (dC, dI) classes (wX ty ad co_rows co_marks co_rowSets co_partners co_open co_count tr_kinds tr_lefts tr_rights tr_seconds tr_size gr_kinds gr_nodes gr_rowSets gr_firstStates gr_targetCounts gr_targets gr_stepScores gr_letterScores gr_size tx_letters tx_length va_scores va_knownEnds hi_begins hi_lengths hi_scores hi_taken hi_count de_states de_begins de_lengths de_length) (wX ty ad co_rows co_marks co_rowSets co_partners co_open co_count tr_kinds tr_lefts tr_rights tr_seconds tr_size gr_kinds gr_nodes gr_rowSets gr_firstStates gr_targetCounts gr_targets gr_stepScores gr_letterScores gr_size tx_letters tx_length va_scores va_knownEnds hi_begins hi_lengths hi_scores hi_taken hi_count de_states de_begins de_lengths de_length) sz r0) 0 0 (va_A (wX ty ad co_rows co_marks co_rowSets co_partners co_open co_count tr_kinds tr_lefts tr_rights tr_seconds tr_size gr_kinds gr_nodes gr_rowSets gr_firstStates gr_targetCounts gr_targets gr_stepScores gr_letterScores gr_size tx_letters tx_length va_scores va_knownEnds hi_begins hi_lengths hi_scores hi_taken hi_count de_states de_begins de_lengths de_length) sz) := by
  refine xmet_i rfl (Nat.le_of_ble_eq_true rfl) ?_
  intro p e s m below meth c A ls Q hx hb hml hts hown hK hN hA hP hD hS hl hret
  replace hown : s.vm.findClass R_Fa = some m.cls := hown
  have hl : lv_has ls 7 [(0, .int a1), (1, .int a2)] := hl
  rw [f_Fa_log] at hf
  obtain ⟨H, eH⟩ : ∃ H : Heap, H = s.heap := ⟨_, rfl⟩
  obtain ⟨locs, eL⟩ : ∃ L : List Loc, L = [] := ⟨_, rfl⟩
  have hP : va_P (dC, dI) classes (wX ty ad co_rows co_marks co_rowSets co_partners co_open co_count tr_kinds tr_lefts tr_rights tr_seconds tr_size gr_kinds gr_nodes gr_rowSets gr_firstStates gr_targetCounts gr_targets gr_stepScores gr_letterScores gr_size tx_letters tx_length va_scores va_knownEnds hi_begins hi_lengths hi_scores hi_taken hi_count de_states de_begins de_lengths de_length) H := by rw [eH]; exact hP
  have hS : va_S A s.heap H locs := by rw [eH, eL]; exact hS
  rw [← eL]
  suffices hgoal : W p l e rm_Fa_log s m (List.toArray [.int a1, .int a2]) below meth c H locs 0 0 Q (F0 m 0 ls []) by rw [eH] at hgoal; exact hgoal
  clear eH eL
  refine lv_iload_n hx hb d_Fa_log_0 rfl (lv_at hl 0 rfl) ?_
  obtain ⟨r1, hc2, hf⟩ := ob1_inv hf
  refine xk_l (xrunS (As := [.int a1]) (rest := []) ⟨hx, hb, hml, hown, hts⟩ (c_Fa_eighthPower l dC dI ty ad ta H.size co_rows co_marks co_rowSets co_partners co_open co_count tr_kinds tr_lefts tr_rights tr_seconds tr_size gr_kinds gr_nodes gr_rowSets gr_firstStates gr_targetCounts gr_targets gr_stepScores gr_letterScores gr_size tx_letters tx_length va_scores va_knownEnds hi_begins hi_lengths hi_scores hi_taken hi_count de_states de_begins de_lengths de_length a1 r1 hc2) z_Fa_225 ⟨⟨rfl, rfl⟩, by decide, by decide⟩ hK hP hD hN hS hA rfl hl.1 rfl (Nat.le_of_ble_eq_true rfl) d_Fa_log_1 ⟨Nat.zero_le _, Nat.zero_le _⟩) hS hD rfl hA (fun H locs hP hD hS => ?_)
  refine W.eq (g2 := F0 m 4 ls [.long r1]) rfl ?_
  refine lv_lstore_n (lv' := [(2, .long r1), (0, .int a1), (1, .int a2)]) hx hb d_Fa_log_4 rfl hl (by decide) rfl (fun ls hl => ?_)
  refine lv_iload_n hx hb d_Fa_log_5 rfl (lv_at hl 2 rfl) ?_
  obtain ⟨r3, hc4, hf⟩ := ob1_inv hf
  refine xk_l (xrunS (As := [.int a2]) (rest := []) ⟨hx, hb, hml, hown, hts⟩ (c_Fa_eighthPower l dC dI ty ad ta H.size co_rows co_marks co_rowSets co_partners co_open co_count tr_kinds tr_lefts tr_rights tr_seconds tr_size gr_kinds gr_nodes gr_rowSets gr_firstStates gr_targetCounts gr_targets gr_stepScores gr_letterScores gr_size tx_letters tx_length va_scores va_knownEnds hi_begins hi_lengths hi_scores hi_taken hi_count de_states de_begins de_lengths de_length a2 r3 hc4) z_Fa_225 ⟨⟨rfl, rfl⟩, by decide, by decide⟩ hK hP hD hN hS hA rfl hl.1 rfl (Nat.le_of_ble_eq_true rfl) d_Fa_log_6 ⟨Nat.zero_le _, Nat.zero_le _⟩) hS hD rfl hA (fun H locs hP hD hS => ?_)
  refine W.eq (g2 := F0 m 9 ls [.long r3]) rfl ?_
  refine lv_lstore (lv' := [(4, .long r3), (2, .long r1), (0, .int a1), (1, .int a2)]) hx hb d_Fa_log_9 hl (by decide) rfl (fun ls hl => ?_)
  refine lv_iconst (v := 0) hx hb d_Fa_log_11 (by decide) ?_
  refine lv_istore (lv' := [(6, .int (0 : Int32)), (4, .long r3), (2, .long r1), (0, .int a1), (1, .int a2)]) hx hb d_Fa_log_12 hl (by decide) rfl (fun ls hl => ?_)
  have K14_40 : ∀ (x2_14 : Int64) (x6_14 : Int32) (H : Heap) (locs : List Loc) (ls : Array Slot), va_P (dC, dI) classes (wX ty ad co_rows co_marks co_rowSets co_partners co_open co_count tr_kinds tr_lefts tr_rights tr_seconds tr_size gr_kinds gr_nodes gr_rowSets gr_firstStates gr_targetCounts gr_targets gr_stepScores gr_letterScores gr_size tx_letters tx_length va_scores va_knownEnds hi_begins hi_lengths hi_scores hi_taken hi_count de_states de_begins de_lengths de_length) H → va_D A (wX ty ad co_rows co_marks co_rowSets co_partners co_open co_count tr_kinds tr_lefts tr_rights tr_seconds tr_size gr_kinds gr_nodes gr_rowSets gr_firstStates gr_targetCounts gr_targets gr_stepScores gr_letterScores gr_size tx_letters tx_length va_scores va_knownEnds hi_begins hi_lengths hi_scores hi_taken hi_count de_states de_begins de_lengths de_length) → va_S A s.heap H locs → lv_has ls 7 [(2, .long x2_14), (4, .long r3), (6, .int x6_14)] → f_Fa_log_K14_40 r3 x2_14 x6_14 = some (r0) → W p l e rm_Fa_log s m (List.toArray [.int a1, .int a2]) below meth c H locs 0 0 Q (F0 m 40 ls []) := by
    intro x2_14 x6_14 H locs ls hP hD hS hl hf
    rw [f_Fa_log_K14_40] at hf
    have K40_72 : ∀ (x4_40 : Int64) (x6_40 : Int32) (H : Heap) (locs : List Loc) (ls : Array Slot), va_P (dC, dI) classes (wX ty ad co_rows co_marks co_rowSets co_partners co_open co_count tr_kinds tr_lefts tr_rights tr_seconds tr_size gr_kinds gr_nodes gr_rowSets gr_firstStates gr_targetCounts gr_targets gr_stepScores gr_letterScores gr_size tx_letters tx_length va_scores va_knownEnds hi_begins hi_lengths hi_scores hi_taken hi_count de_states de_begins de_lengths de_length) H → va_D A (wX ty ad co_rows co_marks co_rowSets co_partners co_open co_count tr_kinds tr_lefts tr_rights tr_seconds tr_size gr_kinds gr_nodes gr_rowSets gr_firstStates gr_targetCounts gr_targets gr_stepScores gr_letterScores gr_size tx_letters tx_length va_scores va_knownEnds hi_begins hi_lengths hi_scores hi_taken hi_count de_states de_begins de_lengths de_length) → va_S A s.heap H locs → lv_has ls 7 [(6, .int x6_40)] → f_Fa_log_K40_72 x4_40 x6_40 = some (r0) → W p l e rm_Fa_log s m (List.toArray [.int a1, .int a2]) below meth c H locs 0 0 Q (F0 m 72 ls []) := by
      intro x4_40 x6_40 H locs ls hP hD hS hl hf
      rw [f_Fa_log_K40_72] at hf
      refine lv_iload hx hb d_Fa_log_72 (lv_at hl 0 rfl) ?_
      obtain rfl := os1 hf
      exact hret H locs _ _ _ d_Fa_log_74 rfl hP hS
    have L40 : ∀ (n40 : Nat), ∀ (x4_40 : Int64) (x6_40 : Int32) (H : Heap) (locs : List Loc) (ls : Array Slot), va_P (dC, dI) classes (wX ty ad co_rows co_marks co_rowSets co_partners co_open co_count tr_kinds tr_lefts tr_rights tr_seconds tr_size gr_kinds gr_nodes gr_rowSets gr_firstStates gr_targetCounts gr_targets gr_stepScores gr_letterScores gr_size tx_letters tx_length va_scores va_knownEnds hi_begins hi_lengths hi_scores hi_taken hi_count de_states de_begins de_lengths de_length) H → va_D A (wX ty ad co_rows co_marks co_rowSets co_partners co_open co_count tr_kinds tr_lefts tr_rights tr_seconds tr_size gr_kinds gr_nodes gr_rowSets gr_firstStates gr_targetCounts gr_targets gr_stepScores gr_letterScores gr_size tx_letters tx_length va_scores va_knownEnds hi_begins hi_lengths hi_scores hi_taken hi_count de_states de_begins de_lengths de_length) → va_S A s.heap H locs → lv_has ls 7 [(2, .long x2_14), (4, .long x4_40), (6, .int x6_40)] → f_Fa_log_L40 x2_14 (f_Fa_log_K40_72) n40 x4_40 x6_40 = some (r0) → W p l e rm_Fa_log s m (List.toArray [.int a1, .int a2]) below meth c H locs 0 0 Q (F0 m 40 ls []) := by
      intro n40
      induction n40 with
      | zero =>
        intro x4_40 x6_40 H locs ls hP hD hS hl hf
        rw [f_Fa_log_L40] at hf
        cases hf
      | succ n40 ih40 =>
        intro x4_40 x6_40 H locs ls hP hD hS hl hf
        rw [f_Fa_log_L40] at hf
        refine lv_lload_n hx hb d_Fa_log_40 rfl (lv_at hl 0 rfl) ?_
        refine lv_ldc2 (v := 2) hx hb hown (hts _ m_435) d_Fa_log_41 ?_
        refine lv_lload hx hb d_Fa_log_44 (lv_at hl 1 rfl) ?_
        refine lv_lmul hx hb d_Fa_log_46 ?_
        refine W.lcmp hx hb d_Fa_log_47 ?_
        refine lv_if_lt (tgt := 72) hx hb d_Fa_log_48 (by decide) (fun c7 => ?_) (fun c7 => ?_)
        · have hf := xif_t c7 hf
          exact K40_72 x4_40 x6_40 _ _ _ hP hD hS (lv_sub hl [2] rfl) hf
        · have hf := xif_f c7 hf
          refine lv_iload hx hb d_Fa_log_51 (lv_at hl 2 rfl) ?_
          refine lv_bipush (v := 64) hx hb d_Fa_log_53 (by decide) ?_
          refine lv_icmp_ge (tgt := 72) hx hb d_Fa_log_55 (by decide) (fun c8 => ?_) (fun c8 => ?_)
          · have hf := xif_t c8 hf
            exact K40_72 x4_40 x6_40 _ _ _ hP hD hS (lv_sub hl [2] rfl) hf
          · have hf := xif_f c8 hf
            refine lv_lload hx hb d_Fa_log_58 (lv_at hl 1 rfl) ?_
            refine lv_ldc2 (v := 2) hx hb hown (hts _ m_435) d_Fa_log_60 ?_
            refine lv_lmul hx hb d_Fa_log_63 ?_
            refine lv_lstore (lv' := [(4, .long (x4_40 * (2 : Int64))), (2, .long x2_14), (6, .int x6_40)]) hx hb d_Fa_log_64 hl (by decide) rfl (fun ls hl => ?_)
            refine lv_iinc (v := (x6_40 + (1 : Int32))) (lv' := [(6, .int (x6_40 + (1 : Int32))), (4, .long (x4_40 * (2 : Int64))), (2, .long x2_14)]) hx hb d_Fa_log_66 hl (k := 2) rfl rfl (by decide) rfl (fun ls hl => ?_)
            refine lv_goto (tgt := 40) hx hb d_Fa_log_69 (by decide) ?_
            exact ih40 (x4_40 * (2 : Int64)) (x6_40 + (1 : Int32)) _ _ _ hP hD hS (lv_sub hl [2, 1, 0] rfl) hf
    exact L40 1000 r3 x6_14 _ _ _ hP hD hS (lv_sub hl [0, 1, 2] rfl) hf
  have L14 : ∀ (n14 : Nat), ∀ (x2_14 : Int64) (x6_14 : Int32) (H : Heap) (locs : List Loc) (ls : Array Slot), va_P (dC, dI) classes (wX ty ad co_rows co_marks co_rowSets co_partners co_open co_count tr_kinds tr_lefts tr_rights tr_seconds tr_size gr_kinds gr_nodes gr_rowSets gr_firstStates gr_targetCounts gr_targets gr_stepScores gr_letterScores gr_size tx_letters tx_length va_scores va_knownEnds hi_begins hi_lengths hi_scores hi_taken hi_count de_states de_begins de_lengths de_length) H → va_D A (wX ty ad co_rows co_marks co_rowSets co_partners co_open co_count tr_kinds tr_lefts tr_rights tr_seconds tr_size gr_kinds gr_nodes gr_rowSets gr_firstStates gr_targetCounts gr_targets gr_stepScores gr_letterScores gr_size tx_letters tx_length va_scores va_knownEnds hi_begins hi_lengths hi_scores hi_taken hi_count de_states de_begins de_lengths de_length) → va_S A s.heap H locs → lv_has ls 7 [(2, .long x2_14), (4, .long r3), (6, .int x6_14)] → f_Fa_log_L14 r3 (f_Fa_log_K14_40 r3) n14 x2_14 x6_14 = some (r0) → W p l e rm_Fa_log s m (List.toArray [.int a1, .int a2]) below meth c H locs 0 0 Q (F0 m 14 ls []) := by
    intro n14
    induction n14 with
    | zero =>
      intro x2_14 x6_14 H locs ls hP hD hS hl hf
      rw [f_Fa_log_L14] at hf
      cases hf
    | succ n14 ih14 =>
      intro x2_14 x6_14 H locs ls hP hD hS hl hf
      rw [f_Fa_log_L14] at hf
      refine lv_lload_n hx hb d_Fa_log_14 rfl (lv_at hl 0 rfl) ?_
      refine lv_lload hx hb d_Fa_log_15 (lv_at hl 1 rfl) ?_
      refine W.lcmp hx hb d_Fa_log_17 ?_
      refine lv_if_ge (tgt := 40) hx hb d_Fa_log_18 (by decide) (fun c5 => ?_) (fun c5 => ?_)
      · have hf := xif_t c5 hf
        exact K14_40 x2_14 x6_14 _ _ _ hP hD hS (lv_sub hl [0, 1, 2] rfl) hf
      · have hf := xif_f c5 hf
        refine lv_iload hx hb d_Fa_log_21 (lv_at hl 2 rfl) ?_
        refine lv_bipush (v := -64) hx hb d_Fa_log_23 (by decide) ?_
        refine lv_icmp_le (tgt := 40) hx hb d_Fa_log_25 (by decide) (fun c6 => ?_) (fun c6 => ?_)
        · have hf := xif_t c6 hf
          exact K14_40 x2_14 x6_14 _ _ _ hP hD hS (lv_sub hl [0, 1, 2] rfl) hf
        · have hf := xif_f c6 hf
          refine lv_lload_n hx hb d_Fa_log_28 rfl (lv_at hl 0 rfl) ?_
          refine lv_ldc2 (v := 2) hx hb hown (hts _ m_435) d_Fa_log_29 ?_
          refine lv_lmul hx hb d_Fa_log_32 ?_
          refine lv_lstore_n (lv' := [(2, .long (x2_14 * (2 : Int64))), (4, .long r3), (6, .int x6_14)]) hx hb d_Fa_log_33 rfl hl (by decide) rfl (fun ls hl => ?_)
          refine lv_iinc (v := (x6_14 + (-1 : Int32))) (lv' := [(6, .int (x6_14 + (-1 : Int32))), (2, .long (x2_14 * (2 : Int64))), (4, .long r3)]) hx hb d_Fa_log_34 hl (k := 2) rfl rfl (by decide) rfl (fun ls hl => ?_)
          refine lv_goto (tgt := 14) hx hb d_Fa_log_37 (by decide) ?_
          exact ih14 (x2_14 * (2 : Int64)) (x6_14 + (-1 : Int32)) _ _ _ hP hD hS (lv_sub hl [1, 2, 0] rfl) hf
  exact L14 1000 r1 (0 : Int32) _ _ _ hP hD hS (lv_sub hl [2, 1, 0] rfl) hf
def f_Gr_scoreSteps_K19_92  (x3_19 : Int32) (gr_stepScores_19 : (Nat → Int32)) : Option ((Nat → Int32)) := some (gr_stepScores_19)
def f_Gr_scoreSteps_L19 (gr_kinds : (Nat → Int32)) (gr_rowSets : (Nat → Int32)) (gr_targetCounts : (Nat → Int32)) (gr_targets : (Nat → Int32)) (a1 : Int32) (r2 : Int32) (k19_92 : (Int32 → (Nat → Int32) → Option ((Nat → Int32)))) : Nat → Int32 → (Nat → Int32) → Option ((Nat → Int32))
  | 0, _, _ => none
  | n19 + 1, x3_19, gr_stepScores_19 => gd (xin a1 43) (if (gr_targetCounts (Int32.toNatClampNeg a1)) ≤ x3_19 then (k19_92 x3_19 gr_stepScores_19) else (gd (xin a1 43) (ob1 (f_Gr_targetOf gr_targets a1 x3_19) (fun r8 => gd (xin r8 43) (ob1 (f_Ig_bitCount ((gr_rowSets (Int32.toNatClampNeg a1)) &&& (gr_rowSets (Int32.toNatClampNeg r8)))) (fun r11 => gd (xin a1 43) (if (gr_kinds (Int32.toNatClampNeg a1)) = (7 : Int32) then (gd (xin ((a1 * (6 : Int32)) + x3_19) 258) ((f_Gr_scoreSteps_L19 gr_kinds gr_rowSets gr_targetCounts gr_targets a1 r2 k19_92 n19) (x3_19 + (1 : Int32)) (upd gr_stepScores_19 (Int32.toNatClampNeg ((a1 * (6 : Int32)) + x3_19)) (0 : Int32)))) else (ob1 (f_Fa_log (r11 + (1 : Int32)) (r2 + (gr_targetCounts (Int32.toNatClampNeg a1)))) (fun r15 => gd (xin ((a1 * (6 : Int32)) + x3_19) 258) ((f_Gr_scoreSteps_L19 gr_kinds gr_rowSets gr_targetCounts gr_targets a1 r2 k19_92 n19) (x3_19 + (1 : Int32)) (upd gr_stepScores_19 (Int32.toNatClampNeg ((a1 * (6 : Int32)) + x3_19)) r15)))))))))))
def f_Gr_scoreSteps (gr_kinds : (Nat → Int32)) (gr_rowSets : (Nat → Int32)) (gr_targetCounts : (Nat → Int32)) (gr_targets : (Nat → Int32)) (gr_stepScores : (Nat → Int32)) (a1 : Int32) : Option ((Nat → Int32)) := gd (xin a1 43) (ob1 (f_Ig_bitCount (gr_rowSets (Int32.toNatClampNeg a1))) (fun r2 => gd (xin a1 43) (f_Gr_scoreSteps_L19 gr_kinds gr_rowSets gr_targetCounts gr_targets a1 r2 (f_Gr_scoreSteps_K19_92) 1000 (0 : Int32) gr_stepScores)))
set_option maxHeartbeats 4000000 in
set_option maxRecDepth 100000 in
theorem c_Gr_scoreSteps (l : Launch) (dC : Nat → ClassId) (dI : Nat → Nat → Nat) (ty : Nat → ClassId) (ad : Nat → Nat) (ta : Nat → Nat) (sz : Nat) (co_rows : Int32) (co_marks : (Nat → Int32)) (co_rowSets : (Nat → Int32)) (co_partners : (Nat → Int32)) (co_open : (Nat → Int32)) (co_count : Int32) (tr_kinds : (Nat → Int32)) (tr_lefts : (Nat → Int32)) (tr_rights : (Nat → Int32)) (tr_seconds : (Nat → Int32)) (tr_size : Int32) (gr_kinds : (Nat → Int32)) (gr_nodes : (Nat → Int32)) (gr_rowSets : (Nat → Int32)) (gr_firstStates : (Nat → Int32)) (gr_targetCounts : (Nat → Int32)) (gr_targets : (Nat → Int32)) (gr_stepScores : (Nat → Int32)) (gr_letterScores : (Nat → Int32)) (gr_size : Int32) (tx_letters : (Nat → Int32)) (tx_length : Int32) (va_scores : (Nat → Int32)) (va_knownEnds : Int32) (hi_begins : (Nat → Int32)) (hi_lengths : (Nat → Int32)) (hi_scores : (Nat → Int32)) (hi_taken : (Nat → Int32)) (hi_count : Int32) (de_states : (Nat → Int32)) (de_begins : (Nat → Int32)) (de_lengths : (Nat → Int32)) (de_length : Int32) (a1 : Int32) (n_gr_stepScores : (Nat → Int32)) (hf : f_Gr_scoreSteps gr_kinds gr_rowSets gr_targetCounts gr_targets gr_stepScores a1 = some (n_gr_stepScores)) : Met l y_Gr_scoreSteps (.code y_Gr_scoreSteps prog_4_method_18_code 5 none :: gw) rm_Gr_scoreSteps (xPre ta (dC, dI) classes (tys3 ty) (wX ty ad co_rows co_marks co_rowSets co_partners co_open co_count tr_kinds tr_lefts tr_rights tr_seconds tr_size gr_kinds gr_nodes gr_rowSets gr_firstStates gr_targetCounts gr_targets gr_stepScores gr_letterScores gr_size tx_letters tx_length va_scores va_knownEnds hi_begins hi_lengths hi_scores hi_taken hi_count de_states de_begins de_lengths de_length) sz [.ref (ad 11), .int a1]) (xQv (dC, dI) classes (wX ty ad co_rows co_marks co_rowSets co_partners co_open co_count tr_kinds tr_lefts tr_rights tr_seconds tr_size gr_kinds gr_nodes gr_rowSets gr_firstStates gr_targetCounts gr_targets gr_stepScores gr_letterScores gr_size tx_letters tx_length va_scores va_knownEnds hi_begins hi_lengths hi_scores hi_taken hi_count de_states de_begins de_lengths de_length) (wX ty ad co_rows co_marks co_rowSets co_partners co_open co_count tr_kinds tr_lefts tr_rights tr_seconds tr_size gr_kinds gr_nodes gr_rowSets gr_firstStates gr_targetCounts gr_targets n_gr_stepScores gr_letterScores gr_size tx_letters tx_length va_scores va_knownEnds hi_begins hi_lengths hi_scores hi_taken hi_count de_states de_begins de_lengths de_length) sz) 0 0 (va_A (wX ty ad co_rows co_marks co_rowSets co_partners co_open co_count tr_kinds tr_lefts tr_rights tr_seconds tr_size gr_kinds gr_nodes gr_rowSets gr_firstStates gr_targetCounts gr_targets gr_stepScores gr_letterScores gr_size tx_letters tx_length va_scores va_knownEnds hi_begins hi_lengths hi_scores hi_taken hi_count de_states de_begins de_lengths de_length) sz) := by
  refine xmet_v rfl (Nat.le_of_ble_eq_true rfl) ?_
  intro p e s m below meth c A ls Q hx hb hml hts hown hK hN hA hP hD hS hl hret
  replace hown : s.vm.findClass R_Gr = some m.cls := hown
  have hl : lv_has ls 5 [(0, .ref (ad 11)), (1, .int a1)] := hl
  rw [f_Gr_scoreSteps] at hf
  obtain ⟨H, eH⟩ : ∃ H : Heap, H = s.heap := ⟨_, rfl⟩
  obtain ⟨locs, eL⟩ : ∃ L : List Loc, L = [] := ⟨_, rfl⟩
  have hP : va_P (dC, dI) classes (wX ty ad co_rows co_marks co_rowSets co_partners co_open co_count tr_kinds tr_lefts tr_rights tr_seconds tr_size gr_kinds gr_nodes gr_rowSets gr_firstStates gr_targetCounts gr_targets gr_stepScores gr_letterScores gr_size tx_letters tx_length va_scores va_knownEnds hi_begins hi_lengths hi_scores hi_taken hi_count de_states de_begins de_lengths de_length) H := by rw [eH]; exact hP
  have hS : va_S A s.heap H locs := by rw [eH, eL]; exact hS
  rw [← eL]
  suffices hgoal : W p l e rm_Gr_scoreSteps s m (List.toArray [.ref (ad 11), .int a1]) below meth c H locs 0 0 Q (F0 m 0 ls []) by rw [eH] at hgoal; exact hgoal
  clear eH eL
  refine lv_aload_n hx hb d_Gr_scoreSteps_0 rfl (lv_at hl 0 rfl) ?_
  refine va_get (D := (dC, dI)) (ci := 3) (v := .ref (ad 14)) (C := R_Gr) (T := F_Gr) (N := 11) hx hb hts iw_Gr hown hK hP 11 rfl rfl 4 (by decide) (hts _ m_136) (fun _ h9 => h9) rfl d_Gr_scoreSteps_1 ?_
  refine lv_iload_n hx hb d_Gr_scoreSteps_4 rfl (lv_at hl 1 rfl) ?_
  obtain ⟨hi1, hf⟩ := gdi hf
  refine va_iald hx hb hK hP 14 0 rfl rfl hi1 d_Gr_scoreSteps_5 ?_
  obtain ⟨r2, hc3, hf⟩ := ob1_inv hf
  refine xk_i (xrunS (As := [.int (gr_rowSets (Int32.toNatClampNeg a1))]) (rest := []) ⟨hx, hb, hml, hown, hts⟩ (c_Ig_bitCount l dC dI ty ad ta H.size co_rows co_marks co_rowSets co_partners co_open co_count tr_kinds tr_lefts tr_rights tr_seconds tr_size gr_kinds gr_nodes gr_rowSets gr_firstStates gr_targetCounts gr_targets gr_stepScores gr_letterScores gr_size tx_letters tx_length va_scores va_knownEnds hi_begins hi_lengths hi_scores hi_taken hi_count de_states de_begins de_lengths de_length (gr_rowSets (Int32.toNatClampNeg a1)) r2 hc3) z_Gr_110 ⟨⟨rfl, rfl⟩, by decide, by decide⟩ hK hP hD hN hS hA rfl hl.1 rfl (Nat.le_of_ble_eq_true rfl) d_Gr_scoreSteps_6 ⟨Nat.zero_le _, Nat.zero_le _⟩) hS hD rfl hA (fun H locs hP hD hS => ?_)
  refine W.eq (g2 := F0 m 9 ls [.int r2]) rfl ?_
  refine lv_aload_n hx hb d_Gr_scoreSteps_9 rfl (lv_at hl 0 rfl) ?_
  refine va_get (D := (dC, dI)) (ci := 3) (v := .ref (ad 16)) (C := R_Gr) (T := F_Gr) (N := 11) hx hb hts iw_Gr hown hK hP 11 rfl rfl 6 (by decide) (hts _ m_138) (fun _ h9 => h9) rfl d_Gr_scoreSteps_10 ?_
  refine lv_iload_n hx hb d_Gr_scoreSteps_13 rfl (lv_at hl 1 rfl) ?_
  obtain ⟨hi4, hf⟩ := gdi hf
  refine va_iald hx hb hK hP 16 0 rfl rfl hi4 d_Gr_scoreSteps_14 ?_
  refine lv_iadd hx hb d_Gr_scoreSteps_15 ?_
  refine lv_istore_n (lv' := [(2, .int (r2 + (gr_targetCounts (Int32.toNatClampNeg a1)))), (0, .ref (ad 11)), (1, .int a1)]) hx hb d_Gr_scoreSteps_16 rfl hl (by decide) rfl (fun ls hl => ?_)
  refine lv_iconst (v := 0) hx hb d_Gr_scoreSteps_17 (by decide) ?_
  refine lv_istore_n (lv' := [(3, .int (0 : Int32)), (2, .int (r2 + (gr_targetCounts (Int32.toNatClampNeg a1)))), (0, .ref (ad 11)), (1, .int a1)]) hx hb d_Gr_scoreSteps_18 rfl hl (by decide) rfl (fun ls hl => ?_)
  have K19_92 : ∀ (x3_19 : Int32) (gr_stepScores_19 : (Nat → Int32)) (H : Heap) (locs : List Loc) (ls : Array Slot), va_P (dC, dI) classes (wX ty ad co_rows co_marks co_rowSets co_partners co_open co_count tr_kinds tr_lefts tr_rights tr_seconds tr_size gr_kinds gr_nodes gr_rowSets gr_firstStates gr_targetCounts gr_targets gr_stepScores_19 gr_letterScores gr_size tx_letters tx_length va_scores va_knownEnds hi_begins hi_lengths hi_scores hi_taken hi_count de_states de_begins de_lengths de_length) H → va_D A (wX ty ad co_rows co_marks co_rowSets co_partners co_open co_count tr_kinds tr_lefts tr_rights tr_seconds tr_size gr_kinds gr_nodes gr_rowSets gr_firstStates gr_targetCounts gr_targets gr_stepScores_19 gr_letterScores gr_size tx_letters tx_length va_scores va_knownEnds hi_begins hi_lengths hi_scores hi_taken hi_count de_states de_begins de_lengths de_length) → va_S A s.heap H locs → lv_has ls 5 [] → f_Gr_scoreSteps_K19_92 x3_19 gr_stepScores_19 = some (n_gr_stepScores) → W p l e rm_Gr_scoreSteps s m (List.toArray [.ref (ad 11), .int a1]) below meth c H locs 0 0 Q (F0 m 92 ls []) := by
    intro x3_19 gr_stepScores_19 H locs ls hP hD hS hl hf
    rw [f_Gr_scoreSteps_K19_92] at hf
    obtain rfl := os1 hf
    exact hret H locs _ _ d_Gr_scoreSteps_92 hP hS
  have L19 : ∀ (n19 : Nat), ∀ (x3_19 : Int32) (gr_stepScores_19 : (Nat → Int32)) (H : Heap) (locs : List Loc) (ls : Array Slot), va_P (dC, dI) classes (wX ty ad co_rows co_marks co_rowSets co_partners co_open co_count tr_kinds tr_lefts tr_rights tr_seconds tr_size gr_kinds gr_nodes gr_rowSets gr_firstStates gr_targetCounts gr_targets gr_stepScores_19 gr_letterScores gr_size tx_letters tx_length va_scores va_knownEnds hi_begins hi_lengths hi_scores hi_taken hi_count de_states de_begins de_lengths de_length) H → va_D A (wX ty ad co_rows co_marks co_rowSets co_partners co_open co_count tr_kinds tr_lefts tr_rights tr_seconds tr_size gr_kinds gr_nodes gr_rowSets gr_firstStates gr_targetCounts gr_targets gr_stepScores_19 gr_letterScores gr_size tx_letters tx_length va_scores va_knownEnds hi_begins hi_lengths hi_scores hi_taken hi_count de_states de_begins de_lengths de_length) → va_S A s.heap H locs → lv_has ls 5 [(0, .ref (ad 11)), (1, .int a1), (2, .int (r2 + (gr_targetCounts (Int32.toNatClampNeg a1)))), (3, .int x3_19)] → f_Gr_scoreSteps_L19 gr_kinds gr_rowSets gr_targetCounts gr_targets a1 r2 (f_Gr_scoreSteps_K19_92) n19 x3_19 gr_stepScores_19 = some (n_gr_stepScores) → W p l e rm_Gr_scoreSteps s m (List.toArray [.ref (ad 11), .int a1]) below meth c H locs 0 0 Q (F0 m 19 ls []) := by
    intro n19
    induction n19 with
    | zero =>
      intro x3_19 gr_stepScores_19 H locs ls hP hD hS hl hf
      rw [f_Gr_scoreSteps_L19] at hf
      cases hf
    | succ n19 ih19 =>
      intro x3_19 gr_stepScores_19 H locs ls hP hD hS hl hf
      rw [f_Gr_scoreSteps_L19] at hf
      refine lv_iload_n hx hb d_Gr_scoreSteps_19 rfl (lv_at hl 3 rfl) ?_
      refine lv_aload_n hx hb d_Gr_scoreSteps_20 rfl (lv_at hl 0 rfl) ?_
      refine va_get (D := (dC, dI)) (ci := 3) (v := .ref (ad 16)) (C := R_Gr) (T := F_Gr) (N := 11) hx hb hts iw_Gr hown hK hP 11 rfl rfl 6 (by decide) (hts _ m_138) (fun _ h9 => h9) rfl d_Gr_scoreSteps_21 ?_
      refine lv_iload_n hx hb d_Gr_scoreSteps_24 rfl (lv_at hl 1 rfl) ?_
      obtain ⟨hi5, hf⟩ := gdi hf
      refine va_iald hx hb hK hP 16 0 rfl rfl hi5 d_Gr_scoreSteps_25 ?_
      refine lv_icmp_ge (tgt := 92) hx hb d_Gr_scoreSteps_26 (by decide) (fun c6 => ?_) (fun c6 => ?_)
      · have hf := xif_t c6 hf
        exact K19_92 x3_19 gr_stepScores_19 _ _ _ hP hD hS (lv_sub hl [] rfl) hf
      · have hf := xif_f c6 hf
        refine lv_aload_n hx hb d_Gr_scoreSteps_29 rfl (lv_at hl 0 rfl) ?_
        refine va_get (D := (dC, dI)) (ci := 3) (v := .ref (ad 14)) (C := R_Gr) (T := F_Gr) (N := 11) hx hb hts iw_Gr hown hK hP 11 rfl rfl 4 (by decide) (hts _ m_136) (fun _ h9 => h9) rfl d_Gr_scoreSteps_30 ?_
        refine lv_iload_n hx hb d_Gr_scoreSteps_33 rfl (lv_at hl 1 rfl) ?_
        obtain ⟨hi7, hf⟩ := gdi hf
        refine va_iald hx hb hK hP 14 0 rfl rfl hi7 d_Gr_scoreSteps_34 ?_
        refine lv_aload_n hx hb d_Gr_scoreSteps_35 rfl (lv_at hl 0 rfl) ?_
        refine va_get (D := (dC, dI)) (ci := 3) (v := .ref (ad 14)) (C := R_Gr) (T := F_Gr) (N := 11) hx hb hts iw_Gr hown hK hP 11 rfl rfl 4 (by decide) (hts _ m_136) (fun _ h9 => h9) rfl d_Gr_scoreSteps_36 ?_
        refine lv_aload_n hx hb d_Gr_scoreSteps_39 rfl (lv_at hl 0 rfl) ?_
        refine lv_iload_n hx hb d_Gr_scoreSteps_40 rfl (lv_at hl 1 rfl) ?_
        refine lv_iload_n hx hb d_Gr_scoreSteps_41 rfl (lv_at hl 3 rfl) ?_
        obtain ⟨r8, hc9, hf⟩ := ob1_inv hf
        refine xk_i (xrunV (C := R_Gr) (As := [.int a1, .int x3_19]) (rest := [.ref (ad 14), .int (gr_rowSets (Int32.toNatClampNeg a1))]) ⟨hx, hb, hml, hown, hts⟩ (c_Gr_targetOf l dC dI ty ad ta H.size co_rows co_marks co_rowSets co_partners co_open co_count tr_kinds tr_lefts tr_rights tr_seconds tr_size gr_kinds gr_nodes gr_rowSets gr_firstStates gr_targetCounts gr_targets gr_stepScores_19 gr_letterScores gr_size tx_letters tx_length va_scores va_knownEnds hi_begins hi_lengths hi_scores hi_taken hi_count de_states de_begins de_lengths de_length a1 x3_19 r8 hc9) z_Gr_115 ⟨⟨rfl, rfl⟩, by decide, by decide⟩ hK hP hD hN hS hA (va_recv hK hP (ci := 3) (q0 := 11) rfl rfl) rfl hl.1 rfl (Nat.le_of_ble_eq_true rfl) d_Gr_scoreSteps_42 ⟨Nat.zero_le _, Nat.zero_le _⟩) hS hD rfl hA (fun H locs hP hD hS => ?_)
        refine W.eq (g2 := F0 m 45 ls [.int r8, .ref (ad 14), .int (gr_rowSets (Int32.toNatClampNeg a1))]) rfl ?_
        obtain ⟨hi10, hf⟩ := gdi hf
        refine va_iald hx hb hK hP 14 0 rfl rfl hi10 d_Gr_scoreSteps_45 ?_
        refine lv_iand hx hb d_Gr_scoreSteps_46 ?_
        obtain ⟨r11, hc12, hf⟩ := ob1_inv hf
        refine xk_i (xrunS (As := [.int ((gr_rowSets (Int32.toNatClampNeg a1)) &&& (gr_rowSets (Int32.toNatClampNeg r8)))]) (rest := []) ⟨hx, hb, hml, hown, hts⟩ (c_Ig_bitCount l dC dI ty ad ta H.size co_rows co_marks co_rowSets co_partners co_open co_count tr_kinds tr_lefts tr_rights tr_seconds tr_size gr_kinds gr_nodes gr_rowSets gr_firstStates gr_targetCounts gr_targets gr_stepScores_19 gr_letterScores gr_size tx_letters tx_length va_scores va_knownEnds hi_begins hi_lengths hi_scores hi_taken hi_count de_states de_begins de_lengths de_length ((gr_rowSets (Int32.toNatClampNeg a1)) &&& (gr_rowSets (Int32.toNatClampNeg r8))) r11 hc12) z_Gr_110 ⟨⟨rfl, rfl⟩, by decide, by decide⟩ hK hP hD hN hS hA rfl hl.1 rfl (Nat.le_of_ble_eq_true rfl) d_Gr_scoreSteps_47 ⟨Nat.zero_le _, Nat.zero_le _⟩) hS hD rfl hA (fun H locs hP hD hS => ?_)
        refine W.eq (g2 := F0 m 50 ls [.int r11]) rfl ?_
        refine lv_istore (lv' := [(4, .int r11), (0, .ref (ad 11)), (1, .int a1), (2, .int (r2 + (gr_targetCounts (Int32.toNatClampNeg a1)))), (3, .int x3_19)]) hx hb d_Gr_scoreSteps_50 hl (by decide) rfl (fun ls hl => ?_)
        refine lv_aload_n hx hb d_Gr_scoreSteps_52 rfl (lv_at hl 1 rfl) ?_
        refine va_get (D := (dC, dI)) (ci := 3) (v := .ref (ad 18)) (C := R_Gr) (T := F_Gr) (N := 11) hx hb hts iw_Gr hown hK hP 11 rfl rfl 8 (by decide) (hts _ m_140) (fun _ h9 => h9) rfl d_Gr_scoreSteps_53 ?_
        refine lv_iload_n hx hb d_Gr_scoreSteps_56 rfl (lv_at hl 2 rfl) ?_
        refine lv_bipush (v := 6) hx hb d_Gr_scoreSteps_57 (by decide) ?_
        refine lv_imul hx hb d_Gr_scoreSteps_59 ?_
        refine lv_iload_n hx hb d_Gr_scoreSteps_60 rfl (lv_at hl 4 rfl) ?_
        refine lv_iadd hx hb d_Gr_scoreSteps_61 ?_
        refine lv_aload_n hx hb d_Gr_scoreSteps_62 rfl (lv_at hl 1 rfl) ?_
        refine va_get (D := (dC, dI)) (ci := 3) (v := .ref (ad 12)) (C := R_Gr) (T := F_Gr) (N := 11) hx hb hts iw_Gr hown hK hP 11 rfl rfl 2 (by decide) (hts _ m_134) (fun _ h9 => h9) rfl d_Gr_scoreSteps_63 ?_
        refine lv_iload_n hx hb d_Gr_scoreSteps_66 rfl (lv_at hl 2 rfl) ?_
        obtain ⟨hi13, hf⟩ := gdi hf
        refine va_iald hx hb hK hP 12 0 rfl rfl hi13 d_Gr_scoreSteps_67 ?_
        refine lv_bipush (v := 7) hx hb d_Gr_scoreSteps_68 (by decide) ?_
        refine lv_icmp_ne (tgt := 77) hx hb d_Gr_scoreSteps_70 (by decide) (fun c14 => ?_) (fun c14 => ?_)
        · have hf := xif_f c14 hf
          refine lv_iload hx hb d_Gr_scoreSteps_77 (lv_at hl 0 rfl) ?_
          refine lv_iconst (v := 1) hx hb d_Gr_scoreSteps_79 (by decide) ?_
          refine lv_iadd hx hb d_Gr_scoreSteps_80 ?_
          refine lv_iload_n hx hb d_Gr_scoreSteps_81 rfl (lv_at hl 3 rfl) ?_
          obtain ⟨r15, hc16, hf⟩ := ob1_inv hf
          refine xk_i (xrunSN (As := [.int (r11 + (1 : Int32)), .int (r2 + (gr_targetCounts (Int32.toNatClampNeg a1)))]) (rest := [.int ((a1 * (6 : Int32)) + x3_19), .ref (ad 18)]) ⟨hx, hb, hml, hown, hts⟩ (c_Fa_log l dC dI ty ad ta H.size co_rows co_marks co_rowSets co_partners co_open co_count tr_kinds tr_lefts tr_rights tr_seconds tr_size gr_kinds gr_nodes gr_rowSets gr_firstStates gr_targetCounts gr_targets gr_stepScores_19 gr_letterScores gr_size tx_letters tx_length va_scores va_knownEnds hi_begins hi_lengths hi_scores hi_taken hi_count de_states de_begins de_lengths de_length (r11 + (1 : Int32)) (r2 + (gr_targetCounts (Int32.toNatClampNeg a1))) r15 hc16) z_Gr_118 ⟨⟨rfl, rfl⟩, by decide, by decide⟩ hK hP hD hN hS hA rfl hl.1 rfl (Nat.le_of_ble_eq_true rfl) d_Gr_scoreSteps_82 ⟨Nat.zero_le _, Nat.zero_le _⟩) hS hD rfl hA (fun H locs hP hD hS => ?_)
          refine W.eq (g2 := F0 m 85 ls [.int r15, .int ((a1 * (6 : Int32)) + x3_19), .ref (ad 18)]) rfl ?_
          obtain ⟨hi17, hf⟩ := gdi hf
          refine va_iast hx hb hK hP hD hS 18 0 rfl rfl hi17 d_Gr_scoreSteps_85 (fun H locs hP hD hS => ?_)
          have hP : va_P (dC, dI) classes (wX ty ad co_rows co_marks co_rowSets co_partners co_open co_count tr_kinds tr_lefts tr_rights tr_seconds tr_size gr_kinds gr_nodes gr_rowSets gr_firstStates gr_targetCounts gr_targets (upd gr_stepScores_19 (Int32.toNatClampNeg ((a1 * (6 : Int32)) + x3_19)) r15) gr_letterScores gr_size tx_letters tx_length va_scores va_knownEnds hi_begins hi_lengths hi_scores hi_taken hi_count de_states de_begins de_lengths de_length) H := hP
          have hD : va_D A (wX ty ad co_rows co_marks co_rowSets co_partners co_open co_count tr_kinds tr_lefts tr_rights tr_seconds tr_size gr_kinds gr_nodes gr_rowSets gr_firstStates gr_targetCounts gr_targets (upd gr_stepScores_19 (Int32.toNatClampNeg ((a1 * (6 : Int32)) + x3_19)) r15) gr_letterScores gr_size tx_letters tx_length va_scores va_knownEnds hi_begins hi_lengths hi_scores hi_taken hi_count de_states de_begins de_lengths de_length) := hD
          refine lv_iinc (v := (x3_19 + (1 : Int32))) (lv' := [(3, .int (x3_19 + (1 : Int32))), (4, .int r11), (0, .ref (ad 11)), (1, .int a1), (2, .int (r2 + (gr_targetCounts (Int32.toNatClampNeg a1))))]) hx hb d_Gr_scoreSteps_86 hl (k := 4) rfl rfl (by decide) rfl (fun ls hl => ?_)
          refine lv_goto (tgt := 19) hx hb d_Gr_scoreSteps_89 (by decide) ?_
          exact ih19 (x3_19 + (1 : Int32)) (upd gr_stepScores_19 (Int32.toNatClampNeg ((a1 * (6 : Int32)) + x3_19)) r15) _ _ _ hP hD hS (lv_sub hl [2, 3, 4, 0] rfl) hf
        · have hf := xif_t c14 hf
          refine lv_iconst (v := 0) hx hb d_Gr_scoreSteps_73 (by decide) ?_
          refine lv_goto (tgt := 85) hx hb d_Gr_scoreSteps_74 (by decide) ?_
          obtain ⟨hi18, hf⟩ := gdi hf
          refine va_iast hx hb hK hP hD hS 18 0 rfl rfl hi18 d_Gr_scoreSteps_85 (fun H locs hP hD hS => ?_)
          have hP : va_P (dC, dI) classes (wX ty ad co_rows co_marks co_rowSets co_partners co_open co_count tr_kinds tr_lefts tr_rights tr_seconds tr_size gr_kinds gr_nodes gr_rowSets gr_firstStates gr_targetCounts gr_targets (upd gr_stepScores_19 (Int32.toNatClampNeg ((a1 * (6 : Int32)) + x3_19)) (0 : Int32)) gr_letterScores gr_size tx_letters tx_length va_scores va_knownEnds hi_begins hi_lengths hi_scores hi_taken hi_count de_states de_begins de_lengths de_length) H := hP
          have hD : va_D A (wX ty ad co_rows co_marks co_rowSets co_partners co_open co_count tr_kinds tr_lefts tr_rights tr_seconds tr_size gr_kinds gr_nodes gr_rowSets gr_firstStates gr_targetCounts gr_targets (upd gr_stepScores_19 (Int32.toNatClampNeg ((a1 * (6 : Int32)) + x3_19)) (0 : Int32)) gr_letterScores gr_size tx_letters tx_length va_scores va_knownEnds hi_begins hi_lengths hi_scores hi_taken hi_count de_states de_begins de_lengths de_length) := hD
          refine lv_iinc (v := (x3_19 + (1 : Int32))) (lv' := [(3, .int (x3_19 + (1 : Int32))), (4, .int r11), (0, .ref (ad 11)), (1, .int a1), (2, .int (r2 + (gr_targetCounts (Int32.toNatClampNeg a1))))]) hx hb d_Gr_scoreSteps_86 hl (k := 4) rfl rfl (by decide) rfl (fun ls hl => ?_)
          refine lv_goto (tgt := 19) hx hb d_Gr_scoreSteps_89 (by decide) ?_
          exact ih19 (x3_19 + (1 : Int32)) (upd gr_stepScores_19 (Int32.toNatClampNeg ((a1 * (6 : Int32)) + x3_19)) (0 : Int32)) _ _ _ hP hD hS (lv_sub hl [2, 3, 4, 0] rfl) hf
  exact L19 1000 (0 : Int32) gr_stepScores _ _ _ hP hD hS (lv_sub hl [2, 3, 1, 0] rfl) hf
def f_Fa_lettersBefore (a1 : Int32) : Option (Int32) := if a1 = (1 : Int32) then (some ((1 : Int32))) else (if a1 = (2 : Int32) then (some ((1 : Int32))) else (if a1 = (5 : Int32) then (some ((1 : Int32))) else (some ((0 : Int32)))))
set_option maxHeartbeats 4000000 in
set_option maxRecDepth 100000 in
theorem c_Fa_lettersBefore (l : Launch) (dC : Nat → ClassId) (dI : Nat → Nat → Nat) (ty : Nat → ClassId) (ad : Nat → Nat) (ta : Nat → Nat) (sz : Nat) (co_rows : Int32) (co_marks : (Nat → Int32)) (co_rowSets : (Nat → Int32)) (co_partners : (Nat → Int32)) (co_open : (Nat → Int32)) (co_count : Int32) (tr_kinds : (Nat → Int32)) (tr_lefts : (Nat → Int32)) (tr_rights : (Nat → Int32)) (tr_seconds : (Nat → Int32)) (tr_size : Int32) (gr_kinds : (Nat → Int32)) (gr_nodes : (Nat → Int32)) (gr_rowSets : (Nat → Int32)) (gr_firstStates : (Nat → Int32)) (gr_targetCounts : (Nat → Int32)) (gr_targets : (Nat → Int32)) (gr_stepScores : (Nat → Int32)) (gr_letterScores : (Nat → Int32)) (gr_size : Int32) (tx_letters : (Nat → Int32)) (tx_length : Int32) (va_scores : (Nat → Int32)) (va_knownEnds : Int32) (hi_begins : (Nat → Int32)) (hi_lengths : (Nat → Int32)) (hi_scores : (Nat → Int32)) (hi_taken : (Nat → Int32)) (hi_count : Int32) (de_states : (Nat → Int32)) (de_begins : (Nat → Int32)) (de_lengths : (Nat → Int32)) (de_length : Int32) (a1 : Int32) (r0 : Int32) (hf : f_Fa_lettersBefore a1 = some (r0)) : Met l y_Fa_lettersBefore (.code y_Fa_lettersBefore prog_1_method_20_code 1 (some .int) :: gw) rm_Fa_lettersBefore (xPre ta (dC, dI) classes (tys3 ty) (wX ty ad co_rows co_marks co_rowSets co_partners co_open co_count tr_kinds tr_lefts tr_rights tr_seconds tr_size gr_kinds gr_nodes gr_rowSets gr_firstStates gr_targetCounts gr_targets gr_stepScores gr_letterScores gr_size tx_letters tx_length va_scores va_knownEnds hi_begins hi_lengths hi_scores hi_taken hi_count de_states de_begins de_lengths de_length) sz [.int a1]) (xQi (dC, dI) classes (wX ty ad co_rows co_marks co_rowSets co_partners co_open co_count tr_kinds tr_lefts tr_rights tr_seconds tr_size gr_kinds gr_nodes gr_rowSets gr_firstStates gr_targetCounts gr_targets gr_stepScores gr_letterScores gr_size tx_letters tx_length va_scores va_knownEnds hi_begins hi_lengths hi_scores hi_taken hi_count de_states de_begins de_lengths de_length) (wX ty ad co_rows co_marks co_rowSets co_partners co_open co_count tr_kinds tr_lefts tr_rights tr_seconds tr_size gr_kinds gr_nodes gr_rowSets gr_firstStates gr_targetCounts gr_targets gr_stepScores gr_letterScores gr_size tx_letters tx_length va_scores va_knownEnds hi_begins hi_lengths hi_scores hi_taken hi_count de_states de_begins de_lengths de_length) sz r0) 0 0 (va_A (wX ty ad co_rows co_marks co_rowSets co_partners co_open co_count tr_kinds tr_lefts tr_rights tr_seconds tr_size gr_kinds gr_nodes gr_rowSets gr_firstStates gr_targetCounts gr_targets gr_stepScores gr_letterScores gr_size tx_letters tx_length va_scores va_knownEnds hi_begins hi_lengths hi_scores hi_taken hi_count de_states de_begins de_lengths de_length) sz) := by
  refine xmet_i rfl (Nat.le_of_ble_eq_true rfl) ?_
  intro p e s m below meth c A ls Q hx hb hml hts hown hK hN hA hP hD hS hl hret
  replace hown : s.vm.findClass R_Fa = some m.cls := hown
  have hl : lv_has ls 1 [(0, .int a1)] := hl
  rw [f_Fa_lettersBefore] at hf
  obtain ⟨H, eH⟩ : ∃ H : Heap, H = s.heap := ⟨_, rfl⟩
  obtain ⟨locs, eL⟩ : ∃ L : List Loc, L = [] := ⟨_, rfl⟩
  have hP : va_P (dC, dI) classes (wX ty ad co_rows co_marks co_rowSets co_partners co_open co_count tr_kinds tr_lefts tr_rights tr_seconds tr_size gr_kinds gr_nodes gr_rowSets gr_firstStates gr_targetCounts gr_targets gr_stepScores gr_letterScores gr_size tx_letters tx_length va_scores va_knownEnds hi_begins hi_lengths hi_scores hi_taken hi_count de_states de_begins de_lengths de_length) H := by rw [eH]; exact hP
  have hS : va_S A s.heap H locs := by rw [eH, eL]; exact hS
  rw [← eL]
  suffices hgoal : W p l e rm_Fa_lettersBefore s m (List.toArray [.int a1]) below meth c H locs 0 0 Q (F0 m 0 ls []) by rw [eH] at hgoal; exact hgoal
  clear eH eL
  refine lv_iload_n hx hb d_Fa_lettersBefore_0 rfl (lv_at hl 0 rfl) ?_
  refine lv_iconst (v := 1) hx hb d_Fa_lettersBefore_1 (by decide) ?_
  refine lv_icmp_eq (tgt := 15) hx hb d_Fa_lettersBefore_2 (by decide) (fun c1 => ?_) (fun c1 => ?_)
  · have hf := xif_t c1 hf
    refine lv_iconst (v := 1) hx hb d_Fa_lettersBefore_15 (by decide) ?_
    refine lv_goto (tgt := 20) hx hb d_Fa_lettersBefore_16 (by decide) ?_
    obtain rfl := os1 hf
    exact hret H locs _ _ _ d_Fa_lettersBefore_20 rfl hP hS
  · have hf := xif_f c1 hf
    refine lv_iload_n hx hb d_Fa_lettersBefore_5 rfl (lv_at hl 0 rfl) ?_
    refine lv_iconst (v := 2) hx hb d_Fa_lettersBefore_6 (by decide) ?_
    refine lv_icmp_eq (tgt := 15) hx hb d_Fa_lettersBefore_7 (by decide) (fun c2 => ?_) (fun c2 => ?_)
    · have hf := xif_t c2 hf
      refine lv_iconst (v := 1) hx hb d_Fa_lettersBefore_15 (by decide) ?_
      refine lv_goto (tgt := 20) hx hb d_Fa_lettersBefore_16 (by decide) ?_
      obtain rfl := os1 hf
      exact hret H locs _ _ _ d_Fa_lettersBefore_20 rfl hP hS
    · have hf := xif_f c2 hf
      refine lv_iload_n hx hb d_Fa_lettersBefore_10 rfl (lv_at hl 0 rfl) ?_
      refine lv_iconst (v := 5) hx hb d_Fa_lettersBefore_11 (by decide) ?_
      refine lv_icmp_ne (tgt := 19) hx hb d_Fa_lettersBefore_12 (by decide) (fun c3 => ?_) (fun c3 => ?_)
      · have hf := xif_f c3 hf
        refine lv_iconst (v := 0) hx hb d_Fa_lettersBefore_19 (by decide) ?_
        obtain rfl := os1 hf
        exact hret H locs _ _ _ d_Fa_lettersBefore_20 rfl hP hS
      · have hf := xif_t c3 hf
        refine lv_iconst (v := 1) hx hb d_Fa_lettersBefore_15 (by decide) ?_
        refine lv_goto (tgt := 20) hx hb d_Fa_lettersBefore_16 (by decide) ?_
        obtain rfl := os1 hf
        exact hret H locs _ _ _ d_Fa_lettersBefore_20 rfl hP hS
def f_Fa_lettersBehind (a1 : Int32) : Option (Int32) := if a1 = (1 : Int32) then (some ((1 : Int32))) else (if a1 = (3 : Int32) then (some ((1 : Int32))) else (if a1 = (6 : Int32) then (some ((1 : Int32))) else (some ((0 : Int32)))))
set_option maxHeartbeats 4000000 in
set_option maxRecDepth 100000 in
theorem c_Fa_lettersBehind (l : Launch) (dC : Nat → ClassId) (dI : Nat → Nat → Nat) (ty : Nat → ClassId) (ad : Nat → Nat) (ta : Nat → Nat) (sz : Nat) (co_rows : Int32) (co_marks : (Nat → Int32)) (co_rowSets : (Nat → Int32)) (co_partners : (Nat → Int32)) (co_open : (Nat → Int32)) (co_count : Int32) (tr_kinds : (Nat → Int32)) (tr_lefts : (Nat → Int32)) (tr_rights : (Nat → Int32)) (tr_seconds : (Nat → Int32)) (tr_size : Int32) (gr_kinds : (Nat → Int32)) (gr_nodes : (Nat → Int32)) (gr_rowSets : (Nat → Int32)) (gr_firstStates : (Nat → Int32)) (gr_targetCounts : (Nat → Int32)) (gr_targets : (Nat → Int32)) (gr_stepScores : (Nat → Int32)) (gr_letterScores : (Nat → Int32)) (gr_size : Int32) (tx_letters : (Nat → Int32)) (tx_length : Int32) (va_scores : (Nat → Int32)) (va_knownEnds : Int32) (hi_begins : (Nat → Int32)) (hi_lengths : (Nat → Int32)) (hi_scores : (Nat → Int32)) (hi_taken : (Nat → Int32)) (hi_count : Int32) (de_states : (Nat → Int32)) (de_begins : (Nat → Int32)) (de_lengths : (Nat → Int32)) (de_length : Int32) (a1 : Int32) (r0 : Int32) (hf : f_Fa_lettersBehind a1 = some (r0)) : Met l y_Fa_lettersBehind (.code y_Fa_lettersBehind prog_1_method_21_code 1 (some .int) :: gw) rm_Fa_lettersBehind (xPre ta (dC, dI) classes (tys3 ty) (wX ty ad co_rows co_marks co_rowSets co_partners co_open co_count tr_kinds tr_lefts tr_rights tr_seconds tr_size gr_kinds gr_nodes gr_rowSets gr_firstStates gr_targetCounts gr_targets gr_stepScores gr_letterScores gr_size tx_letters tx_length va_scores va_knownEnds hi_begins hi_lengths hi_scores hi_taken hi_count de_states de_begins de_lengths de_length) sz [.int a1]) (xQi (dC, dI) classes (wX ty ad co_rows co_marks co_rowSets co_partners co_open co_count tr_kinds tr_lefts tr_rights tr_seconds tr_size gr_kinds gr_nodes gr_rowSets gr_firstStates gr_targetCounts gr_targets gr_stepScores gr_letterScores gr_size tx_letters tx_length va_scores va_knownEnds hi_begins hi_lengths hi_scores hi_taken hi_count de_states de_begins de_lengths de_length) (wX ty ad co_rows co_marks co_rowSets co_partners co_open co_count tr_kinds tr_lefts tr_rights tr_seconds tr_size gr_kinds gr_nodes gr_rowSets gr_firstStates gr_targetCounts gr_targets gr_stepScores gr_letterScores gr_size tx_letters tx_length va_scores va_knownEnds hi_begins hi_lengths hi_scores hi_taken hi_count de_states de_begins de_lengths de_length) sz r0) 0 0 (va_A (wX ty ad co_rows co_marks co_rowSets co_partners co_open co_count tr_kinds tr_lefts tr_rights tr_seconds tr_size gr_kinds gr_nodes gr_rowSets gr_firstStates gr_targetCounts gr_targets gr_stepScores gr_letterScores gr_size tx_letters tx_length va_scores va_knownEnds hi_begins hi_lengths hi_scores hi_taken hi_count de_states de_begins de_lengths de_length) sz) := by
  refine xmet_i rfl (Nat.le_of_ble_eq_true rfl) ?_
  intro p e s m below meth c A ls Q hx hb hml hts hown hK hN hA hP hD hS hl hret
  replace hown : s.vm.findClass R_Fa = some m.cls := hown
  have hl : lv_has ls 1 [(0, .int a1)] := hl
  rw [f_Fa_lettersBehind] at hf
  obtain ⟨H, eH⟩ : ∃ H : Heap, H = s.heap := ⟨_, rfl⟩
  obtain ⟨locs, eL⟩ : ∃ L : List Loc, L = [] := ⟨_, rfl⟩
  have hP : va_P (dC, dI) classes (wX ty ad co_rows co_marks co_rowSets co_partners co_open co_count tr_kinds tr_lefts tr_rights tr_seconds tr_size gr_kinds gr_nodes gr_rowSets gr_firstStates gr_targetCounts gr_targets gr_stepScores gr_letterScores gr_size tx_letters tx_length va_scores va_knownEnds hi_begins hi_lengths hi_scores hi_taken hi_count de_states de_begins de_lengths de_length) H := by rw [eH]; exact hP
  have hS : va_S A s.heap H locs := by rw [eH, eL]; exact hS
  rw [← eL]
  suffices hgoal : W p l e rm_Fa_lettersBehind s m (List.toArray [.int a1]) below meth c H locs 0 0 Q (F0 m 0 ls []) by rw [eH] at hgoal; exact hgoal
  clear eH eL
  refine lv_iload_n hx hb d_Fa_lettersBehind_0 rfl (lv_at hl 0 rfl) ?_
  refine lv_iconst (v := 1) hx hb d_Fa_lettersBehind_1 (by decide) ?_
  refine lv_icmp_eq (tgt := 16) hx hb d_Fa_lettersBehind_2 (by decide) (fun c1 => ?_) (fun c1 => ?_)
  · have hf := xif_t c1 hf
    refine lv_iconst (v := 1) hx hb d_Fa_lettersBehind_16 (by decide) ?_
    refine lv_goto (tgt := 21) hx hb d_Fa_lettersBehind_17 (by decide) ?_
    obtain rfl := os1 hf
    exact hret H locs _ _ _ d_Fa_lettersBehind_21 rfl hP hS
  · have hf := xif_f c1 hf
    refine lv_iload_n hx hb d_Fa_lettersBehind_5 rfl (lv_at hl 0 rfl) ?_
    refine lv_iconst (v := 3) hx hb d_Fa_lettersBehind_6 (by decide) ?_
    refine lv_icmp_eq (tgt := 16) hx hb d_Fa_lettersBehind_7 (by decide) (fun c2 => ?_) (fun c2 => ?_)
    · have hf := xif_t c2 hf
      refine lv_iconst (v := 1) hx hb d_Fa_lettersBehind_16 (by decide) ?_
      refine lv_goto (tgt := 21) hx hb d_Fa_lettersBehind_17 (by decide) ?_
      obtain rfl := os1 hf
      exact hret H locs _ _ _ d_Fa_lettersBehind_21 rfl hP hS
    · have hf := xif_f c2 hf
      refine lv_iload_n hx hb d_Fa_lettersBehind_10 rfl (lv_at hl 0 rfl) ?_
      refine lv_bipush (v := 6) hx hb d_Fa_lettersBehind_11 (by decide) ?_
      refine lv_icmp_ne (tgt := 20) hx hb d_Fa_lettersBehind_13 (by decide) (fun c3 => ?_) (fun c3 => ?_)
      · have hf := xif_f c3 hf
        refine lv_iconst (v := 0) hx hb d_Fa_lettersBehind_20 (by decide) ?_
        obtain rfl := os1 hf
        exact hret H locs _ _ _ d_Fa_lettersBehind_21 rfl hP hS
      · have hf := xif_t c3 hf
        refine lv_iconst (v := 1) hx hb d_Fa_lettersBehind_16 (by decide) ?_
        refine lv_goto (tgt := 21) hx hb d_Fa_lettersBehind_17 (by decide) ?_
        obtain rfl := os1 hf
        exact hret H locs _ _ _ d_Fa_lettersBehind_21 rfl hP hS
def f_Fa_lettersOf (a1 : Int32) : Option (Int32) := ob1 (f_Fa_lettersBefore a1) (fun r1 => ob1 (f_Fa_lettersBehind a1) (fun r3 => some ((r1 + r3))))
set_option maxHeartbeats 4000000 in
set_option maxRecDepth 100000 in
theorem c_Fa_lettersOf (l : Launch) (dC : Nat → ClassId) (dI : Nat → Nat → Nat) (ty : Nat → ClassId) (ad : Nat → Nat) (ta : Nat → Nat) (sz : Nat) (co_rows : Int32) (co_marks : (Nat → Int32)) (co_rowSets : (Nat → Int32)) (co_partners : (Nat → Int32)) (co_open : (Nat → Int32)) (co_count : Int32) (tr_kinds : (Nat → Int32)) (tr_lefts : (Nat → Int32)) (tr_rights : (Nat → Int32)) (tr_seconds : (Nat → Int32)) (tr_size : Int32) (gr_kinds : (Nat → Int32)) (gr_nodes : (Nat → Int32)) (gr_rowSets : (Nat → Int32)) (gr_firstStates : (Nat → Int32)) (gr_targetCounts : (Nat → Int32)) (gr_targets : (Nat → Int32)) (gr_stepScores : (Nat → Int32)) (gr_letterScores : (Nat → Int32)) (gr_size : Int32) (tx_letters : (Nat → Int32)) (tx_length : Int32) (va_scores : (Nat → Int32)) (va_knownEnds : Int32) (hi_begins : (Nat → Int32)) (hi_lengths : (Nat → Int32)) (hi_scores : (Nat → Int32)) (hi_taken : (Nat → Int32)) (hi_count : Int32) (de_states : (Nat → Int32)) (de_begins : (Nat → Int32)) (de_lengths : (Nat → Int32)) (de_length : Int32) (a1 : Int32) (r0 : Int32) (hf : f_Fa_lettersOf a1 = some (r0)) : Met l y_Fa_lettersOf (.code y_Fa_lettersOf prog_1_method_22_code 1 (some .int) :: gw) rm_Fa_lettersOf (xPre ta (dC, dI) classes (tys3 ty) (wX ty ad co_rows co_marks co_rowSets co_partners co_open co_count tr_kinds tr_lefts tr_rights tr_seconds tr_size gr_kinds gr_nodes gr_rowSets gr_firstStates gr_targetCounts gr_targets gr_stepScores gr_letterScores gr_size tx_letters tx_length va_scores va_knownEnds hi_begins hi_lengths hi_scores hi_taken hi_count de_states de_begins de_lengths de_length) sz [.int a1]) (xQi (dC, dI) classes (wX ty ad co_rows co_marks co_rowSets co_partners co_open co_count tr_kinds tr_lefts tr_rights tr_seconds tr_size gr_kinds gr_nodes gr_rowSets gr_firstStates gr_targetCounts gr_targets gr_stepScores gr_letterScores gr_size tx_letters tx_length va_scores va_knownEnds hi_begins hi_lengths hi_scores hi_taken hi_count de_states de_begins de_lengths de_length) (wX ty ad co_rows co_marks co_rowSets co_partners co_open co_count tr_kinds tr_lefts tr_rights tr_seconds tr_size gr_kinds gr_nodes gr_rowSets gr_firstStates gr_targetCounts gr_targets gr_stepScores gr_letterScores gr_size tx_letters tx_length va_scores va_knownEnds hi_begins hi_lengths hi_scores hi_taken hi_count de_states de_begins de_lengths de_length) sz r0) 0 0 (va_A (wX ty ad co_rows co_marks co_rowSets co_partners co_open co_count tr_kinds tr_lefts tr_rights tr_seconds tr_size gr_kinds gr_nodes gr_rowSets gr_firstStates gr_targetCounts gr_targets gr_stepScores gr_letterScores gr_size tx_letters tx_length va_scores va_knownEnds hi_begins hi_lengths hi_scores hi_taken hi_count de_states de_begins de_lengths de_length) sz) := by
  refine xmet_i rfl (Nat.le_of_ble_eq_true rfl) ?_
  intro p e s m below meth c A ls Q hx hb hml hts hown hK hN hA hP hD hS hl hret
  replace hown : s.vm.findClass R_Fa = some m.cls := hown
  have hl : lv_has ls 1 [(0, .int a1)] := hl
  rw [f_Fa_lettersOf] at hf
  obtain ⟨H, eH⟩ : ∃ H : Heap, H = s.heap := ⟨_, rfl⟩
  obtain ⟨locs, eL⟩ : ∃ L : List Loc, L = [] := ⟨_, rfl⟩
  have hP : va_P (dC, dI) classes (wX ty ad co_rows co_marks co_rowSets co_partners co_open co_count tr_kinds tr_lefts tr_rights tr_seconds tr_size gr_kinds gr_nodes gr_rowSets gr_firstStates gr_targetCounts gr_targets gr_stepScores gr_letterScores gr_size tx_letters tx_length va_scores va_knownEnds hi_begins hi_lengths hi_scores hi_taken hi_count de_states de_begins de_lengths de_length) H := by rw [eH]; exact hP
  have hS : va_S A s.heap H locs := by rw [eH, eL]; exact hS
  rw [← eL]
  suffices hgoal : W p l e rm_Fa_lettersOf s m (List.toArray [.int a1]) below meth c H locs 0 0 Q (F0 m 0 ls []) by rw [eH] at hgoal; exact hgoal
  clear eH eL
  refine lv_iload_n hx hb d_Fa_lettersOf_0 rfl (lv_at hl 0 rfl) ?_
  obtain ⟨r1, hc2, hf⟩ := ob1_inv hf
  refine xk_i (xrunS (As := [.int a1]) (rest := []) ⟨hx, hb, hml, hown, hts⟩ (c_Fa_lettersBefore l dC dI ty ad ta H.size co_rows co_marks co_rowSets co_partners co_open co_count tr_kinds tr_lefts tr_rights tr_seconds tr_size gr_kinds gr_nodes gr_rowSets gr_firstStates gr_targetCounts gr_targets gr_stepScores gr_letterScores gr_size tx_letters tx_length va_scores va_knownEnds hi_begins hi_lengths hi_scores hi_taken hi_count de_states de_begins de_lengths de_length a1 r1 hc2) z_Fa_194 ⟨⟨rfl, rfl⟩, by decide, by decide⟩ hK hP hD hN hS hA rfl hl.1 rfl (Nat.le_of_ble_eq_true rfl) d_Fa_lettersOf_1 ⟨Nat.zero_le _, Nat.zero_le _⟩) hS hD rfl hA (fun H locs hP hD hS => ?_)
  refine W.eq (g2 := F0 m 4 ls [.int r1]) rfl ?_
  refine lv_iload_n hx hb d_Fa_lettersOf_4 rfl (lv_at hl 0 rfl) ?_
  obtain ⟨r3, hc4, hf⟩ := ob1_inv hf
  refine xk_i (xrunS (As := [.int a1]) (rest := [.int r1]) ⟨hx, hb, hml, hown, hts⟩ (c_Fa_lettersBehind l dC dI ty ad ta H.size co_rows co_marks co_rowSets co_partners co_open co_count tr_kinds tr_lefts tr_rights tr_seconds tr_size gr_kinds gr_nodes gr_rowSets gr_firstStates gr_targetCounts gr_targets gr_stepScores gr_letterScores gr_size tx_letters tx_length va_scores va_knownEnds hi_begins hi_lengths hi_scores hi_taken hi_count de_states de_begins de_lengths de_length a1 r3 hc4) z_Fa_197 ⟨⟨rfl, rfl⟩, by decide, by decide⟩ hK hP hD hN hS hA rfl hl.1 rfl (Nat.le_of_ble_eq_true rfl) d_Fa_lettersOf_5 ⟨Nat.zero_le _, Nat.zero_le _⟩) hS hD rfl hA (fun H locs hP hD hS => ?_)
  refine W.eq (g2 := F0 m 8 ls [.int r3, .int r1]) rfl ?_
  refine lv_iadd hx hb d_Fa_lettersOf_8 ?_
  obtain rfl := os1 hf
  exact hret H locs _ _ _ d_Fa_lettersOf_9 rfl hP hS
def f_Gr_rowsWithLetters (co_rowSets : (Nat → Int32)) (tr_lefts : (Nat → Int32)) (tr_rights : (Nat → Int32)) (gr_kinds : (Nat → Int32)) (gr_nodes : (Nat → Int32)) (a1 : Int32) (a2 : Int32) (a3 : Int32) : Option (Int32) := gd (xin a1 43) (ob1 (f_Tr_left tr_lefts (gr_nodes (Int32.toNatClampNeg a1))) (fun r2 => gd (xin a1 43) (ob1 (f_Tr_right tr_rights (gr_nodes (Int32.toNatClampNeg a1))) (fun r5 => gd (xin a1 43) (if (gr_kinds (Int32.toNatClampNeg a1)) = (1 : Int32) then (ob1 (f_Co_rowsWith co_rowSets r2 a2) (fun r9 => ob1 (f_Co_rowsWith co_rowSets r5 a3) (fun r11 => some ((r9 &&& r11))))) else (if (gr_kinds (Int32.toNatClampNeg a1)) = (2 : Int32) then (ob1 (f_Co_rowsWith co_rowSets r2 a2) (fun r14 => some (r14))) else (ob1 (f_Co_rowsWith co_rowSets r5 a2) (fun r16 => some (r16)))))))))
set_option maxHeartbeats 4000000 in
set_option maxRecDepth 100000 in
theorem c_Gr_rowsWithLetters (l : Launch) (dC : Nat → ClassId) (dI : Nat → Nat → Nat) (ty : Nat → ClassId) (ad : Nat → Nat) (ta : Nat → Nat) (sz : Nat) (co_rows : Int32) (co_marks : (Nat → Int32)) (co_rowSets : (Nat → Int32)) (co_partners : (Nat → Int32)) (co_open : (Nat → Int32)) (co_count : Int32) (tr_kinds : (Nat → Int32)) (tr_lefts : (Nat → Int32)) (tr_rights : (Nat → Int32)) (tr_seconds : (Nat → Int32)) (tr_size : Int32) (gr_kinds : (Nat → Int32)) (gr_nodes : (Nat → Int32)) (gr_rowSets : (Nat → Int32)) (gr_firstStates : (Nat → Int32)) (gr_targetCounts : (Nat → Int32)) (gr_targets : (Nat → Int32)) (gr_stepScores : (Nat → Int32)) (gr_letterScores : (Nat → Int32)) (gr_size : Int32) (tx_letters : (Nat → Int32)) (tx_length : Int32) (va_scores : (Nat → Int32)) (va_knownEnds : Int32) (hi_begins : (Nat → Int32)) (hi_lengths : (Nat → Int32)) (hi_scores : (Nat → Int32)) (hi_taken : (Nat → Int32)) (hi_count : Int32) (de_states : (Nat → Int32)) (de_begins : (Nat → Int32)) (de_lengths : (Nat → Int32)) (de_length : Int32) (a1 : Int32) (a2 : Int32) (a3 : Int32) (r0 : Int32) (hf : f_Gr_rowsWithLetters co_rowSets tr_lefts tr_rights gr_kinds gr_nodes a1 a2 a3 = some (r0)) : Met l y_Gr_rowsWithLetters (.code y_Gr_rowsWithLetters prog_4_method_21_code 6 (some .int) :: gw) rm_Gr_rowsWithLetters (xPre ta (dC, dI) classes (tys3 ty) (wX ty ad co_rows co_marks co_rowSets co_partners co_open co_count tr_kinds tr_lefts tr_rights tr_seconds tr_size gr_kinds gr_nodes gr_rowSets gr_firstStates gr_targetCounts gr_targets gr_stepScores gr_letterScores gr_size tx_letters tx_length va_scores va_knownEnds hi_begins hi_lengths hi_scores hi_taken hi_count de_states de_begins de_lengths de_length) sz [.ref (ad 11), .int a1, .int a2, .int a3]) (xQi (dC, dI) classes (wX ty ad co_rows co_marks co_rowSets co_partners co_open co_count tr_kinds tr_lefts tr_rights tr_seconds tr_size gr_kinds gr_nodes gr_rowSets gr_firstStates gr_targetCounts gr_targets gr_stepScores gr_letterScores gr_size tx_letters tx_length va_scores va_knownEnds hi_begins hi_lengths hi_scores hi_taken hi_count de_states de_begins de_lengths de_length) (wX ty ad co_rows co_marks co_rowSets co_partners co_open co_count tr_kinds tr_lefts tr_rights tr_seconds tr_size gr_kinds gr_nodes gr_rowSets gr_firstStates gr_targetCounts gr_targets gr_stepScores gr_letterScores gr_size tx_letters tx_length va_scores va_knownEnds hi_begins hi_lengths hi_scores hi_taken hi_count de_states de_begins de_lengths de_length) sz r0) 0 0 (va_A (wX ty ad co_rows co_marks co_rowSets co_partners co_open co_count tr_kinds tr_lefts tr_rights tr_seconds tr_size gr_kinds gr_nodes gr_rowSets gr_firstStates gr_targetCounts gr_targets gr_stepScores gr_letterScores gr_size tx_letters tx_length va_scores va_knownEnds hi_begins hi_lengths hi_scores hi_taken hi_count de_states de_begins de_lengths de_length) sz) := by
  refine xmet_i rfl (Nat.le_of_ble_eq_true rfl) ?_
  intro p e s m below meth c A ls Q hx hb hml hts hown hK hN hA hP hD hS hl hret
  replace hown : s.vm.findClass R_Gr = some m.cls := hown
  have hl : lv_has ls 6 [(0, .ref (ad 11)), (1, .int a1), (2, .int a2), (3, .int a3)] := hl
  rw [f_Gr_rowsWithLetters] at hf
  obtain ⟨H, eH⟩ : ∃ H : Heap, H = s.heap := ⟨_, rfl⟩
  obtain ⟨locs, eL⟩ : ∃ L : List Loc, L = [] := ⟨_, rfl⟩
  have hP : va_P (dC, dI) classes (wX ty ad co_rows co_marks co_rowSets co_partners co_open co_count tr_kinds tr_lefts tr_rights tr_seconds tr_size gr_kinds gr_nodes gr_rowSets gr_firstStates gr_targetCounts gr_targets gr_stepScores gr_letterScores gr_size tx_letters tx_length va_scores va_knownEnds hi_begins hi_lengths hi_scores hi_taken hi_count de_states de_begins de_lengths de_length) H := by rw [eH]; exact hP
  have hS : va_S A s.heap H locs := by rw [eH, eL]; exact hS
  rw [← eL]
  suffices hgoal : W p l e rm_Gr_rowsWithLetters s m (List.toArray [.ref (ad 11), .int a1, .int a2, .int a3]) below meth c H locs 0 0 Q (F0 m 0 ls []) by rw [eH] at hgoal; exact hgoal
  clear eH eL
  refine lv_aload_n hx hb d_Gr_rowsWithLetters_0 rfl (lv_at hl 0 rfl) ?_
  refine va_get (D := (dC, dI)) (ci := 3) (v := .ref (ad 6)) (C := R_Gr) (T := F_Gr) (N := 11) hx hb hts iw_Gr hown hK hP 11 rfl rfl 1 (by decide) (hts _ m_133) (fun _ h9 => h9) rfl d_Gr_rowsWithLetters_1 ?_
  refine lv_aload_n hx hb d_Gr_rowsWithLetters_4 rfl (lv_at hl 0 rfl) ?_
  refine va_get (D := (dC, dI)) (ci := 3) (v := .ref (ad 13)) (C := R_Gr) (T := F_Gr) (N := 11) hx hb hts iw_Gr hown hK hP 11 rfl rfl 3 (by decide) (hts _ m_135) (fun _ h9 => h9) rfl d_Gr_rowsWithLetters_5 ?_
  refine lv_iload_n hx hb d_Gr_rowsWithLetters_8 rfl (lv_at hl 1 rfl) ?_
  obtain ⟨hi1, hf⟩ := gdi hf
  refine va_iald hx hb hK hP 13 0 rfl rfl hi1 d_Gr_rowsWithLetters_9 ?_
  obtain ⟨r2, hc3, hf⟩ := ob1_inv hf
  refine xk_i (xrunV (C := R_Tr) (As := [.int (gr_nodes (Int32.toNatClampNeg a1))]) (rest := []) ⟨hx, hb, hml, hown, hts⟩ (c_Tr_left l dC dI ty ad ta H.size co_rows co_marks co_rowSets co_partners co_open co_count tr_kinds tr_lefts tr_rights tr_seconds tr_size gr_kinds gr_nodes gr_rowSets gr_firstStates gr_targetCounts gr_targets gr_stepScores gr_letterScores gr_size tx_letters tx_length va_scores va_knownEnds hi_begins hi_lengths hi_scores hi_taken hi_count de_states de_begins de_lengths de_length (gr_nodes (Int32.toNatClampNeg a1)) r2 hc3) z_Gr_87 ⟨⟨rfl, rfl⟩, by decide, by decide⟩ hK hP hD hN hS hA (va_recv hK hP (ci := 2) (q0 := 6) rfl rfl) rfl hl.1 rfl (Nat.le_of_ble_eq_true rfl) d_Gr_rowsWithLetters_10 ⟨Nat.zero_le _, Nat.zero_le _⟩) hS hD rfl hA (fun H locs hP hD hS => ?_)
  refine W.eq (g2 := F0 m 13 ls [.int r2]) rfl ?_
  refine lv_istore (lv' := [(4, .int r2), (0, .ref (ad 11)), (1, .int a1), (2, .int a2), (3, .int a3)]) hx hb d_Gr_rowsWithLetters_13 hl (by decide) rfl (fun ls hl => ?_)
  refine lv_aload_n hx hb d_Gr_rowsWithLetters_15 rfl (lv_at hl 1 rfl) ?_
  refine va_get (D := (dC, dI)) (ci := 3) (v := .ref (ad 6)) (C := R_Gr) (T := F_Gr) (N := 11) hx hb hts iw_Gr hown hK hP 11 rfl rfl 1 (by decide) (hts _ m_133) (fun _ h9 => h9) rfl d_Gr_rowsWithLetters_16 ?_
  refine lv_aload_n hx hb d_Gr_rowsWithLetters_19 rfl (lv_at hl 1 rfl) ?_
  refine va_get (D := (dC, dI)) (ci := 3) (v := .ref (ad 13)) (C := R_Gr) (T := F_Gr) (N := 11) hx hb hts iw_Gr hown hK hP 11 rfl rfl 3 (by decide) (hts _ m_135) (fun _ h9 => h9) rfl d_Gr_rowsWithLetters_20 ?_
  refine lv_iload_n hx hb d_Gr_rowsWithLetters_23 rfl (lv_at hl 2 rfl) ?_
  obtain ⟨hi4, hf⟩ := gdi hf
  refine va_iald hx hb hK hP 13 0 rfl rfl hi4 d_Gr_rowsWithLetters_24 ?_
  obtain ⟨r5, hc6, hf⟩ := ob1_inv hf
  refine xk_i (xrunV (C := R_Tr) (As := [.int (gr_nodes (Int32.toNatClampNeg a1))]) (rest := []) ⟨hx, hb, hml, hown, hts⟩ (c_Tr_right l dC dI ty ad ta H.size co_rows co_marks co_rowSets co_partners co_open co_count tr_kinds tr_lefts tr_rights tr_seconds tr_size gr_kinds gr_nodes gr_rowSets gr_firstStates gr_targetCounts gr_targets gr_stepScores gr_letterScores gr_size tx_letters tx_length va_scores va_knownEnds hi_begins hi_lengths hi_scores hi_taken hi_count de_states de_begins de_lengths de_length (gr_nodes (Int32.toNatClampNeg a1)) r5 hc6) z_Gr_93 ⟨⟨rfl, rfl⟩, by decide, by decide⟩ hK hP hD hN hS hA (va_recv hK hP (ci := 2) (q0 := 6) rfl rfl) rfl hl.1 rfl (Nat.le_of_ble_eq_true rfl) d_Gr_rowsWithLetters_25 ⟨Nat.zero_le _, Nat.zero_le _⟩) hS hD rfl hA (fun H locs hP hD hS => ?_)
  refine W.eq (g2 := F0 m 28 ls [.int r5]) rfl ?_
  refine lv_istore (lv' := [(5, .int r5), (4, .int r2), (0, .ref (ad 11)), (1, .int a1), (2, .int a2), (3, .int a3)]) hx hb d_Gr_rowsWithLetters_28 hl (by decide) rfl (fun ls hl => ?_)
  refine lv_aload_n hx hb d_Gr_rowsWithLetters_30 rfl (lv_at hl 2 rfl) ?_
  refine va_get (D := (dC, dI)) (ci := 3) (v := .ref (ad 12)) (C := R_Gr) (T := F_Gr) (N := 11) hx hb hts iw_Gr hown hK hP 11 rfl rfl 2 (by decide) (hts _ m_134) (fun _ h9 => h9) rfl d_Gr_rowsWithLetters_31 ?_
  refine lv_iload_n hx hb d_Gr_rowsWithLetters_34 rfl (lv_at hl 3 rfl) ?_
  obtain ⟨hi7, hf⟩ := gdi hf
  refine va_iald hx hb hK hP 12 0 rfl rfl hi7 d_Gr_rowsWithLetters_35 ?_
  by_cases c8 : (gr_kinds (Int32.toNatClampNeg a1)) = (1 : Int32)
  · have hf := xif_t c8 hf
    refine lv_lookup (off := 28) (tgt := 64) hx hb d_Gr_rowsWithLetters_36 (by decide) (by rw [c8]; decide) (by decide) ?_
    refine lv_aload_n hx hb d_Gr_rowsWithLetters_64 rfl (lv_at hl 2 rfl) ?_
    refine va_get (D := (dC, dI)) (ci := 3) (v := .ref (ad 1)) (C := R_Gr) (T := F_Gr) (N := 11) hx hb hts iw_Gr hown hK hP 11 rfl rfl 0 (by decide) (hts _ m_132) (fun _ h9 => h9) rfl d_Gr_rowsWithLetters_65 ?_
    refine lv_iload hx hb d_Gr_rowsWithLetters_68 (lv_at hl 1 rfl) ?_
    refine lv_iload_n hx hb d_Gr_rowsWithLetters_70 rfl (lv_at hl 4 rfl) ?_
    obtain ⟨r9, hc10, hf⟩ := ob1_inv hf
    refine xk_i (xrunV (C := R_Co) (As := [.int r2, .int a2]) (rest := []) ⟨hx, hb, hml, hown, hts⟩ (c_Co_rowsWith l dC dI ty ad ta H.size co_rows co_marks co_rowSets co_partners co_open co_count tr_kinds tr_lefts tr_rights tr_seconds tr_size gr_kinds gr_nodes gr_rowSets gr_firstStates gr_targetCounts gr_targets gr_stepScores gr_letterScores gr_size tx_letters tx_length va_scores va_knownEnds hi_begins hi_lengths hi_scores hi_taken hi_count de_states de_begins de_lengths de_length r2 a2 r9 hc10) z_Gr_131 ⟨⟨rfl, rfl⟩, by decide, by decide⟩ hK hP hD hN hS hA (va_recv hK hP (ci := 1) (q0 := 1) rfl rfl) rfl hl.1 rfl (Nat.le_of_ble_eq_true rfl) d_Gr_rowsWithLetters_71 ⟨Nat.zero_le _, Nat.zero_le _⟩) hS hD rfl hA (fun H locs hP hD hS => ?_)
    refine W.eq (g2 := F0 m 74 ls [.int r9]) rfl ?_
    refine lv_aload_n hx hb d_Gr_rowsWithLetters_74 rfl (lv_at hl 2 rfl) ?_
    refine va_get (D := (dC, dI)) (ci := 3) (v := .ref (ad 1)) (C := R_Gr) (T := F_Gr) (N := 11) hx hb hts iw_Gr hown hK hP 11 rfl rfl 0 (by decide) (hts _ m_132) (fun _ h9 => h9) rfl d_Gr_rowsWithLetters_75 ?_
    refine lv_iload hx hb d_Gr_rowsWithLetters_78 (lv_at hl 0 rfl) ?_
    refine lv_iload_n hx hb d_Gr_rowsWithLetters_80 rfl (lv_at hl 5 rfl) ?_
    obtain ⟨r11, hc12, hf⟩ := ob1_inv hf
    refine xk_i (xrunV (C := R_Co) (As := [.int r5, .int a3]) (rest := [.int r9]) ⟨hx, hb, hml, hown, hts⟩ (c_Co_rowsWith l dC dI ty ad ta H.size co_rows co_marks co_rowSets co_partners co_open co_count tr_kinds tr_lefts tr_rights tr_seconds tr_size gr_kinds gr_nodes gr_rowSets gr_firstStates gr_targetCounts gr_targets gr_stepScores gr_letterScores gr_size tx_letters tx_length va_scores va_knownEnds hi_begins hi_lengths hi_scores hi_taken hi_count de_states de_begins de_lengths de_length r5 a3 r11 hc12) z_Gr_131 ⟨⟨rfl, rfl⟩, by decide, by decide⟩ hK hP hD hN hS hA (va_recv hK hP (ci := 1) (q0 := 1) rfl rfl) rfl hl.1 rfl (Nat.le_of_ble_eq_true rfl) d_Gr_rowsWithLetters_81 ⟨Nat.zero_le _, Nat.zero_le _⟩) hS hD rfl hA (fun H locs hP hD hS => ?_)
    refine W.eq (g2 := F0 m 84 ls [.int r11, .int r9]) rfl ?_
    refine lv_iand hx hb d_Gr_rowsWithLetters_84 ?_
    obtain rfl := os1 hf
    exact hret H locs _ _ _ d_Gr_rowsWithLetters_85 rfl hP hS
  · have hf := xif_f c8 hf
    by_cases c13 : (gr_kinds (Int32.toNatClampNeg a1)) = (2 : Int32)
    · have hf := xif_t c13 hf
      refine lv_lookup (off := 50) (tgt := 86) hx hb d_Gr_rowsWithLetters_36 (by decide) (by rw [c13]; decide) (by decide) ?_
      refine lv_aload_n hx hb d_Gr_rowsWithLetters_86 rfl (lv_at hl 2 rfl) ?_
      refine va_get (D := (dC, dI)) (ci := 3) (v := .ref (ad 1)) (C := R_Gr) (T := F_Gr) (N := 11) hx hb hts iw_Gr hown hK hP 11 rfl rfl 0 (by decide) (hts _ m_132) (fun _ h9 => h9) rfl d_Gr_rowsWithLetters_87 ?_
      refine lv_iload hx hb d_Gr_rowsWithLetters_90 (lv_at hl 1 rfl) ?_
      refine lv_iload_n hx hb d_Gr_rowsWithLetters_92 rfl (lv_at hl 4 rfl) ?_
      obtain ⟨r14, hc15, hf⟩ := ob1_inv hf
      refine xk_i (xrunV (C := R_Co) (As := [.int r2, .int a2]) (rest := []) ⟨hx, hb, hml, hown, hts⟩ (c_Co_rowsWith l dC dI ty ad ta H.size co_rows co_marks co_rowSets co_partners co_open co_count tr_kinds tr_lefts tr_rights tr_seconds tr_size gr_kinds gr_nodes gr_rowSets gr_firstStates gr_targetCounts gr_targets gr_stepScores gr_letterScores gr_size tx_letters tx_length va_scores va_knownEnds hi_begins hi_lengths hi_scores hi_taken hi_count de_states de_begins de_lengths de_length r2 a2 r14 hc15) z_Gr_131 ⟨⟨rfl, rfl⟩, by decide, by decide⟩ hK hP hD hN hS hA (va_recv hK hP (ci := 1) (q0 := 1) rfl rfl) rfl hl.1 rfl (Nat.le_of_ble_eq_true rfl) d_Gr_rowsWithLetters_93 ⟨Nat.zero_le _, Nat.zero_le _⟩) hS hD rfl hA (fun H locs hP hD hS => ?_)
      refine W.eq (g2 := F0 m 96 ls [.int r14]) rfl ?_
      obtain rfl := os1 hf
      exact hret H locs _ _ _ d_Gr_rowsWithLetters_96 rfl hP hS
    · have hf := xif_f c13 hf
      refine lv_lookup (off := 61) (tgt := 97) hx hb d_Gr_rowsWithLetters_36 (by decide) (by rw [lv_osw (k := (1 : Int32)) (a := 1) c8 rfl]; rw [lv_osw (k := (2 : Int32)) (a := 2) c13 rfl]; rfl) (by decide) ?_
      refine lv_aload_n hx hb d_Gr_rowsWithLetters_97 rfl (lv_at hl 2 rfl) ?_
      refine va_get (D := (dC, dI)) (ci := 3) (v := .ref (ad 1)) (C := R_Gr) (T := F_Gr) (N := 11) hx hb hts iw_Gr hown hK hP 11 rfl rfl 0 (by decide) (hts _ m_132) (fun _ h9 => h9) rfl d_Gr_rowsWithLetters_98 ?_
      refine lv_iload hx hb d_Gr_rowsWithLetters_101 (lv_at hl 0 rfl) ?_
      refine lv_iload_n hx hb d_Gr_rowsWithLetters_103 rfl (lv_at hl 4 rfl) ?_
      obtain ⟨r16, hc17, hf⟩ := ob1_inv hf
      refine xk_i (xrunV (C := R_Co) (As := [.int r5, .int a2]) (rest := []) ⟨hx, hb, hml, hown, hts⟩ (c_Co_rowsWith l dC dI ty ad ta H.size co_rows co_marks co_rowSets co_partners co_open co_count tr_kinds tr_lefts tr_rights tr_seconds tr_size gr_kinds gr_nodes gr_rowSets gr_firstStates gr_targetCounts gr_targets gr_stepScores gr_letterScores gr_size tx_letters tx_length va_scores va_knownEnds hi_begins hi_lengths hi_scores hi_taken hi_count de_states de_begins de_lengths de_length r5 a2 r16 hc17) z_Gr_131 ⟨⟨rfl, rfl⟩, by decide, by decide⟩ hK hP hD hN hS hA (va_recv hK hP (ci := 1) (q0 := 1) rfl rfl) rfl hl.1 rfl (Nat.le_of_ble_eq_true rfl) d_Gr_rowsWithLetters_104 ⟨Nat.zero_le _, Nat.zero_le _⟩) hS hD rfl hA (fun H locs hP hD hS => ?_)
      refine W.eq (g2 := F0 m 107 ls [.int r16]) rfl ?_
      obtain rfl := os1 hf
      exact hret H locs _ _ _ d_Gr_rowsWithLetters_107 rfl hP hS
