/-! pure functions and contracts of Hi_has, Hi_begin, Hi_letters, Va_bestSplit, Va_grammar, Va_bestTarget, De_note (written by wip/gen) -/
def f_Hi_has (hi_count : Int32) (a1 : Int32) : Option (Int32) := if a1 < (0 : Int32) then (some ((0 : Int32))) else (if hi_count ≤ a1 then (some ((0 : Int32))) else (some ((1 : Int32))))
set_option maxHeartbeats 4000000 in
set_option maxRecDepth 100000 in
theorem c_Hi_has (l : Launch) (dC : Nat → ClassId) (dI : Nat → Nat → Nat) (ty : Nat → ClassId) (ad : Nat → Nat) (sz : Nat) (co_rows : Int32) (co_marks : (Nat → Int32)) (co_rowSets : (Nat → Int32)) (co_partners : (Nat → Int32)) (co_open : (Nat → Int32)) (co_count : Int32) (tr_kinds : (Nat → Int32)) (tr_lefts : (Nat → Int32)) (tr_rights : (Nat → Int32)) (tr_seconds : (Nat → Int32)) (tr_size : Int32) (gr_kinds : (Nat → Int32)) (gr_nodes : (Nat → Int32)) (gr_rowSets : (Nat → Int32)) (gr_firstStates : (Nat → Int32)) (gr_targetCounts : (Nat → Int32)) (gr_targets : (Nat → Int32)) (gr_stepScores : (Nat → Int32)) (gr_letterScores : (Nat → Int32)) (gr_size : Int32) (tx_letters : (Nat → Int32)) (tx_length : Int32) (va_scores : (Nat → Int32)) (va_knownEnds : Int32) (hi_begins : (Nat → Int32)) (hi_lengths : (Nat → Int32)) (hi_scores : (Nat → Int32)) (hi_taken : (Nat → Int32)) (hi_count : Int32) (de_states : (Nat → Int32)) (de_begins : (Nat → Int32)) (de_lengths : (Nat → Int32)) (de_length : Int32) (a1 : Int32) (r0 : Int32) (hf : f_Hi_has hi_count a1 = some (r0)) : Met l y_Hi_has (.code y_Hi_has prog_5_method_4_code 2 (some .boolean) :: gw) rm_Hi_has (xPre (dC, dI) classes (tys3 ty) (wX ty ad co_rows co_marks co_rowSets co_partners co_open co_count tr_kinds tr_lefts tr_rights tr_seconds tr_size gr_kinds gr_nodes gr_rowSets gr_firstStates gr_targetCounts gr_targets gr_stepScores gr_letterScores gr_size tx_letters tx_length va_scores va_knownEnds hi_begins hi_lengths hi_scores hi_taken hi_count de_states de_begins de_lengths de_length) sz [.ref (ad 24), .int a1]) (xQi (dC, dI) classes (wX ty ad co_rows co_marks co_rowSets co_partners co_open co_count tr_kinds tr_lefts tr_rights tr_seconds tr_size gr_kinds gr_nodes gr_rowSets gr_firstStates gr_targetCounts gr_targets gr_stepScores gr_letterScores gr_size tx_letters tx_length va_scores va_knownEnds hi_begins hi_lengths hi_scores hi_taken hi_count de_states de_begins de_lengths de_length) (wX ty ad co_rows co_marks co_rowSets co_partners co_open co_count tr_kinds tr_lefts tr_rights tr_seconds tr_size gr_kinds gr_nodes gr_rowSets gr_firstStates gr_targetCounts gr_targets gr_stepScores gr_letterScores gr_size tx_letters tx_length va_scores va_knownEnds hi_begins hi_lengths hi_scores hi_taken hi_count de_states de_begins de_lengths de_length) sz r0) 0 0 (va_A (wX ty ad co_rows co_marks co_rowSets co_partners co_open co_count tr_kinds tr_lefts tr_rights tr_seconds tr_size gr_kinds gr_nodes gr_rowSets gr_firstStates gr_targetCounts gr_targets gr_stepScores gr_letterScores gr_size tx_letters tx_length va_scores va_knownEnds hi_begins hi_lengths hi_scores hi_taken hi_count de_states de_begins de_lengths de_length) sz) := by
  refine xmet_z rfl (Nat.le_of_ble_eq_true rfl) ?_
  intro p e s m below meth c A ls Q hx hb hml hts hown hK hN hA hP hD hS hl hret
  replace hown : s.vm.findClass R_Hi = some m.cls := hown
  have hl : lv_has ls 2 [(0, .ref (ad 24)), (1, .int a1)] := hl
  rw [f_Hi_has] at hf
  obtain ⟨H, eH⟩ : ∃ H : Heap, H = s.heap := ⟨_, rfl⟩
  obtain ⟨locs, eL⟩ : ∃ L : List Loc, L = [] := ⟨_, rfl⟩
  have hP : va_P (dC, dI) classes (wX ty ad co_rows co_marks co_rowSets co_partners co_open co_count tr_kinds tr_lefts tr_rights tr_seconds tr_size gr_kinds gr_nodes gr_rowSets gr_firstStates gr_targetCounts gr_targets gr_stepScores gr_letterScores gr_size tx_letters tx_length va_scores va_knownEnds hi_begins hi_lengths hi_scores hi_taken hi_count de_states de_begins de_lengths de_length) H := by rw [eH]; exact hP
  have hS : va_S A s.heap H locs := by rw [eH, eL]; exact hS
  rw [← eL]
  suffices hgoal : W p l e rm_Hi_has s m (List.toArray [.ref (ad 24), .int a1]) below meth c H locs 0 0 Q (F0 m 0 ls []) by rw [eH] at hgoal; exact hgoal
  clear eH eL
  refine lv_iload_n hx hb d_Hi_has_0 rfl (lv_at hl 1 rfl) ?_
  refine lv_if_lt (tgt := 16) hx hb d_Hi_has_1 (by decide) (fun c1 => ?_) (fun c1 => ?_)
  · have hf := xif_t c1 hf
    refine lv_iconst (v := 0) hx hb d_Hi_has_16 (by decide) ?_
    obtain rfl := os1 hf
    exact hret H locs _ _ _ d_Hi_has_17 rfl rfl hP hS
  · have hf := xif_f c1 hf
    refine lv_iload_n hx hb d_Hi_has_4 rfl (lv_at hl 1 rfl) ?_
    refine lv_aload_n hx hb d_Hi_has_5 rfl (lv_at hl 0 rfl) ?_
    refine va_get (D := (dC, dI)) (ci := 6) (v := .int hi_count) (C := R_Hi) (T := F_Hi) (N := 5) hx hb hts iw_Hi hown hK hP 24 rfl rfl 4 (by decide) (hts _ m_208) (fun _ h9 => h9) rfl d_Hi_has_6 ?_
    refine lv_icmp_ge (tgt := 16) hx hb d_Hi_has_9 (by decide) (fun c2 => ?_) (fun c2 => ?_)
    · have hf := xif_t c2 hf
      refine lv_iconst (v := 0) hx hb d_Hi_has_16 (by decide) ?_
      obtain rfl := os1 hf
      exact hret H locs _ _ _ d_Hi_has_17 rfl rfl hP hS
    · have hf := xif_f c2 hf
      refine lv_iconst (v := 1) hx hb d_Hi_has_12 (by decide) ?_
      refine lv_goto (tgt := 17) hx hb d_Hi_has_13 (by decide) ?_
      obtain rfl := os1 hf
      exact hret H locs _ _ _ d_Hi_has_17 rfl rfl hP hS
def f_Hi_begin (hi_begins : (Nat → Int32)) (a1 : Int32) : Option (Int32) := gd (xin a1 24) (some ((hi_begins (Int32.toNatClampNeg a1))))
set_option maxHeartbeats 4000000 in
set_option maxRecDepth 100000 in
theorem c_Hi_begin (l : Launch) (dC : Nat → ClassId) (dI : Nat → Nat → Nat) (ty : Nat → ClassId) (ad : Nat → Nat) (sz : Nat) (co_rows : Int32) (co_marks : (Nat → Int32)) (co_rowSets : (Nat → Int32)) (co_partners : (Nat → Int32)) (co_open : (Nat → Int32)) (co_count : Int32) (tr_kinds : (Nat → Int32)) (tr_lefts : (Nat → Int32)) (tr_rights : (Nat → Int32)) (tr_seconds : (Nat → Int32)) (tr_size : Int32) (gr_kinds : (Nat → Int32)) (gr_nodes : (Nat → Int32)) (gr_rowSets : (Nat → Int32)) (gr_firstStates : (Nat → Int32)) (gr_targetCounts : (Nat → Int32)) (gr_targets : (Nat → Int32)) (gr_stepScores : (Nat → Int32)) (gr_letterScores : (Nat → Int32)) (gr_size : Int32) (tx_letters : (Nat → Int32)) (tx_length : Int32) (va_scores : (Nat → Int32)) (va_knownEnds : Int32) (hi_begins : (Nat → Int32)) (hi_lengths : (Nat → Int32)) (hi_scores : (Nat → Int32)) (hi_taken : (Nat → Int32)) (hi_count : Int32) (de_states : (Nat → Int32)) (de_begins : (Nat → Int32)) (de_lengths : (Nat → Int32)) (de_length : Int32) (a1 : Int32) (r0 : Int32) (hf : f_Hi_begin hi_begins a1 = some (r0)) : Met l y_Hi_begin (.code y_Hi_begin prog_5_method_5_code 2 (some .int) :: gw) rm_Hi_begin (xPre (dC, dI) classes (tys3 ty) (wX ty ad co_rows co_marks co_rowSets co_partners co_open co_count tr_kinds tr_lefts tr_rights tr_seconds tr_size gr_kinds gr_nodes gr_rowSets gr_firstStates gr_targetCounts gr_targets gr_stepScores gr_letterScores gr_size tx_letters tx_length va_scores va_knownEnds hi_begins hi_lengths hi_scores hi_taken hi_count de_states de_begins de_lengths de_length) sz [.ref (ad 24), .int a1]) (xQi (dC, dI) classes (wX ty ad co_rows co_marks co_rowSets co_partners co_open co_count tr_kinds tr_lefts tr_rights tr_seconds tr_size gr_kinds gr_nodes gr_rowSets gr_firstStates gr_targetCounts gr_targets gr_stepScores gr_letterScores gr_size tx_letters tx_length va_scores va_knownEnds hi_begins hi_lengths hi_scores hi_taken hi_count de_states de_begins de_lengths de_length) (wX ty ad co_rows co_marks co_rowSets co_partners co_open co_count tr_kinds tr_lefts tr_rights tr_seconds tr_size gr_kinds gr_nodes gr_rowSets gr_firstStates gr_targetCounts gr_targets gr_stepScores gr_letterScores gr_size tx_letters tx_length va_scores va_knownEnds hi_begins hi_lengths hi_scores hi_taken hi_count de_states de_begins de_lengths de_length) sz r0) 0 0 (va_A (wX ty ad co_rows co_marks co_rowSets co_partners co_open co_count tr_kinds tr_lefts tr_rights tr_seconds tr_size gr_kinds gr_nodes gr_rowSets gr_firstStates gr_targetCounts gr_targets gr_stepScores gr_letterScores gr_size tx_letters tx_length va_scores va_knownEnds hi_begins hi_lengths hi_scores hi_taken hi_count de_states de_begins de_lengths de_length) sz) := by
  refine xmet_i rfl (Nat.le_of_ble_eq_true rfl) ?_
  intro p e s m below meth c A ls Q hx hb hml hts hown hK hN hA hP hD hS hl hret
  replace hown : s.vm.findClass R_Hi = some m.cls := hown
  have hl : lv_has ls 2 [(0, .ref (ad 24)), (1, .int a1)] := hl
  rw [f_Hi_begin] at hf
  obtain ⟨H, eH⟩ : ∃ H : Heap, H = s.heap := ⟨_, rfl⟩
  obtain ⟨locs, eL⟩ : ∃ L : List Loc, L = [] := ⟨_, rfl⟩
  have hP : va_P (dC, dI) classes (wX ty ad co_rows co_marks co_rowSets co_partners co_open co_count tr_kinds tr_lefts tr_rights tr_seconds tr_size gr_kinds gr_nodes gr_rowSets gr_firstStates gr_targetCounts gr_targets gr_stepScores gr_letterScores gr_size tx_letters tx_length va_scores va_knownEnds hi_begins hi_lengths hi_scores hi_taken hi_count de_states de_begins de_lengths de_length) H := by rw [eH]; exact hP
  have hS : va_S A s.heap H locs := by rw [eH, eL]; exact hS
  rw [← eL]
  suffices hgoal : W p l e rm_Hi_begin s m (List.toArray [.ref (ad 24), .int a1]) below meth c H locs 0 0 Q (F0 m 0 ls []) by rw [eH] at hgoal; exact hgoal
  clear eH eL
  refine lv_aload_n hx hb d_Hi_begin_0 rfl (lv_at hl 0 rfl) ?_
  refine va_get (D := (dC, dI)) (ci := 6) (v := .ref (ad 25)) (C := R_Hi) (T := F_Hi) (N := 5) hx hb hts iw_Hi hown hK hP 24 rfl rfl 0 (by decide) (hts _ m_204) (fun _ h9 => h9) rfl d_Hi_begin_1 ?_
  refine lv_iload_n hx hb d_Hi_begin_4 rfl (lv_at hl 1 rfl) ?_
  obtain ⟨hi1, hf⟩ := gdi hf
  refine va_iald hx hb hK hP 25 0 rfl rfl hi1 d_Hi_begin_5 ?_
  obtain rfl := os1 hf
  exact hret H locs _ _ _ d_Hi_begin_6 rfl hP hS
def f_Hi_letters (hi_lengths : (Nat → Int32)) (a1 : Int32) : Option (Int32) := gd (xin a1 24) (some ((hi_lengths (Int32.toNatClampNeg a1))))
set_option maxHeartbeats 4000000 in
set_option maxRecDepth 100000 in
theorem c_Hi_letters (l : Launch) (dC : Nat → ClassId) (dI : Nat → Nat → Nat) (ty : Nat → ClassId) (ad : Nat → Nat) (sz : Nat) (co_rows : Int32) (co_marks : (Nat → Int32)) (co_rowSets : (Nat → Int32)) (co_partners : (Nat → Int32)) (co_open : (Nat → Int32)) (co_count : Int32) (tr_kinds : (Nat → Int32)) (tr_lefts : (Nat → Int32)) (tr_rights : (Nat → Int32)) (tr_seconds : (Nat → Int32)) (tr_size : Int32) (gr_kinds : (Nat → Int32)) (gr_nodes : (Nat → Int32)) (gr_rowSets : (Nat → Int32)) (gr_firstStates : (Nat → Int32)) (gr_targetCounts : (Nat → Int32)) (gr_targets : (Nat → Int32)) (gr_stepScores : (Nat → Int32)) (gr_letterScores : (Nat → Int32)) (gr_size : Int32) (tx_letters : (Nat → Int32)) (tx_length : Int32) (va_scores : (Nat → Int32)) (va_knownEnds : Int32) (hi_begins : (Nat → Int32)) (hi_lengths : (Nat → Int32)) (hi_scores : (Nat → Int32)) (hi_taken : (Nat → Int32)) (hi_count : Int32) (de_states : (Nat → Int32)) (de_begins : (Nat → Int32)) (de_lengths : (Nat → Int32)) (de_length : Int32) (a1 : Int32) (r0 : Int32) (hf : f_Hi_letters hi_lengths a1 = some (r0)) : Met l y_Hi_letters (.code y_Hi_letters prog_5_method_6_code 2 (some .int) :: gw) rm_Hi_letters (xPre (dC, dI) classes (tys3 ty) (wX ty ad co_rows co_marks co_rowSets co_partners co_open co_count tr_kinds tr_lefts tr_rights tr_seconds tr_size gr_kinds gr_nodes gr_rowSets gr_firstStates gr_targetCounts gr_targets gr_stepScores gr_letterScores gr_size tx_letters tx_length va_scores va_knownEnds hi_begins hi_lengths hi_scores hi_taken hi_count de_states de_begins de_lengths de_length) sz [.ref (ad 24), .int a1]) (xQi (dC, dI) classes (wX ty ad co_rows co_marks co_rowSets co_partners co_open co_count tr_kinds tr_lefts tr_rights tr_seconds tr_size gr_kinds gr_nodes gr_rowSets gr_firstStates gr_targetCounts gr_targets gr_stepScores gr_letterScores gr_size tx_letters tx_length va_scores va_knownEnds hi_begins hi_lengths hi_scores hi_taken hi_count de_states de_begins de_lengths de_length) (wX ty ad co_rows co_marks co_rowSets co_partners co_open co_count tr_kinds tr_lefts tr_rights tr_seconds tr_size gr_kinds gr_nodes gr_rowSets gr_firstStates gr_targetCounts gr_targets gr_stepScores gr_letterScores gr_size tx_letters tx_length va_scores va_knownEnds hi_begins hi_lengths hi_scores hi_taken hi_count de_states de_begins de_lengths de_length) sz r0) 0 0 (va_A (wX ty ad co_rows co_marks co_rowSets co_partners co_open co_count tr_kinds tr_lefts tr_rights tr_seconds tr_size gr_kinds gr_nodes gr_rowSets gr_firstStates gr_targetCounts gr_targets gr_stepScores gr_letterScores gr_size tx_letters tx_length va_scores va_knownEnds hi_begins hi_lengths hi_scores hi_taken hi_count de_states de_begins de_lengths de_length) sz) := by
  refine xmet_i rfl (Nat.le_of_ble_eq_true rfl) ?_
  intro p e s m below meth c A ls Q hx hb hml hts hown hK hN hA hP hD hS hl hret
  replace hown : s.vm.findClass R_Hi = some m.cls := hown
  have hl : lv_has ls 2 [(0, .ref (ad 24)), (1, .int a1)] := hl
  rw [f_Hi_letters] at hf
  obtain ⟨H, eH⟩ : ∃ H : Heap, H = s.heap := ⟨_, rfl⟩
  obtain ⟨locs, eL⟩ : ∃ L : List Loc, L = [] := ⟨_, rfl⟩
  have hP : va_P (dC, dI) classes (wX ty ad co_rows co_marks co_rowSets co_partners co_open co_count tr_kinds tr_lefts tr_rights tr_seconds tr_size gr_kinds gr_nodes gr_rowSets gr_firstStates gr_targetCounts gr_targets gr_stepScores gr_letterScores gr_size tx_letters tx_length va_scores va_knownEnds hi_begins hi_lengths hi_scores hi_taken hi_count de_states de_begins de_lengths de_length) H := by rw [eH]; exact hP
  have hS : va_S A s.heap H locs := by rw [eH, eL]; exact hS
  rw [← eL]
  suffices hgoal : W p l e rm_Hi_letters s m (List.toArray [.ref (ad 24), .int a1]) below meth c H locs 0 0 Q (F0 m 0 ls []) by rw [eH] at hgoal; exact hgoal
  clear eH eL
  refine lv_aload_n hx hb d_Hi_letters_0 rfl (lv_at hl 0 rfl) ?_
  refine va_get (D := (dC, dI)) (ci := 6) (v := .ref (ad 26)) (C := R_Hi) (T := F_Hi) (N := 5) hx hb hts iw_Hi hown hK hP 24 rfl rfl 1 (by decide) (hts _ m_205) (fun _ h9 => h9) rfl d_Hi_letters_1 ?_
  refine lv_iload_n hx hb d_Hi_letters_4 rfl (lv_at hl 1 rfl) ?_
  obtain ⟨hi1, hf⟩ := gdi hf
  refine va_iald hx hb hK hP 26 0 rfl rfl hi1 d_Hi_letters_5 ?_
  obtain rfl := os1 hf
  exact hret H locs _ _ _ d_Hi_letters_6 rfl hP hS
def f_Va_bestSplit_K12_48  (x5_12 : Int32) : Option (Int32) := some ((-1000000 : Int32))
def f_Va_bestSplit_L12 (gr_targets : (Nat → Int32)) (va_scores : (Nat → Int32)) (a1 : Int32) (a2 : Int32) (a3 : Int32) (r1 : Int32) (k12_48 : (Int32 → Option (Int32))) : Nat → Int32 → Option (Int32)
  | 0, _ => none
  | n12 + 1, x5_12 => if a3 < x5_12 then (k12_48 x5_12) else (if r1 = (-1000000 : Int32) then (k12_48 x5_12) else (ob1 (f_Va_throughSplit gr_targets va_scores a1 x5_12 a2 a3) (fun r5 => if r5 = r1 then (some (x5_12)) else ((f_Va_bestSplit_L12 gr_targets va_scores a1 a2 a3 r1 k12_48 n12) (x5_12 + (1 : Int32))))))
def f_Va_bestSplit (gr_targets : (Nat → Int32)) (va_scores : (Nat → Int32)) (a1 : Int32) (a2 : Int32) (a3 : Int32) : Option (Int32) := ob1 (f_Va_of va_scores a1 a2 a3) (fun r1 => f_Va_bestSplit_L12 gr_targets va_scores a1 a2 a3 r1 (f_Va_bestSplit_K12_48) 1000 (0 : Int32))
set_option maxHeartbeats 4000000 in
set_option maxRecDepth 100000 in
theorem c_Va_bestSplit (l : Launch) (dC : Nat → ClassId) (dI : Nat → Nat → Nat) (ty : Nat → ClassId) (ad : Nat → Nat) (sz : Nat) (co_rows : Int32) (co_marks : (Nat → Int32)) (co_rowSets : (Nat → Int32)) (co_partners : (Nat → Int32)) (co_open : (Nat → Int32)) (co_count : Int32) (tr_kinds : (Nat → Int32)) (tr_lefts : (Nat → Int32)) (tr_rights : (Nat → Int32)) (tr_seconds : (Nat → Int32)) (tr_size : Int32) (gr_kinds : (Nat → Int32)) (gr_nodes : (Nat → Int32)) (gr_rowSets : (Nat → Int32)) (gr_firstStates : (Nat → Int32)) (gr_targetCounts : (Nat → Int32)) (gr_targets : (Nat → Int32)) (gr_stepScores : (Nat → Int32)) (gr_letterScores : (Nat → Int32)) (gr_size : Int32) (tx_letters : (Nat → Int32)) (tx_length : Int32) (va_scores : (Nat → Int32)) (va_knownEnds : Int32) (hi_begins : (Nat → Int32)) (hi_lengths : (Nat → Int32)) (hi_scores : (Nat → Int32)) (hi_taken : (Nat → Int32)) (hi_count : Int32) (de_states : (Nat → Int32)) (de_begins : (Nat → Int32)) (de_lengths : (Nat → Int32)) (de_length : Int32) (a1 : Int32) (a2 : Int32) (a3 : Int32) (r0 : Int32) (hf : f_Va_bestSplit gr_targets va_scores a1 a2 a3 = some (r0)) : Met l y_Va_bestSplit (.code y_Va_bestSplit prog_8_method_7_code 6 (some .int) :: gw) rm_Va_bestSplit (xPre (dC, dI) classes (tys3 ty) (wX ty ad co_rows co_marks co_rowSets co_partners co_open co_count tr_kinds tr_lefts tr_rights tr_seconds tr_size gr_kinds gr_nodes gr_rowSets gr_firstStates gr_targetCounts gr_targets gr_stepScores gr_letterScores gr_size tx_letters tx_length va_scores va_knownEnds hi_begins hi_lengths hi_scores hi_taken hi_count de_states de_begins de_lengths de_length) sz [.ref (ad 22), .int a1, .int a2, .int a3]) (xQi (dC, dI) classes (wX ty ad co_rows co_marks co_rowSets co_partners co_open co_count tr_kinds tr_lefts tr_rights tr_seconds tr_size gr_kinds gr_nodes gr_rowSets gr_firstStates gr_targetCounts gr_targets gr_stepScores gr_letterScores gr_size tx_letters tx_length va_scores va_knownEnds hi_begins hi_lengths hi_scores hi_taken hi_count de_states de_begins de_lengths de_length) (wX ty ad co_rows co_marks co_rowSets co_partners co_open co_count tr_kinds tr_lefts tr_rights tr_seconds tr_size gr_kinds gr_nodes gr_rowSets gr_firstStates gr_targetCounts gr_targets gr_stepScores gr_letterScores gr_size tx_letters tx_length va_scores va_knownEnds hi_begins hi_lengths hi_scores hi_taken hi_count de_states de_begins de_lengths de_length) sz r0) 0 0 (va_A (wX ty ad co_rows co_marks co_rowSets co_partners co_open co_count tr_kinds tr_lefts tr_rights tr_seconds tr_size gr_kinds gr_nodes gr_rowSets gr_firstStates gr_targetCounts gr_targets gr_stepScores gr_letterScores gr_size tx_letters tx_length va_scores va_knownEnds hi_begins hi_lengths hi_scores hi_taken hi_count de_states de_begins de_lengths de_length) sz) := by
  refine xmet_i rfl (Nat.le_of_ble_eq_true rfl) ?_
  intro p e s m below meth c A ls Q hx hb hml hts hown hK hN hA hP hD hS hl hret
  replace hown : s.vm.findClass R_Va = some m.cls := hown
  have hl : lv_has ls 6 [(0, .ref (ad 22)), (1, .int a1), (2, .int a2), (3, .int a3)] := hl
  rw [f_Va_bestSplit] at hf
  obtain ⟨H, eH⟩ : ∃ H : Heap, H = s.heap := ⟨_, rfl⟩
  obtain ⟨locs, eL⟩ : ∃ L : List Loc, L = [] := ⟨_, rfl⟩
  have hP : va_P (dC, dI) classes (wX ty ad co_rows co_marks co_rowSets co_partners co_open co_count tr_kinds tr_lefts tr_rights tr_seconds tr_size gr_kinds gr_nodes gr_rowSets gr_firstStates gr_targetCounts gr_targets gr_stepScores gr_letterScores gr_size tx_letters tx_length va_scores va_knownEnds hi_begins hi_lengths hi_scores hi_taken hi_count de_states de_begins de_lengths de_length) H := by rw [eH]; exact hP
  have hS : va_S A s.heap H locs := by rw [eH, eL]; exact hS
  rw [← eL]
  suffices hgoal : W p l e rm_Va_bestSplit s m (List.toArray [.ref (ad 22), .int a1, .int a2, .int a3]) below meth c H locs 0 0 Q (F0 m 0 ls []) by rw [eH] at hgoal; exact hgoal
  clear eH eL
  refine lv_aload_n hx hb d_Va_bestSplit_0 rfl (lv_at hl 0 rfl) ?_
  refine lv_iload_n hx hb d_Va_bestSplit_1 rfl (lv_at hl 1 rfl) ?_
  refine lv_iload_n hx hb d_Va_bestSplit_2 rfl (lv_at hl 2 rfl) ?_
  refine lv_iload_n hx hb d_Va_bestSplit_3 rfl (lv_at hl 3 rfl) ?_
  obtain ⟨r1, hc2, hf⟩ := ob1_inv hf
  refine xk_i (xrunV (C := R_Va) (As := [.int a1, .int a2, .int a3]) (rest := []) ⟨hx, hb, hml, hown, hts⟩ (c_Va_of l dC dI ty ad H.size co_rows co_marks co_rowSets co_partners co_open co_count tr_kinds tr_lefts tr_rights tr_seconds tr_size gr_kinds gr_nodes gr_rowSets gr_firstStates gr_targetCounts gr_targets gr_stepScores gr_letterScores gr_size tx_letters tx_length va_scores va_knownEnds hi_begins hi_lengths hi_scores hi_taken hi_count de_states de_begins de_lengths de_length a1 a2 a3 r1 hc2) z_Va_45 ⟨⟨rfl, rfl⟩, by decide, by decide⟩ hK hP hD hN (va_recv hK hP (ci := 5) (q0 := 22) rfl rfl) rfl hl.1 rfl (Nat.le_of_ble_eq_true rfl) d_Va_bestSplit_4 ⟨Nat.zero_le _, Nat.zero_le _⟩) hS hD rfl hA (fun H locs hP hD hS => ?_)
  refine W.eq (g2 := F0 m 7 ls [.int r1]) rfl ?_
  refine lv_istore (lv' := [(4, .int r1), (0, .ref (ad 22)), (1, .int a1), (2, .int a2), (3, .int a3)]) hx hb d_Va_bestSplit_7 hl (by decide) rfl (fun ls hl => ?_)
  refine lv_iconst (v := 0) hx hb d_Va_bestSplit_9 (by decide) ?_
  refine lv_istore (lv' := [(5, .int (0 : Int32)), (4, .int r1), (0, .ref (ad 22)), (1, .int a1), (2, .int a2), (3, .int a3)]) hx hb d_Va_bestSplit_10 hl (by decide) rfl (fun ls hl => ?_)
  have K12_48 : ∀ (x5_12 : Int32) (H : Heap) (locs : List Loc) (ls : Array Slot), va_P (dC, dI) classes (wX ty ad co_rows co_marks co_rowSets co_partners co_open co_count tr_kinds tr_lefts tr_rights tr_seconds tr_size gr_kinds gr_nodes gr_rowSets gr_firstStates gr_targetCounts gr_targets gr_stepScores gr_letterScores gr_size tx_letters tx_length va_scores va_knownEnds hi_begins hi_lengths hi_scores hi_taken hi_count de_states de_begins de_lengths de_length) H → va_D A (wX ty ad co_rows co_marks co_rowSets co_partners co_open co_count tr_kinds tr_lefts tr_rights tr_seconds tr_size gr_kinds gr_nodes gr_rowSets gr_firstStates gr_targetCounts gr_targets gr_stepScores gr_letterScores gr_size tx_letters tx_length va_scores va_knownEnds hi_begins hi_lengths hi_scores hi_taken hi_count de_states de_begins de_lengths de_length) → va_S A s.heap H locs → lv_has ls 6 [] → f_Va_bestSplit_K12_48 x5_12 = some (r0) → W p l e rm_Va_bestSplit s m (List.toArray [.ref (ad 22), .int a1, .int a2, .int a3]) below meth c H locs 0 0 Q (F0 m 48 ls []) := by
    intro x5_12 H locs ls hP hD hS hl hf
    rw [f_Va_bestSplit_K12_48] at hf
    refine lv_ldc (v := -1000000) hx hb hown (hts _ m_560) d_Va_bestSplit_48 ?_
    obtain rfl := os1 hf
    exact hret H locs _ _ _ d_Va_bestSplit_50 rfl hP hS
  have L12 : ∀ (n12 : Nat), ∀ (x5_12 : Int32) (H : Heap) (locs : List Loc) (ls : Array Slot), va_P (dC, dI) classes (wX ty ad co_rows co_marks co_rowSets co_partners co_open co_count tr_kinds tr_lefts tr_rights tr_seconds tr_size gr_kinds gr_nodes gr_rowSets gr_firstStates gr_targetCounts gr_targets gr_stepScores gr_letterScores gr_size tx_letters tx_length va_scores va_knownEnds hi_begins hi_lengths hi_scores hi_taken hi_count de_states de_begins de_lengths de_length) H → va_D A (wX ty ad co_rows co_marks co_rowSets co_partners co_open co_count tr_kinds tr_lefts tr_rights tr_seconds tr_size gr_kinds gr_nodes gr_rowSets gr_firstStates gr_targetCounts gr_targets gr_stepScores gr_letterScores gr_size tx_letters tx_length va_scores va_knownEnds hi_begins hi_lengths hi_scores hi_taken hi_count de_states de_begins de_lengths de_length) → va_S A s.heap H locs → lv_has ls 6 [(0, .ref (ad 22)), (1, .int a1), (2, .int a2), (3, .int a3), (4, .int r1), (5, .int x5_12)] → f_Va_bestSplit_L12 gr_targets va_scores a1 a2 a3 r1 (f_Va_bestSplit_K12_48) n12 x5_12 = some (r0) → W p l e rm_Va_bestSplit s m (List.toArray [.ref (ad 22), .int a1, .int a2, .int a3]) below meth c H locs 0 0 Q (F0 m 12 ls []) := by
    intro n12
    induction n12 with
    | zero =>
      intro x5_12 H locs ls hP hD hS hl hf
      rw [f_Va_bestSplit_L12] at hf
      cases hf
    | succ n12 ih12 =>
      intro x5_12 H locs ls hP hD hS hl hf
      rw [f_Va_bestSplit_L12] at hf
      refine lv_iload hx hb d_Va_bestSplit_12 (lv_at hl 5 rfl) ?_
      refine lv_iload_n hx hb d_Va_bestSplit_14 rfl (lv_at hl 3 rfl) ?_
      refine lv_icmp_gt (tgt := 48) hx hb d_Va_bestSplit_15 (by decide) (fun c3 => ?_) (fun c3 => ?_)
      · have hf := xif_t c3 hf
        exact K12_48 x5_12 _ _ _ hP hD hS (lv_sub hl [] rfl) hf
      · have hf := xif_f c3 hf
        refine lv_iload hx hb d_Va_bestSplit_18 (lv_at hl 4 rfl) ?_
        refine lv_ldc (v := -1000000) hx hb hown (hts _ m_560) d_Va_bestSplit_20 ?_
        refine lv_icmp_eq (tgt := 48) hx hb d_Va_bestSplit_22 (by decide) (fun c4 => ?_) (fun c4 => ?_)
        · have hf := xif_t c4 hf
          exact K12_48 x5_12 _ _ _ hP hD hS (lv_sub hl [] rfl) hf
        · have hf := xif_f c4 hf
          refine lv_aload_n hx hb d_Va_bestSplit_25 rfl (lv_at hl 0 rfl) ?_
          refine lv_iload_n hx hb d_Va_bestSplit_26 rfl (lv_at hl 1 rfl) ?_
          refine lv_iload hx hb d_Va_bestSplit_27 (lv_at hl 5 rfl) ?_
          refine lv_iload_n hx hb d_Va_bestSplit_29 rfl (lv_at hl 2 rfl) ?_
          refine lv_iload_n hx hb d_Va_bestSplit_30 rfl (lv_at hl 3 rfl) ?_
          obtain ⟨r5, hc6, hf⟩ := ob1_inv hf
          refine xk_i (xrunV (C := R_Va) (As := [.int a1, .int x5_12, .int a2, .int a3]) (rest := []) ⟨hx, hb, hml, hown, hts⟩ (c_Va_throughSplit l dC dI ty ad H.size co_rows co_marks co_rowSets co_partners co_open co_count tr_kinds tr_lefts tr_rights tr_seconds tr_size gr_kinds gr_nodes gr_rowSets gr_firstStates gr_targetCounts gr_targets gr_stepScores gr_letterScores gr_size tx_letters tx_length va_scores va_knownEnds hi_begins hi_lengths hi_scores hi_taken hi_count de_states de_begins de_lengths de_length a1 x5_12 a2 a3 r5 hc6) z_Va_69 ⟨⟨rfl, rfl⟩, by decide, by decide⟩ hK hP hD hN (va_recv hK hP (ci := 5) (q0 := 22) rfl rfl) rfl hl.1 rfl (Nat.le_of_ble_eq_true rfl) d_Va_bestSplit_31 ⟨Nat.zero_le _, Nat.zero_le _⟩) hS hD rfl hA (fun H locs hP hD hS => ?_)
          refine W.eq (g2 := F0 m 34 ls [.int r5]) rfl ?_
          refine lv_iload hx hb d_Va_bestSplit_34 (lv_at hl 4 rfl) ?_
          refine lv_icmp_ne (tgt := 42) hx hb d_Va_bestSplit_36 (by decide) (fun c7 => ?_) (fun c7 => ?_)
          · have hf := xif_f c7 hf
            refine lv_iinc (v := (x5_12 + (1 : Int32))) (lv' := [(5, .int (x5_12 + (1 : Int32))), (0, .ref (ad 22)), (1, .int a1), (2, .int a2), (3, .int a3), (4, .int r1)]) hx hb d_Va_bestSplit_42 hl (k := 5) rfl rfl (by decide) rfl (fun ls hl => ?_)
            refine lv_goto (tgt := 12) hx hb d_Va_bestSplit_45 (by decide) ?_
            exact ih12 (x5_12 + (1 : Int32)) _ _ _ hP hD hS (lv_sub hl [1, 2, 3, 4, 5, 0] rfl) hf
          · have hf := xif_t c7 hf
            refine lv_iload hx hb d_Va_bestSplit_39 (lv_at hl 5 rfl) ?_
            obtain rfl := os1 hf
            exact hret H locs _ _ _ d_Va_bestSplit_41 rfl hP hS
  exact L12 1000 (0 : Int32) _ _ _ hP hD hS (lv_sub hl [2, 3, 4, 5, 1, 0] rfl) hf
def f_Va_grammar  : Option (Unit) := some ()
set_option maxHeartbeats 4000000 in
set_option maxRecDepth 100000 in
theorem c_Va_grammar (l : Launch) (dC : Nat → ClassId) (dI : Nat → Nat → Nat) (ty : Nat → ClassId) (ad : Nat → Nat) (sz : Nat) (co_rows : Int32) (co_marks : (Nat → Int32)) (co_rowSets : (Nat → Int32)) (co_partners : (Nat → Int32)) (co_open : (Nat → Int32)) (co_count : Int32) (tr_kinds : (Nat → Int32)) (tr_lefts : (Nat → Int32)) (tr_rights : (Nat → Int32)) (tr_seconds : (Nat → Int32)) (tr_size : Int32) (gr_kinds : (Nat → Int32)) (gr_nodes : (Nat → Int32)) (gr_rowSets : (Nat → Int32)) (gr_firstStates : (Nat → Int32)) (gr_targetCounts : (Nat → Int32)) (gr_targets : (Nat → Int32)) (gr_stepScores : (Nat → Int32)) (gr_letterScores : (Nat → Int32)) (gr_size : Int32) (tx_letters : (Nat → Int32)) (tx_length : Int32) (va_scores : (Nat → Int32)) (va_knownEnds : Int32) (hi_begins : (Nat → Int32)) (hi_lengths : (Nat → Int32)) (hi_scores : (Nat → Int32)) (hi_taken : (Nat → Int32)) (hi_count : Int32) (de_states : (Nat → Int32)) (de_begins : (Nat → Int32)) (de_lengths : (Nat → Int32)) (de_length : Int32)   (hf : f_Va_grammar = some ()) : Met l y_Va_grammar (.code y_Va_grammar prog_8_method_2_code 1 (some (.object "FoldedFamily$Grammar")) :: gw) rm_Va_grammar (xPre (dC, dI) classes (tys3 ty) (wX ty ad co_rows co_marks co_rowSets co_partners co_open co_count tr_kinds tr_lefts tr_rights tr_seconds tr_size gr_kinds gr_nodes gr_rowSets gr_firstStates gr_targetCounts gr_targets gr_stepScores gr_letterScores gr_size tx_letters tx_length va_scores va_knownEnds hi_begins hi_lengths hi_scores hi_taken hi_count de_states de_begins de_lengths de_length) sz [.ref (ad 22)]) (xQr (dC, dI) classes (wX ty ad co_rows co_marks co_rowSets co_partners co_open co_count tr_kinds tr_lefts tr_rights tr_seconds tr_size gr_kinds gr_nodes gr_rowSets gr_firstStates gr_targetCounts gr_targets gr_stepScores gr_letterScores gr_size tx_letters tx_length va_scores va_knownEnds hi_begins hi_lengths hi_scores hi_taken hi_count de_states de_begins de_lengths de_length) (wX ty ad co_rows co_marks co_rowSets co_partners co_open co_count tr_kinds tr_lefts tr_rights tr_seconds tr_size gr_kinds gr_nodes gr_rowSets gr_firstStates gr_targetCounts gr_targets gr_stepScores gr_letterScores gr_size tx_letters tx_length va_scores va_knownEnds hi_begins hi_lengths hi_scores hi_taken hi_count de_states de_begins de_lengths de_length) sz (ad 11)) 0 0 (va_A (wX ty ad co_rows co_marks co_rowSets co_partners co_open co_count tr_kinds tr_lefts tr_rights tr_seconds tr_size gr_kinds gr_nodes gr_rowSets gr_firstStates gr_targetCounts gr_targets gr_stepScores gr_letterScores gr_size tx_letters tx_length va_scores va_knownEnds hi_begins hi_lengths hi_scores hi_taken hi_count de_states de_begins de_lengths de_length) sz) := by
  refine xmet_r (Or.inl ⟨_, rfl⟩) rfl (Nat.le_of_ble_eq_true rfl) ?_
  intro p e s m below meth c A ls Q hx hb hml hts hown hK hN hA hP hD hS hl hret
  replace hown : s.vm.findClass R_Va = some m.cls := hown
  have hl : lv_has ls 1 [(0, .ref (ad 22))] := hl
  rw [f_Va_grammar] at hf
  obtain ⟨H, eH⟩ : ∃ H : Heap, H = s.heap := ⟨_, rfl⟩
  obtain ⟨locs, eL⟩ : ∃ L : List Loc, L = [] := ⟨_, rfl⟩
  have hP : va_P (dC, dI) classes (wX ty ad co_rows co_marks co_rowSets co_partners co_open co_count tr_kinds tr_lefts tr_rights tr_seconds tr_size gr_kinds gr_nodes gr_rowSets gr_firstStates gr_targetCounts gr_targets gr_stepScores gr_letterScores gr_size tx_letters tx_length va_scores va_knownEnds hi_begins hi_lengths hi_scores hi_taken hi_count de_states de_begins de_lengths de_length) H := by rw [eH]; exact hP
  have hS : va_S A s.heap H locs := by rw [eH, eL]; exact hS
  rw [← eL]
  suffices hgoal : W p l e rm_Va_grammar s m (List.toArray [.ref (ad 22)]) below meth c H locs 0 0 Q (F0 m 0 ls []) by rw [eH] at hgoal; exact hgoal
  clear eH eL
  refine lv_aload_n hx hb d_Va_grammar_0 rfl (lv_at hl 0 rfl) ?_
  refine va_get (D := (dC, dI)) (ci := 5) (v := .ref (ad 11)) (C := R_Va) (T := F_Va) (N := 4) hx hb hts iw_Va hown hK hP 22 rfl rfl 0 (by decide) (hts _ m_185) (fun _ h9 => h9) rfl d_Va_grammar_1 ?_
  exact hret H locs _ _ d_Va_grammar_4 hP hS
def f_Va_bestTarget_K45_93  (x6_45 : Int32) : Option (Int32) := some ((-1000000 : Int32))
def f_Va_bestTarget_L45 (gr_targetCounts : (Nat → Int32)) (gr_targets : (Nat → Int32)) (gr_stepScores : (Nat → Int32)) (va_scores : (Nat → Int32)) (a1 : Int32) (a2 : Int32) (a3 : Int32) (r4 : Int32) (r6 : Int32) (r8 : Int32) (k45_93 : (Int32 → Option (Int32))) : Nat → Int32 → Option (Int32)
  | 0, _ => none
  | n45 + 1, x6_45 => ob1 (f_Gr_targetCount gr_targetCounts a1) (fun r10 => if r10 ≤ x6_45 then (k45_93 x6_45) else (ob1 (f_Fa_lettersBefore r4) (fun r13 => ob1 (f_Fa_lettersOf r4) (fun r15 => ob1 (f_Va_throughTarget gr_targets gr_stepScores va_scores a1 x6_45 (a2 + r13) (a3 - r15)) (fun r17 => if r17 = (r6 - r8) then (some (x6_45)) else ((f_Va_bestTarget_L45 gr_targetCounts gr_targets gr_stepScores va_scores a1 a2 a3 r4 r6 r8 k45_93 n45) (x6_45 + (1 : Int32))))))))
def f_Va_bestTarget (gr_kinds : (Nat → Int32)) (gr_targetCounts : (Nat → Int32)) (gr_targets : (Nat → Int32)) (gr_stepScores : (Nat → Int32)) (gr_letterScores : (Nat → Int32)) (tx_letters : (Nat → Int32)) (va_scores : (Nat → Int32)) (a1 : Int32) (a2 : Int32) (a3 : Int32) : Option (Int32) := ob1 (f_Va_of va_scores a1 a2 a3) (fun r1 => if r1 = (-1000000 : Int32) then (some ((-1000000 : Int32))) else (ob1 (f_Gr_kindOf gr_kinds a1) (fun r4 => ob1 (f_Va_of va_scores a1 a2 a3) (fun r6 => ob1 (f_Va_emitted gr_kinds gr_letterScores tx_letters a1 a2 a3) (fun r8 => f_Va_bestTarget_L45 gr_targetCounts gr_targets gr_stepScores va_scores a1 a2 a3 r4 r6 r8 (f_Va_bestTarget_K45_93) 1000 (0 : Int32))))))
set_option maxHeartbeats 4000000 in
set_option maxRecDepth 100000 in
theorem c_Va_bestTarget (l : Launch) (dC : Nat → ClassId) (dI : Nat → Nat → Nat) (ty : Nat → ClassId) (ad : Nat → Nat) (sz : Nat) (co_rows : Int32) (co_marks : (Nat → Int32)) (co_rowSets : (Nat → Int32)) (co_partners : (Nat → Int32)) (co_open : (Nat → Int32)) (co_count : Int32) (tr_kinds : (Nat → Int32)) (tr_lefts : (Nat → Int32)) (tr_rights : (Nat → Int32)) (tr_seconds : (Nat → Int32)) (tr_size : Int32) (gr_kinds : (Nat → Int32)) (gr_nodes : (Nat → Int32)) (gr_rowSets : (Nat → Int32)) (gr_firstStates : (Nat → Int32)) (gr_targetCounts : (Nat → Int32)) (gr_targets : (Nat → Int32)) (gr_stepScores : (Nat → Int32)) (gr_letterScores : (Nat → Int32)) (gr_size : Int32) (tx_letters : (Nat → Int32)) (tx_length : Int32) (va_scores : (Nat → Int32)) (va_knownEnds : Int32) (hi_begins : (Nat → Int32)) (hi_lengths : (Nat → Int32)) (hi_scores : (Nat → Int32)) (hi_taken : (Nat → Int32)) (hi_count : Int32) (de_states : (Nat → Int32)) (de_begins : (Nat → Int32)) (de_lengths : (Nat → Int32)) (de_length : Int32) (a1 : Int32) (a2 : Int32) (a3 : Int32) (r0 : Int32) (hf : f_Va_bestTarget gr_kinds gr_targetCounts gr_targets gr_stepScores gr_letterScores tx_letters va_scores a1 a2 a3 = some (r0)) : Met l y_Va_bestTarget (.code y_Va_bestTarget prog_8_method_6_code 7 (some .int) :: gw) rm_Va_bestTarget (xPre (dC, dI) classes (tys3 ty) (wX ty ad co_rows co_marks co_rowSets co_partners co_open co_count tr_kinds tr_lefts tr_rights tr_seconds tr_size gr_kinds gr_nodes gr_rowSets gr_firstStates gr_targetCounts gr_targets gr_stepScores gr_letterScores gr_size tx_letters tx_length va_scores va_knownEnds hi_begins hi_lengths hi_scores hi_taken hi_count de_states de_begins de_lengths de_length) sz [.ref (ad 22), .int a1, .int a2, .int a3]) (xQi (dC, dI) classes (wX ty ad co_rows co_marks co_rowSets co_partners co_open co_count tr_kinds tr_lefts tr_rights tr_seconds tr_size gr_kinds gr_nodes gr_rowSets gr_firstStates gr_targetCounts gr_targets gr_stepScores gr_letterScores gr_size tx_letters tx_length va_scores va_knownEnds hi_begins hi_lengths hi_scores hi_taken hi_count de_states de_begins de_lengths de_length) (wX ty ad co_rows co_marks co_rowSets co_partners co_open co_count tr_kinds tr_lefts tr_rights tr_seconds tr_size gr_kinds gr_nodes gr_rowSets gr_firstStates gr_targetCounts gr_targets gr_stepScores gr_letterScores gr_size tx_letters tx_length va_scores va_knownEnds hi_begins hi_lengths hi_scores hi_taken hi_count de_states de_begins de_lengths de_length) sz r0) 0 0 (va_A (wX ty ad co_rows co_marks co_rowSets co_partners co_open co_count tr_kinds tr_lefts tr_rights tr_seconds tr_size gr_kinds gr_nodes gr_rowSets gr_firstStates gr_targetCounts gr_targets gr_stepScores gr_letterScores gr_size tx_letters tx_length va_scores va_knownEnds hi_begins hi_lengths hi_scores hi_taken hi_count de_states de_begins de_lengths de_length) sz) := by
  refine xmet_i rfl (Nat.le_of_ble_eq_true rfl) ?_
  intro p e s m below meth c A ls Q hx hb hml hts hown hK hN hA hP hD hS hl hret
  replace hown : s.vm.findClass R_Va = some m.cls := hown
  have hl : lv_has ls 7 [(0, .ref (ad 22)), (1, .int a1), (2, .int a2), (3, .int a3)] := hl
  rw [f_Va_bestTarget] at hf
  obtain ⟨H, eH⟩ : ∃ H : Heap, H = s.heap := ⟨_, rfl⟩
  obtain ⟨locs, eL⟩ : ∃ L : List Loc, L = [] := ⟨_, rfl⟩
  have hP : va_P (dC, dI) classes (wX ty ad co_rows co_marks co_rowSets co_partners co_open co_count tr_kinds tr_lefts tr_rights tr_seconds tr_size gr_kinds gr_nodes gr_rowSets gr_firstStates gr_targetCounts gr_targets gr_stepScores gr_letterScores gr_size tx_letters tx_length va_scores va_knownEnds hi_begins hi_lengths hi_scores hi_taken hi_count de_states de_begins de_lengths de_length) H := by rw [eH]; exact hP
  have hS : va_S A s.heap H locs := by rw [eH, eL]; exact hS
  rw [← eL]
  suffices hgoal : W p l e rm_Va_bestTarget s m (List.toArray [.ref (ad 22), .int a1, .int a2, .int a3]) below meth c H locs 0 0 Q (F0 m 0 ls []) by rw [eH] at hgoal; exact hgoal
  clear eH eL
  refine lv_aload_n hx hb d_Va_bestTarget_0 rfl (lv_at hl 0 rfl) ?_
  refine lv_iload_n hx hb d_Va_bestTarget_1 rfl (lv_at hl 1 rfl) ?_
  refine lv_iload_n hx hb d_Va_bestTarget_2 rfl (lv_at hl 2 rfl) ?_
  refine lv_iload_n hx hb d_Va_bestTarget_3 rfl (lv_at hl 3 rfl) ?_
  obtain ⟨r1, hc2, hf⟩ := ob1_inv hf
  refine xk_i (xrunV (C := R_Va) (As := [.int a1, .int a2, .int a3]) (rest := []) ⟨hx, hb, hml, hown, hts⟩ (c_Va_of l dC dI ty ad H.size co_rows co_marks co_rowSets co_partners co_open co_count tr_kinds tr_lefts tr_rights tr_seconds tr_size gr_kinds gr_nodes gr_rowSets gr_firstStates gr_targetCounts gr_targets gr_stepScores gr_letterScores gr_size tx_letters tx_length va_scores va_knownEnds hi_begins hi_lengths hi_scores hi_taken hi_count de_states de_begins de_lengths de_length a1 a2 a3 r1 hc2) z_Va_45 ⟨⟨rfl, rfl⟩, by decide, by decide⟩ hK hP hD hN (va_recv hK hP (ci := 5) (q0 := 22) rfl rfl) rfl hl.1 rfl (Nat.le_of_ble_eq_true rfl) d_Va_bestTarget_4 ⟨Nat.zero_le _, Nat.zero_le _⟩) hS hD rfl hA (fun H locs hP hD hS => ?_)
  refine W.eq (g2 := F0 m 7 ls [.int r1]) rfl ?_
  refine lv_ldc (v := -1000000) hx hb hown (hts _ m_560) d_Va_bestTarget_7 ?_
  refine lv_icmp_ne (tgt := 15) hx hb d_Va_bestTarget_9 (by decide) (fun c3 => ?_) (fun c3 => ?_)
  · have hf := xif_f c3 hf
    refine lv_aload_n hx hb d_Va_bestTarget_15 rfl (lv_at hl 0 rfl) ?_
    refine va_get (D := (dC, dI)) (ci := 5) (v := .ref (ad 11)) (C := R_Va) (T := F_Va) (N := 4) hx hb hts iw_Va hown hK hP 22 rfl rfl 0 (by decide) (hts _ m_185) (fun _ h9 => h9) rfl d_Va_bestTarget_16 ?_
    refine lv_iload_n hx hb d_Va_bestTarget_19 rfl (lv_at hl 1 rfl) ?_
    obtain ⟨r4, hc5, hf⟩ := ob1_inv hf
    refine xk_i (xrunV (C := R_Gr) (As := [.int a1]) (rest := []) ⟨hx, hb, hml, hown, hts⟩ (c_Gr_kindOf l dC dI ty ad H.size co_rows co_marks co_rowSets co_partners co_open co_count tr_kinds tr_lefts tr_rights tr_seconds tr_size gr_kinds gr_nodes gr_rowSets gr_firstStates gr_targetCounts gr_targets gr_stepScores gr_letterScores gr_size tx_letters tx_length va_scores va_knownEnds hi_begins hi_lengths hi_scores hi_taken hi_count de_states de_begins de_lengths de_length a1 r4 hc5) z_Va_49 ⟨⟨rfl, rfl⟩, by decide, by decide⟩ hK hP hD hN (va_recv hK hP (ci := 3) (q0 := 11) rfl rfl) rfl hl.1 rfl (Nat.le_of_ble_eq_true rfl) d_Va_bestTarget_20 ⟨Nat.zero_le _, Nat.zero_le _⟩) hS hD rfl hA (fun H locs hP hD hS => ?_)
    refine W.eq (g2 := F0 m 23 ls [.int r4]) rfl ?_
    refine lv_istore (lv' := [(4, .int r4), (0, .ref (ad 22)), (1, .int a1), (2, .int a2), (3, .int a3)]) hx hb d_Va_bestTarget_23 hl (by decide) rfl (fun ls hl => ?_)
    refine lv_aload_n hx hb d_Va_bestTarget_25 rfl (lv_at hl 1 rfl) ?_
    refine lv_iload_n hx hb d_Va_bestTarget_26 rfl (lv_at hl 2 rfl) ?_
    refine lv_iload_n hx hb d_Va_bestTarget_27 rfl (lv_at hl 3 rfl) ?_
    refine lv_iload_n hx hb d_Va_bestTarget_28 rfl (lv_at hl 4 rfl) ?_
    obtain ⟨r6, hc7, hf⟩ := ob1_inv hf
    refine xk_i (xrunV (C := R_Va) (As := [.int a1, .int a2, .int a3]) (rest := []) ⟨hx, hb, hml, hown, hts⟩ (c_Va_of l dC dI ty ad H.size co_rows co_marks co_rowSets co_partners co_open co_count tr_kinds tr_lefts tr_rights tr_seconds tr_size gr_kinds gr_nodes gr_rowSets gr_firstStates gr_targetCounts gr_targets gr_stepScores gr_letterScores gr_size tx_letters tx_length va_scores va_knownEnds hi_begins hi_lengths hi_scores hi_taken hi_count de_states de_begins de_lengths de_length a1 a2 a3 r6 hc7) z_Va_45 ⟨⟨rfl, rfl⟩, by decide, by decide⟩ hK hP hD hN (va_recv hK hP (ci := 5) (q0 := 22) rfl rfl) rfl hl.1 rfl (Nat.le_of_ble_eq_true rfl) d_Va_bestTarget_29 ⟨Nat.zero_le _, Nat.zero_le _⟩) hS hD rfl hA (fun H locs hP hD hS => ?_)
    refine W.eq (g2 := F0 m 32 ls [.int r6]) rfl ?_
    refine lv_aload_n hx hb d_Va_bestTarget_32 rfl (lv_at hl 1 rfl) ?_
    refine lv_iload_n hx hb d_Va_bestTarget_33 rfl (lv_at hl 2 rfl) ?_
    refine lv_iload_n hx hb d_Va_bestTarget_34 rfl (lv_at hl 3 rfl) ?_
    refine lv_iload_n hx hb d_Va_bestTarget_35 rfl (lv_at hl 4 rfl) ?_
    obtain ⟨r8, hc9, hf⟩ := ob1_inv hf
    refine xk_i (xrunV (C := R_Va) (As := [.int a1, .int a2, .int a3]) (rest := [.int r6]) ⟨hx, hb, hml, hown, hts⟩ (c_Va_emitted l dC dI ty ad H.size co_rows co_marks co_rowSets co_partners co_open co_count tr_kinds tr_lefts tr_rights tr_seconds tr_size gr_kinds gr_nodes gr_rowSets gr_firstStates gr_targetCounts gr_targets gr_stepScores gr_letterScores gr_size tx_letters tx_length va_scores va_knownEnds hi_begins hi_lengths hi_scores hi_taken hi_count de_states de_begins de_lengths de_length a1 a2 a3 r8 hc9) z_Va_53 ⟨⟨rfl, rfl⟩, by decide, by decide⟩ hK hP hD hN (va_recv hK hP (ci := 5) (q0 := 22) rfl rfl) rfl hl.1 rfl (Nat.le_of_ble_eq_true rfl) d_Va_bestTarget_36 ⟨Nat.zero_le _, Nat.zero_le _⟩) hS hD rfl hA (fun H locs hP hD hS => ?_)
    refine W.eq (g2 := F0 m 39 ls [.int r8, .int r6]) rfl ?_
    refine lv_isub hx hb d_Va_bestTarget_39 ?_
    refine lv_istore (lv' := [(5, .int (r6 - r8)), (4, .int r4), (0, .ref (ad 22)), (1, .int a1), (2, .int a2), (3, .int a3)]) hx hb d_Va_bestTarget_40 hl (by decide) rfl (fun ls hl => ?_)
    refine lv_iconst (v := 0) hx hb d_Va_bestTarget_42 (by decide) ?_
    refine lv_istore (lv' := [(6, .int (0 : Int32)), (5, .int (r6 - r8)), (4, .int r4), (0, .ref (ad 22)), (1, .int a1), (2, .int a2), (3, .int a3)]) hx hb d_Va_bestTarget_43 hl (by decide) rfl (fun ls hl => ?_)
    have K45_93 : ∀ (x6_45 : Int32) (H : Heap) (locs : List Loc) (ls : Array Slot), va_P (dC, dI) classes (wX ty ad co_rows co_marks co_rowSets co_partners co_open co_count tr_kinds tr_lefts tr_rights tr_seconds tr_size gr_kinds gr_nodes gr_rowSets gr_firstStates gr_targetCounts gr_targets gr_stepScores gr_letterScores gr_size tx_letters tx_length va_scores va_knownEnds hi_begins hi_lengths hi_scores hi_taken hi_count de_states de_begins de_lengths de_length) H → va_D A (wX ty ad co_rows co_marks co_rowSets co_partners co_open co_count tr_kinds tr_lefts tr_rights tr_seconds tr_size gr_kinds gr_nodes gr_rowSets gr_firstStates gr_targetCounts gr_targets gr_stepScores gr_letterScores gr_size tx_letters tx_length va_scores va_knownEnds hi_begins hi_lengths hi_scores hi_taken hi_count de_states de_begins de_lengths de_length) → va_S A s.heap H locs → lv_has ls 7 [] → f_Va_bestTarget_K45_93 x6_45 = some (r0) → W p l e rm_Va_bestTarget s m (List.toArray [.ref (ad 22), .int a1, .int a2, .int a3]) below meth c H locs 0 0 Q (F0 m 93 ls []) := by
      intro x6_45 H locs ls hP hD hS hl hf
      rw [f_Va_bestTarget_K45_93] at hf
      refine lv_ldc (v := -1000000) hx hb hown (hts _ m_560) d_Va_bestTarget_93 ?_
      obtain rfl := os1 hf
      exact hret H locs _ _ _ d_Va_bestTarget_95 rfl hP hS
    have L45 : ∀ (n45 : Nat), ∀ (x6_45 : Int32) (H : Heap) (locs : List Loc) (ls : Array Slot), va_P (dC, dI) classes (wX ty ad co_rows co_marks co_rowSets co_partners co_open co_count tr_kinds tr_lefts tr_rights tr_seconds tr_size gr_kinds gr_nodes gr_rowSets gr_firstStates gr_targetCounts gr_targets gr_stepScores gr_letterScores gr_size tx_letters tx_length va_scores va_knownEnds hi_begins hi_lengths hi_scores hi_taken hi_count de_states de_begins de_lengths de_length) H → va_D A (wX ty ad co_rows co_marks co_rowSets co_partners co_open co_count tr_kinds tr_lefts tr_rights tr_seconds tr_size gr_kinds gr_nodes gr_rowSets gr_firstStates gr_targetCounts gr_targets gr_stepScores gr_letterScores gr_size tx_letters tx_length va_scores va_knownEnds hi_begins hi_lengths hi_scores hi_taken hi_count de_states de_begins de_lengths de_length) → va_S A s.heap H locs → lv_has ls 7 [(0, .ref (ad 22)), (1, .int a1), (2, .int a2), (3, .int a3), (4, .int r4), (5, .int (r6 - r8)), (6, .int x6_45)] → f_Va_bestTarget_L45 gr_targetCounts gr_targets gr_stepScores va_scores a1 a2 a3 r4 r6 r8 (f_Va_bestTarget_K45_93) n45 x6_45 = some (r0) → W p l e rm_Va_bestTarget s m (List.toArray [.ref (ad 22), .int a1, .int a2, .int a3]) below meth c H locs 0 0 Q (F0 m 45 ls []) := by
      intro n45
      induction n45 with
      | zero =>
        intro x6_45 H locs ls hP hD hS hl hf
        rw [f_Va_bestTarget_L45] at hf
        cases hf
      | succ n45 ih45 =>
        intro x6_45 H locs ls hP hD hS hl hf
        rw [f_Va_bestTarget_L45] at hf
        refine lv_iload hx hb d_Va_bestTarget_45 (lv_at hl 6 rfl) ?_
        refine lv_aload_n hx hb d_Va_bestTarget_47 rfl (lv_at hl 0 rfl) ?_
        refine va_get (D := (dC, dI)) (ci := 5) (v := .ref (ad 11)) (C := R_Va) (T := F_Va) (N := 4) hx hb hts iw_Va hown hK hP 22 rfl rfl 0 (by decide) (hts _ m_185) (fun _ h9 => h9) rfl d_Va_bestTarget_48 ?_
        refine lv_iload_n hx hb d_Va_bestTarget_51 rfl (lv_at hl 1 rfl) ?_
        obtain ⟨r10, hc11, hf⟩ := ob1_inv hf
        refine xk_i (xrunV (C := R_Gr) (As := [.int a1]) (rest := [.int x6_45]) ⟨hx, hb, hml, hown, hts⟩ (c_Gr_targetCount l dC dI ty ad H.size co_rows co_marks co_rowSets co_partners co_open co_count tr_kinds tr_lefts tr_rights tr_seconds tr_size gr_kinds gr_nodes gr_rowSets gr_firstStates gr_targetCounts gr_targets gr_stepScores gr_letterScores gr_size tx_letters tx_length va_scores va_knownEnds hi_begins hi_lengths hi_scores hi_taken hi_count de_states de_begins de_lengths de_length a1 r10 hc11) z_Va_56 ⟨⟨rfl, rfl⟩, by decide, by decide⟩ hK hP hD hN (va_recv hK hP (ci := 3) (q0 := 11) rfl rfl) rfl hl.1 rfl (Nat.le_of_ble_eq_true rfl) d_Va_bestTarget_52 ⟨Nat.zero_le _, Nat.zero_le _⟩) hS hD rfl hA (fun H locs hP hD hS => ?_)
        refine W.eq (g2 := F0 m 55 ls [.int r10, .int x6_45]) rfl ?_
        refine lv_icmp_ge (tgt := 93) hx hb d_Va_bestTarget_55 (by decide) (fun c12 => ?_) (fun c12 => ?_)
        · have hf := xif_t c12 hf
          exact K45_93 x6_45 _ _ _ hP hD hS (lv_sub hl [] rfl) hf
        · have hf := xif_f c12 hf
          refine lv_aload_n hx hb d_Va_bestTarget_58 rfl (lv_at hl 0 rfl) ?_
          refine lv_iload_n hx hb d_Va_bestTarget_59 rfl (lv_at hl 1 rfl) ?_
          refine lv_iload hx hb d_Va_bestTarget_60 (lv_at hl 6 rfl) ?_
          refine lv_iload_n hx hb d_Va_bestTarget_62 rfl (lv_at hl 2 rfl) ?_
          refine lv_iload hx hb d_Va_bestTarget_63 (lv_at hl 4 rfl) ?_
          obtain ⟨r13, hc14, hf⟩ := ob1_inv hf
          refine xk_i (xrunSN (As := [.int r4]) (rest := [.int a2, .int x6_45, .int a1, .ref (ad 22)]) ⟨hx, hb, hml, hown, hts⟩ (c_Fa_lettersBefore l dC dI ty ad H.size co_rows co_marks co_rowSets co_partners co_open co_count tr_kinds tr_lefts tr_rights tr_seconds tr_size gr_kinds gr_nodes gr_rowSets gr_firstStates gr_targetCounts gr_targets gr_stepScores gr_letterScores gr_size tx_letters tx_length va_scores va_knownEnds hi_begins hi_lengths hi_scores hi_taken hi_count de_states de_begins de_lengths de_length r4 r13 hc14) z_Va_59 ⟨⟨rfl, rfl⟩, by decide, by decide⟩ hK hP hD hN rfl hl.1 rfl (Nat.le_of_ble_eq_true rfl) d_Va_bestTarget_65 ⟨Nat.zero_le _, Nat.zero_le _⟩) hS hD rfl hA (fun H locs hP hD hS => ?_)
          refine W.eq (g2 := F0 m 68 ls [.int r13, .int a2, .int x6_45, .int a1, .ref (ad 22)]) rfl ?_
          refine lv_iadd hx hb d_Va_bestTarget_68 ?_
          refine lv_iload_n hx hb d_Va_bestTarget_69 rfl (lv_at hl 3 rfl) ?_
          refine lv_iload hx hb d_Va_bestTarget_70 (lv_at hl 4 rfl) ?_
          obtain ⟨r15, hc16, hf⟩ := ob1_inv hf
          refine xk_i (xrunSN (As := [.int r4]) (rest := [.int a3, .int (a2 + r13), .int x6_45, .int a1, .ref (ad 22)]) ⟨hx, hb, hml, hown, hts⟩ (c_Fa_lettersOf l dC dI ty ad H.size co_rows co_marks co_rowSets co_partners co_open co_count tr_kinds tr_lefts tr_rights tr_seconds tr_size gr_kinds gr_nodes gr_rowSets gr_firstStates gr_targetCounts gr_targets gr_stepScores gr_letterScores gr_size tx_letters tx_length va_scores va_knownEnds hi_begins hi_lengths hi_scores hi_taken hi_count de_states de_begins de_lengths de_length r4 r15 hc16) z_Va_62 ⟨⟨rfl, rfl⟩, by decide, by decide⟩ hK hP hD hN rfl hl.1 rfl (Nat.le_of_ble_eq_true rfl) d_Va_bestTarget_72 ⟨Nat.zero_le _, Nat.zero_le _⟩) hS hD rfl hA (fun H locs hP hD hS => ?_)
          refine W.eq (g2 := F0 m 75 ls [.int r15, .int a3, .int (a2 + r13), .int x6_45, .int a1, .ref (ad 22)]) rfl ?_
          refine lv_isub hx hb d_Va_bestTarget_75 ?_
          obtain ⟨r17, hc18, hf⟩ := ob1_inv hf
          refine xk_i (xrunV (C := R_Va) (As := [.int a1, .int x6_45, .int (a2 + r13), .int (a3 - r15)]) (rest := []) ⟨hx, hb, hml, hown, hts⟩ (c_Va_throughTarget l dC dI ty ad H.size co_rows co_marks co_rowSets co_partners co_open co_count tr_kinds tr_lefts tr_rights tr_seconds tr_size gr_kinds gr_nodes gr_rowSets gr_firstStates gr_targetCounts gr_targets gr_stepScores gr_letterScores gr_size tx_letters tx_length va_scores va_knownEnds hi_begins hi_lengths hi_scores hi_taken hi_count de_states de_begins de_lengths de_length a1 x6_45 (a2 + r13) (a3 - r15) r17 hc18) z_Va_65 ⟨⟨rfl, rfl⟩, by decide, by decide⟩ hK hP hD hN (va_recv hK hP (ci := 5) (q0 := 22) rfl rfl) rfl hl.1 rfl (Nat.le_of_ble_eq_true rfl) d_Va_bestTarget_76 ⟨Nat.zero_le _, Nat.zero_le _⟩) hS hD rfl hA (fun H locs hP hD hS => ?_)
          refine W.eq (g2 := F0 m 79 ls [.int r17]) rfl ?_
          refine lv_iload hx hb d_Va_bestTarget_79 (lv_at hl 5 rfl) ?_
          refine lv_icmp_ne (tgt := 87) hx hb d_Va_bestTarget_81 (by decide) (fun c19 => ?_) (fun c19 => ?_)
          · have hf := xif_f c19 hf
            refine lv_iinc (v := (x6_45 + (1 : Int32))) (lv' := [(6, .int (x6_45 + (1 : Int32))), (0, .ref (ad 22)), (1, .int a1), (2, .int a2), (3, .int a3), (4, .int r4), (5, .int (r6 - r8))]) hx hb d_Va_bestTarget_87 hl (k := 6) rfl rfl (by decide) rfl (fun ls hl => ?_)
            refine lv_goto (tgt := 45) hx hb d_Va_bestTarget_90 (by decide) ?_
            exact ih45 (x6_45 + (1 : Int32)) _ _ _ hP hD hS (lv_sub hl [1, 2, 3, 4, 5, 6, 0] rfl) hf
          · have hf := xif_t c19 hf
            refine lv_iload hx hb d_Va_bestTarget_84 (lv_at hl 6 rfl) ?_
            obtain rfl := os1 hf
            exact hret H locs _ _ _ d_Va_bestTarget_86 rfl hP hS
    exact L45 1000 (0 : Int32) _ _ _ hP hD hS (lv_sub hl [3, 4, 5, 6, 2, 1, 0] rfl) hf
  · have hf := xif_t c3 hf
    refine lv_ldc (v := -1000000) hx hb hown (hts _ m_560) d_Va_bestTarget_12 ?_
    obtain rfl := os1 hf
    exact hret H locs _ _ _ d_Va_bestTarget_14 rfl hP hS
def f_De_note (de_states : (Nat → Int32)) (de_begins : (Nat → Int32)) (de_lengths : (Nat → Int32)) (de_length : Int32) (a1 : Int32) (a2 : Int32) (a3 : Int32) : Option ((Nat → Int32) × (Nat → Int32) × (Nat → Int32) × Int32) := gd (xin de_length 30) (gd (xin de_length 30) (gd (xin de_length 30) (some ((upd de_states (Int32.toNatClampNeg de_length) a1), (upd de_begins (Int32.toNatClampNeg de_length) a2), (upd de_lengths (Int32.toNatClampNeg de_length) a3), (de_length + (1 : Int32))))))
set_option maxHeartbeats 4000000 in
set_option maxRecDepth 100000 in
theorem c_De_note (l : Launch) (dC : Nat → ClassId) (dI : Nat → Nat → Nat) (ty : Nat → ClassId) (ad : Nat → Nat) (sz : Nat) (co_rows : Int32) (co_marks : (Nat → Int32)) (co_rowSets : (Nat → Int32)) (co_partners : (Nat → Int32)) (co_open : (Nat → Int32)) (co_count : Int32) (tr_kinds : (Nat → Int32)) (tr_lefts : (Nat → Int32)) (tr_rights : (Nat → Int32)) (tr_seconds : (Nat → Int32)) (tr_size : Int32) (gr_kinds : (Nat → Int32)) (gr_nodes : (Nat → Int32)) (gr_rowSets : (Nat → Int32)) (gr_firstStates : (Nat → Int32)) (gr_targetCounts : (Nat → Int32)) (gr_targets : (Nat → Int32)) (gr_stepScores : (Nat → Int32)) (gr_letterScores : (Nat → Int32)) (gr_size : Int32) (tx_letters : (Nat → Int32)) (tx_length : Int32) (va_scores : (Nat → Int32)) (va_knownEnds : Int32) (hi_begins : (Nat → Int32)) (hi_lengths : (Nat → Int32)) (hi_scores : (Nat → Int32)) (hi_taken : (Nat → Int32)) (hi_count : Int32) (de_states : (Nat → Int32)) (de_begins : (Nat → Int32)) (de_lengths : (Nat → Int32)) (de_length : Int32) (a1 : Int32) (a2 : Int32) (a3 : Int32) (n_de_states : (Nat → Int32)) (n_de_begins : (Nat → Int32)) (n_de_lengths : (Nat → Int32)) (n_de_length : Int32) (hf : f_De_note de_states de_begins de_lengths de_length a1 a2 a3 = some (n_de_states, n_de_begins, n_de_lengths, n_de_length)) : Met l y_De_note (.code y_De_note prog_3_method_10_code 4 none :: gw) rm_De_note (xPre (dC, dI) classes (tys3 ty) (wX ty ad co_rows co_marks co_rowSets co_partners co_open co_count tr_kinds tr_lefts tr_rights tr_seconds tr_size gr_kinds gr_nodes gr_rowSets gr_firstStates gr_targetCounts gr_targets gr_stepScores gr_letterScores gr_size tx_letters tx_length va_scores va_knownEnds hi_begins hi_lengths hi_scores hi_taken hi_count de_states de_begins de_lengths de_length) sz [.ref (ad 29), .int a1, .int a2, .int a3]) (xQv (dC, dI) classes (wX ty ad co_rows co_marks co_rowSets co_partners co_open co_count tr_kinds tr_lefts tr_rights tr_seconds tr_size gr_kinds gr_nodes gr_rowSets gr_firstStates gr_targetCounts gr_targets gr_stepScores gr_letterScores gr_size tx_letters tx_length va_scores va_knownEnds hi_begins hi_lengths hi_scores hi_taken hi_count de_states de_begins de_lengths de_length) (wX ty ad co_rows co_marks co_rowSets co_partners co_open co_count tr_kinds tr_lefts tr_rights tr_seconds tr_size gr_kinds gr_nodes gr_rowSets gr_firstStates gr_targetCounts gr_targets gr_stepScores gr_letterScores gr_size tx_letters tx_length va_scores va_knownEnds hi_begins hi_lengths hi_scores hi_taken hi_count n_de_states n_de_begins n_de_lengths n_de_length) sz) 0 0 (va_A (wX ty ad co_rows co_marks co_rowSets co_partners co_open co_count tr_kinds tr_lefts tr_rights tr_seconds tr_size gr_kinds gr_nodes gr_rowSets gr_firstStates gr_targetCounts gr_targets gr_stepScores gr_letterScores gr_size tx_letters tx_length va_scores va_knownEnds hi_begins hi_lengths hi_scores hi_taken hi_count de_states de_begins de_lengths de_length) sz) := by
  refine xmet_v rfl (Nat.le_of_ble_eq_true rfl) ?_
  intro p e s m below meth c A ls Q hx hb hml hts hown hK hN hA hP hD hS hl hret
  replace hown : s.vm.findClass R_De = some m.cls := hown
  have hl : lv_has ls 4 [(0, .ref (ad 29)), (1, .int a1), (2, .int a2), (3, .int a3)] := hl
  rw [f_De_note] at hf
  obtain ⟨H, eH⟩ : ∃ H : Heap, H = s.heap := ⟨_, rfl⟩
  obtain ⟨locs, eL⟩ : ∃ L : List Loc, L = [] := ⟨_, rfl⟩
  have hP : va_P (dC, dI) classes (wX ty ad co_rows co_marks co_rowSets co_partners co_open co_count tr_kinds tr_lefts tr_rights tr_seconds tr_size gr_kinds gr_nodes gr_rowSets gr_firstStates gr_targetCounts gr_targets gr_stepScores gr_letterScores gr_size tx_letters tx_length va_scores va_knownEnds hi_begins hi_lengths hi_scores hi_taken hi_count de_states de_begins de_lengths de_length) H := by rw [eH]; exact hP
  have hS : va_S A s.heap H locs := by rw [eH, eL]; exact hS
  rw [← eL]
  suffices hgoal : W p l e rm_De_note s m (List.toArray [.ref (ad 29), .int a1, .int a2, .int a3]) below meth c H locs 0 0 Q (F0 m 0 ls []) by rw [eH] at hgoal; exact hgoal
  clear eH eL
  refine lv_aload_n hx hb d_De_note_0 rfl (lv_at hl 0 rfl) ?_
  refine va_get (D := (dC, dI)) (ci := 7) (v := .ref (ad 30)) (C := R_De) (T := F_De) (N := 4) hx hb hts iw_De hown hK hP 29 rfl rfl 0 (by decide) (hts _ m_227) (fun _ h9 => h9) rfl d_De_note_1 ?_
  refine lv_aload_n hx hb d_De_note_4 rfl (lv_at hl 0 rfl) ?_
  refine va_get (D := (dC, dI)) (ci := 7) (v := .int de_length) (C := R_De) (T := F_De) (N := 4) hx hb hts iw_De hown hK hP 29 rfl rfl 3 (by decide) (hts _ m_230) (fun _ h9 => h9) rfl d_De_note_5 ?_
  refine lv_iload_n hx hb d_De_note_8 rfl (lv_at hl 1 rfl) ?_
  obtain ⟨hi1, hf⟩ := gdi hf
  refine va_iast hx hb hK hP hD hS 30 0 rfl rfl hi1 d_De_note_9 (fun H locs hP hD hS => ?_)
  have hP : va_P (dC, dI) classes (wX ty ad co_rows co_marks co_rowSets co_partners co_open co_count tr_kinds tr_lefts tr_rights tr_seconds tr_size gr_kinds gr_nodes gr_rowSets gr_firstStates gr_targetCounts gr_targets gr_stepScores gr_letterScores gr_size tx_letters tx_length va_scores va_knownEnds hi_begins hi_lengths hi_scores hi_taken hi_count (upd de_states (Int32.toNatClampNeg de_length) a1) de_begins de_lengths de_length) H := hP
  have hD : va_D A (wX ty ad co_rows co_marks co_rowSets co_partners co_open co_count tr_kinds tr_lefts tr_rights tr_seconds tr_size gr_kinds gr_nodes gr_rowSets gr_firstStates gr_targetCounts gr_targets gr_stepScores gr_letterScores gr_size tx_letters tx_length va_scores va_knownEnds hi_begins hi_lengths hi_scores hi_taken hi_count (upd de_states (Int32.toNatClampNeg de_length) a1) de_begins de_lengths de_length) := hD
  refine lv_aload_n hx hb d_De_note_10 rfl (lv_at hl 0 rfl) ?_
  refine va_get (D := (dC, dI)) (ci := 7) (v := .ref (ad 31)) (C := R_De) (T := F_De) (N := 4) hx hb hts iw_De hown hK hP 29 rfl rfl 1 (by decide) (hts _ m_228) (fun _ h9 => h9) rfl d_De_note_11 ?_
  refine lv_aload_n hx hb d_De_note_14 rfl (lv_at hl 0 rfl) ?_
  refine va_get (D := (dC, dI)) (ci := 7) (v := .int de_length) (C := R_De) (T := F_De) (N := 4) hx hb hts iw_De hown hK hP 29 rfl rfl 3 (by decide) (hts _ m_230) (fun _ h9 => h9) rfl d_De_note_15 ?_
  refine lv_iload_n hx hb d_De_note_18 rfl (lv_at hl 2 rfl) ?_
  obtain ⟨hi2, hf⟩ := gdi hf
  refine va_iast hx hb hK hP hD hS 31 0 rfl rfl hi2 d_De_note_19 (fun H locs hP hD hS => ?_)
  have hP : va_P (dC, dI) classes (wX ty ad co_rows co_marks co_rowSets co_partners co_open co_count tr_kinds tr_lefts tr_rights tr_seconds tr_size gr_kinds gr_nodes gr_rowSets gr_firstStates gr_targetCounts gr_targets gr_stepScores gr_letterScores gr_size tx_letters tx_length va_scores va_knownEnds hi_begins hi_lengths hi_scores hi_taken hi_count (upd de_states (Int32.toNatClampNeg de_length) a1) (upd de_begins (Int32.toNatClampNeg de_length) a2) de_lengths de_length) H := hP
  have hD : va_D A (wX ty ad co_rows co_marks co_rowSets co_partners co_open co_count tr_kinds tr_lefts tr_rights tr_seconds tr_size gr_kinds gr_nodes gr_rowSets gr_firstStates gr_targetCounts gr_targets gr_stepScores gr_letterScores gr_size tx_letters tx_length va_scores va_knownEnds hi_begins hi_lengths hi_scores hi_taken hi_count (upd de_states (Int32.toNatClampNeg de_length) a1) (upd de_begins (Int32.toNatClampNeg de_length) a2) de_lengths de_length) := hD
  refine lv_aload_n hx hb d_De_note_20 rfl (lv_at hl 0 rfl) ?_
  refine va_get (D := (dC, dI)) (ci := 7) (v := .ref (ad 32)) (C := R_De) (T := F_De) (N := 4) hx hb hts iw_De hown hK hP 29 rfl rfl 2 (by decide) (hts _ m_229) (fun _ h9 => h9) rfl d_De_note_21 ?_
  refine lv_aload_n hx hb d_De_note_24 rfl (lv_at hl 0 rfl) ?_
  refine va_get (D := (dC, dI)) (ci := 7) (v := .int de_length) (C := R_De) (T := F_De) (N := 4) hx hb hts iw_De hown hK hP 29 rfl rfl 3 (by decide) (hts _ m_230) (fun _ h9 => h9) rfl d_De_note_25 ?_
  refine lv_iload_n hx hb d_De_note_28 rfl (lv_at hl 3 rfl) ?_
  obtain ⟨hi3, hf⟩ := gdi hf
  refine va_iast hx hb hK hP hD hS 32 0 rfl rfl hi3 d_De_note_29 (fun H locs hP hD hS => ?_)
  have hP : va_P (dC, dI) classes (wX ty ad co_rows co_marks co_rowSets co_partners co_open co_count tr_kinds tr_lefts tr_rights tr_seconds tr_size gr_kinds gr_nodes gr_rowSets gr_firstStates gr_targetCounts gr_targets gr_stepScores gr_letterScores gr_size tx_letters tx_length va_scores va_knownEnds hi_begins hi_lengths hi_scores hi_taken hi_count (upd de_states (Int32.toNatClampNeg de_length) a1) (upd de_begins (Int32.toNatClampNeg de_length) a2) (upd de_lengths (Int32.toNatClampNeg de_length) a3) de_length) H := hP
  have hD : va_D A (wX ty ad co_rows co_marks co_rowSets co_partners co_open co_count tr_kinds tr_lefts tr_rights tr_seconds tr_size gr_kinds gr_nodes gr_rowSets gr_firstStates gr_targetCounts gr_targets gr_stepScores gr_letterScores gr_size tx_letters tx_length va_scores va_knownEnds hi_begins hi_lengths hi_scores hi_taken hi_count (upd de_states (Int32.toNatClampNeg de_length) a1) (upd de_begins (Int32.toNatClampNeg de_length) a2) (upd de_lengths (Int32.toNatClampNeg de_length) a3) de_length) := hD
  refine lv_aload_n hx hb d_De_note_30 rfl (lv_at hl 0 rfl) ?_
  refine lv_dup hx hb d_De_note_31 rfl ?_
  refine va_get (D := (dC, dI)) (ci := 7) (v := .int de_length) (C := R_De) (T := F_De) (N := 4) hx hb hts iw_De hown hK hP 29 rfl rfl 3 (by decide) (hts _ m_230) (fun _ h9 => h9) rfl d_De_note_32 ?_
  refine lv_iconst (v := 1) hx hb d_De_note_35 (by decide) ?_
  refine lv_iadd hx hb d_De_note_36 ?_
  refine va_put (D := (dC, dI)) (ci := 7) (v := .int (de_length + (1 : Int32))) (ty := .int) (C := R_De) (T := F_De) (N := 4) hx hb hts iw_De t_De t_De_ok n_De hown hK hP hD hS 29 rfl rfl 3 (by decide) (hts _ m_230) (fun _ h9 => h9) rfl (by decide +kernel) rfl rfl (Nat.le_of_ble_eq_true rfl) d_De_note_37 (fun H locs hP hD hS => ?_)
  have hP : va_P (dC, dI) classes (wX ty ad co_rows co_marks co_rowSets co_partners co_open co_count tr_kinds tr_lefts tr_rights tr_seconds tr_size gr_kinds gr_nodes gr_rowSets gr_firstStates gr_targetCounts gr_targets gr_stepScores gr_letterScores gr_size tx_letters tx_length va_scores va_knownEnds hi_begins hi_lengths hi_scores hi_taken hi_count (upd de_states (Int32.toNatClampNeg de_length) a1) (upd de_begins (Int32.toNatClampNeg de_length) a2) (upd de_lengths (Int32.toNatClampNeg de_length) a3) (de_length + (1 : Int32))) H := hP
  have hD : va_D A (wX ty ad co_rows co_marks co_rowSets co_partners co_open co_count tr_kinds tr_lefts tr_rights tr_seconds tr_size gr_kinds gr_nodes gr_rowSets gr_firstStates gr_targetCounts gr_targets gr_stepScores gr_letterScores gr_size tx_letters tx_length va_scores va_knownEnds hi_begins hi_lengths hi_scores hi_taken hi_count (upd de_states (Int32.toNatClampNeg de_length) a1) (upd de_begins (Int32.toNatClampNeg de_length) a2) (upd de_lengths (Int32.toNatClampNeg de_length) a3) (de_length + (1 : Int32))) := hD
  obtain ⟨rfl, rfl, rfl, rfl⟩ := os4 hf
  exact hret H locs _ _ d_De_note_40 hP hS
