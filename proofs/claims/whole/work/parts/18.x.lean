/-! pure functions and contracts of Va_throughSplit, Va_greatestOfSplits, Va_reckon, Va_catchUp, Fa_value, Hi_freeEnd, Hi_note (written by wip/gen) -/
def f_Va_throughSplit (gr_targets : (Nat → Int32)) (va_scores : (Nat → Int32)) (a1 : Int32) (a2 : Int32) (a3 : Int32) (a4 : Int32) : Option (Int32) := ob1 (f_Gr_targetOf gr_targets a1 (0 : Int32)) (fun r1 => ob1 (f_Va_of va_scores r1 a3 a2) (fun r3 => ob1 (f_Gr_targetOf gr_targets a1 (1 : Int32)) (fun r5 => ob1 (f_Va_of va_scores r5 (a3 + a2) (a4 - a2)) (fun r7 => if r3 = (-1000000 : Int32) then (some ((-1000000 : Int32))) else (if r7 = (-1000000 : Int32) then (some ((-1000000 : Int32))) else (some ((r3 + r7))))))))
set_option maxHeartbeats 4000000 in
set_option maxRecDepth 100000 in
theorem c_Va_throughSplit (l : Launch) (dC : Nat → ClassId) (dI : Nat → Nat → Nat) (ty : Nat → ClassId) (ad : Nat → Nat) (ta : Nat → Nat) (sz : Nat) (co_rows : Int32) (co_marks : (Nat → Int32)) (co_rowSets : (Nat → Int32)) (co_partners : (Nat → Int32)) (co_open : (Nat → Int32)) (co_count : Int32) (tr_kinds : (Nat → Int32)) (tr_lefts : (Nat → Int32)) (tr_rights : (Nat → Int32)) (tr_seconds : (Nat → Int32)) (tr_size : Int32) (gr_kinds : (Nat → Int32)) (gr_nodes : (Nat → Int32)) (gr_rowSets : (Nat → Int32)) (gr_firstStates : (Nat → Int32)) (gr_targetCounts : (Nat → Int32)) (gr_targets : (Nat → Int32)) (gr_stepScores : (Nat → Int32)) (gr_letterScores : (Nat → Int32)) (gr_size : Int32) (tx_letters : (Nat → Int32)) (tx_length : Int32) (va_scores : (Nat → Int32)) (va_knownEnds : Int32) (hi_begins : (Nat → Int32)) (hi_lengths : (Nat → Int32)) (hi_scores : (Nat → Int32)) (hi_taken : (Nat → Int32)) (hi_count : Int32) (de_states : (Nat → Int32)) (de_begins : (Nat → Int32)) (de_lengths : (Nat → Int32)) (de_length : Int32) (a1 : Int32) (a2 : Int32) (a3 : Int32) (a4 : Int32) (r0 : Int32) (hf : f_Va_throughSplit gr_targets va_scores a1 a2 a3 a4 = some (r0)) : Met l y_Va_throughSplit (.code y_Va_throughSplit prog_8_method_11_code 7 (some .int) :: gw) rm_Va_throughSplit (xPre ta (dC, dI) classes (tys3 ty) (wX ty ad co_rows co_marks co_rowSets co_partners co_open co_count tr_kinds tr_lefts tr_rights tr_seconds tr_size gr_kinds gr_nodes gr_rowSets gr_firstStates gr_targetCounts gr_targets gr_stepScores gr_letterScores gr_size tx_letters tx_length va_scores va_knownEnds hi_begins hi_lengths hi_scores hi_taken hi_count de_states de_begins de_lengths de_length) sz [.ref (ad 22), .int a1, .int a2, .int a3, .int a4]) (xQi (dC, dI) classes (wX ty ad co_rows co_marks co_rowSets co_partners co_open co_count tr_kinds tr_lefts tr_rights tr_seconds tr_size gr_kinds gr_nodes gr_rowSets gr_firstStates gr_targetCounts gr_targets gr_stepScores gr_letterScores gr_size tx_letters tx_length va_scores va_knownEnds hi_begins hi_lengths hi_scores hi_taken hi_count de_states de_begins de_lengths de_length) (wX ty ad co_rows co_marks co_rowSets co_partners co_open co_count tr_kinds tr_lefts tr_rights tr_seconds tr_size gr_kinds gr_nodes gr_rowSets gr_firstStates gr_targetCounts gr_targets gr_stepScores gr_letterScores gr_size tx_letters tx_length va_scores va_knownEnds hi_begins hi_lengths hi_scores hi_taken hi_count de_states de_begins de_lengths de_length) sz r0) 0 0 (va_A (wX ty ad co_rows co_marks co_rowSets co_partners co_open co_count tr_kinds tr_lefts tr_rights tr_seconds tr_size gr_kinds gr_nodes gr_rowSets gr_firstStates gr_targetCounts gr_targets gr_stepScores gr_letterScores gr_size tx_letters tx_length va_scores va_knownEnds hi_begins hi_lengths hi_scores hi_taken hi_count de_states de_begins de_lengths de_length) sz) := by
  refine xmet_i rfl (Nat.le_of_ble_eq_true rfl) ?_
  intro p e s m below meth c A ls Q hx hb hml hts hown hK hN hA hP hD hS hl hret
  replace hown : s.vm.findClass R_Va = some m.cls := hown
  have hl : lv_has ls 7 [(0, .ref (ad 22)), (1, .int a1), (2, .int a2), (3, .int a3), (4, .int a4)] := hl
  rw [f_Va_throughSplit] at hf
  obtain ⟨H, eH⟩ : ∃ H : Heap, H = s.heap := ⟨_, rfl⟩
  obtain ⟨locs, eL⟩ : ∃ L : List Loc, L = [] := ⟨_, rfl⟩
  have hP : va_P (dC, dI) classes (wX ty ad co_rows co_marks co_rowSets co_partners co_open co_count tr_kinds tr_lefts tr_rights tr_seconds tr_size gr_kinds gr_nodes gr_rowSets gr_firstStates gr_targetCounts gr_targets gr_stepScores gr_letterScores gr_size tx_letters tx_length va_scores va_knownEnds hi_begins hi_lengths hi_scores hi_taken hi_count de_states de_begins de_lengths de_length) H := by rw [eH]; exact hP
  have hS : va_S A s.heap H locs := by rw [eH, eL]; exact hS
  rw [← eL]
  suffices hgoal : W p l e rm_Va_throughSplit s m (List.toArray [.ref (ad 22), .int a1, .int a2, .int a3, .int a4]) below meth c H locs 0 0 Q (F0 m 0 ls []) by rw [eH] at hgoal; exact hgoal
  clear eH eL
  refine lv_aload_n hx hb d_Va_throughSplit_0 rfl (lv_at hl 0 rfl) ?_
  refine lv_aload_n hx hb d_Va_throughSplit_1 rfl (lv_at hl 0 rfl) ?_
  refine va_get (D := (dC, dI)) (ci := 5) (v := .ref (ad 11)) (C := R_Va) (T := F_Va) (N := 4) hx hb hts iw_Va hown hK hP 22 rfl rfl 0 (by decide) (hts _ m_185) (fun _ h9 => h9) rfl d_Va_throughSplit_2 ?_
  refine lv_iload_n hx hb d_Va_throughSplit_5 rfl (lv_at hl 1 rfl) ?_
  refine lv_iconst (v := 0) hx hb d_Va_throughSplit_6 (by decide) ?_
  obtain ⟨r1, hc2, hf⟩ := ob1_inv hf
  refine xk_i (xrunV (C := R_Gr) (As := [.int a1, .int (0 : Int32)]) (rest := [.ref (ad 22)]) ⟨hx, hb, hml, hown, hts⟩ (c_Gr_targetOf l dC dI ty ad ta H.size co_rows co_marks co_rowSets co_partners co_open co_count tr_kinds tr_lefts tr_rights tr_seconds tr_size gr_kinds gr_nodes gr_rowSets gr_firstStates gr_targetCounts gr_targets gr_stepScores gr_letterScores gr_size tx_letters tx_length va_scores va_knownEnds hi_begins hi_lengths hi_scores hi_taken hi_count de_states de_begins de_lengths de_length a1 (0 : Int32) r1 hc2) z_Va_84 ⟨⟨rfl, rfl⟩, by decide, by decide⟩ hK hP hD hN hS hA (va_recv hK hP (ci := 3) (q0 := 11) rfl rfl) rfl hl.1 rfl (Nat.le_of_ble_eq_true rfl) d_Va_throughSplit_7 ⟨Nat.zero_le _, Nat.zero_le _⟩) hS hD rfl hA (fun H locs hP hD hS => ?_)
  refine W.eq (g2 := F0 m 10 ls [.int r1, .ref (ad 22)]) rfl ?_
  refine lv_iload_n hx hb d_Va_throughSplit_10 rfl (lv_at hl 3 rfl) ?_
  refine lv_iload_n hx hb d_Va_throughSplit_11 rfl (lv_at hl 2 rfl) ?_
  obtain ⟨r3, hc4, hf⟩ := ob1_inv hf
  refine xk_i (xrunV (C := R_Va) (As := [.int r1, .int a3, .int a2]) (rest := []) ⟨hx, hb, hml, hown, hts⟩ (c_Va_of l dC dI ty ad ta H.size co_rows co_marks co_rowSets co_partners co_open co_count tr_kinds tr_lefts tr_rights tr_seconds tr_size gr_kinds gr_nodes gr_rowSets gr_firstStates gr_targetCounts gr_targets gr_stepScores gr_letterScores gr_size tx_letters tx_length va_scores va_knownEnds hi_begins hi_lengths hi_scores hi_taken hi_count de_states de_begins de_lengths de_length r1 a3 a2 r3 hc4) z_Va_45 ⟨⟨rfl, rfl⟩, by decide, by decide⟩ hK hP hD hN hS hA (va_recv hK hP (ci := 5) (q0 := 22) rfl rfl) rfl hl.1 rfl (Nat.le_of_ble_eq_true rfl) d_Va_throughSplit_12 ⟨Nat.zero_le _, Nat.zero_le _⟩) hS hD rfl hA (fun H locs hP hD hS => ?_)
  refine W.eq (g2 := F0 m 15 ls [.int r3]) rfl ?_
  refine lv_istore (lv' := [(5, .int r3), (0, .ref (ad 22)), (1, .int a1), (2, .int a2), (3, .int a3), (4, .int a4)]) hx hb d_Va_throughSplit_15 hl (by decide) rfl (fun ls hl => ?_)
  refine lv_aload_n hx hb d_Va_throughSplit_17 rfl (lv_at hl 1 rfl) ?_
  refine lv_aload_n hx hb d_Va_throughSplit_18 rfl (lv_at hl 1 rfl) ?_
  refine va_get (D := (dC, dI)) (ci := 5) (v := .ref (ad 11)) (C := R_Va) (T := F_Va) (N := 4) hx hb hts iw_Va hown hK hP 22 rfl rfl 0 (by decide) (hts _ m_185) (fun _ h9 => h9) rfl d_Va_throughSplit_19 ?_
  refine lv_iload_n hx hb d_Va_throughSplit_22 rfl (lv_at hl 2 rfl) ?_
  refine lv_iconst (v := 1) hx hb d_Va_throughSplit_23 (by decide) ?_
  obtain ⟨r5, hc6, hf⟩ := ob1_inv hf
  refine xk_i (xrunV (C := R_Gr) (As := [.int a1, .int (1 : Int32)]) (rest := [.ref (ad 22)]) ⟨hx, hb, hml, hown, hts⟩ (c_Gr_targetOf l dC dI ty ad ta H.size co_rows co_marks co_rowSets co_partners co_open co_count tr_kinds tr_lefts tr_rights tr_seconds tr_size gr_kinds gr_nodes gr_rowSets gr_firstStates gr_targetCounts gr_targets gr_stepScores gr_letterScores gr_size tx_letters tx_length va_scores va_knownEnds hi_begins hi_lengths hi_scores hi_taken hi_count de_states de_begins de_lengths de_length a1 (1 : Int32) r5 hc6) z_Va_84 ⟨⟨rfl, rfl⟩, by decide, by decide⟩ hK hP hD hN hS hA (va_recv hK hP (ci := 3) (q0 := 11) rfl rfl) rfl hl.1 rfl (Nat.le_of_ble_eq_true rfl) d_Va_throughSplit_24 ⟨Nat.zero_le _, Nat.zero_le _⟩) hS hD rfl hA (fun H locs hP hD hS => ?_)
  refine W.eq (g2 := F0 m 27 ls [.int r5, .ref (ad 22)]) rfl ?_
  refine lv_iload_n hx hb d_Va_throughSplit_27 rfl (lv_at hl 4 rfl) ?_
  refine lv_iload_n hx hb d_Va_throughSplit_28 rfl (lv_at hl 3 rfl) ?_
  refine lv_iadd hx hb d_Va_throughSplit_29 ?_
  refine lv_iload hx hb d_Va_throughSplit_30 (lv_at hl 5 rfl) ?_
  refine lv_iload_n hx hb d_Va_throughSplit_32 rfl (lv_at hl 3 rfl) ?_
  refine lv_isub hx hb d_Va_throughSplit_33 ?_
  obtain ⟨r7, hc8, hf⟩ := ob1_inv hf
  refine xk_i (xrunV (C := R_Va) (As := [.int r5, .int (a3 + a2), .int (a4 - a2)]) (rest := []) ⟨hx, hb, hml, hown, hts⟩ (c_Va_of l dC dI ty ad ta H.size co_rows co_marks co_rowSets co_partners co_open co_count tr_kinds tr_lefts tr_rights tr_seconds tr_size gr_kinds gr_nodes gr_rowSets gr_firstStates gr_targetCounts gr_targets gr_stepScores gr_letterScores gr_size tx_letters tx_length va_scores va_knownEnds hi_begins hi_lengths hi_scores hi_taken hi_count de_states de_begins de_lengths de_length r5 (a3 + a2) (a4 - a2) r7 hc8) z_Va_45 ⟨⟨rfl, rfl⟩, by decide, by decide⟩ hK hP hD hN hS hA (va_recv hK hP (ci := 5) (q0 := 22) rfl rfl) rfl hl.1 rfl (Nat.le_of_ble_eq_true rfl) d_Va_throughSplit_34 ⟨Nat.zero_le _, Nat.zero_le _⟩) hS hD rfl hA (fun H locs hP hD hS => ?_)
  refine W.eq (g2 := F0 m 37 ls [.int r7]) rfl ?_
  refine lv_istore (lv' := [(6, .int r7), (5, .int r3), (0, .ref (ad 22)), (1, .int a1), (2, .int a2), (3, .int a3), (4, .int a4)]) hx hb d_Va_throughSplit_37 hl (by decide) rfl (fun ls hl => ?_)
  refine lv_iload hx hb d_Va_throughSplit_39 (lv_at hl 1 rfl) ?_
  refine lv_ldc (v := -1000000) hx hb hown (hts _ m_560) d_Va_throughSplit_41 ?_
  refine lv_icmp_eq (tgt := 53) hx hb d_Va_throughSplit_43 (by decide) (fun c9 => ?_) (fun c9 => ?_)
  · have hf := xif_t c9 hf
    refine lv_ldc (v := -1000000) hx hb hown (hts _ m_560) d_Va_throughSplit_53 ?_
    refine lv_goto (tgt := 63) hx hb d_Va_throughSplit_55 (by decide) ?_
    obtain rfl := os1 hf
    exact hret H locs _ _ _ d_Va_throughSplit_63 rfl hP hS
  · have hf := xif_f c9 hf
    refine lv_iload hx hb d_Va_throughSplit_46 (lv_at hl 0 rfl) ?_
    refine lv_ldc (v := -1000000) hx hb hown (hts _ m_560) d_Va_throughSplit_48 ?_
    refine lv_icmp_ne (tgt := 58) hx hb d_Va_throughSplit_50 (by decide) (fun c10 => ?_) (fun c10 => ?_)
    · have hf := xif_f c10 hf
      refine lv_iload hx hb d_Va_throughSplit_58 (lv_at hl 1 rfl) ?_
      refine lv_iload hx hb d_Va_throughSplit_60 (lv_at hl 0 rfl) ?_
      refine lv_iadd hx hb d_Va_throughSplit_62 ?_
      obtain rfl := os1 hf
      exact hret H locs _ _ _ d_Va_throughSplit_63 rfl hP hS
    · have hf := xif_t c10 hf
      refine lv_ldc (v := -1000000) hx hb hown (hts _ m_560) d_Va_throughSplit_53 ?_
      refine lv_goto (tgt := 63) hx hb d_Va_throughSplit_55 (by decide) ?_
      obtain rfl := os1 hf
      exact hret H locs _ _ _ d_Va_throughSplit_63 rfl hP hS
def f_Va_greatestOfSplits_K7_35  (x4_7 : Int32) (x5_7 : Int32) : Option (Int32) := some (x4_7)
def f_Va_greatestOfSplits_L7 (gr_targets : (Nat → Int32)) (va_scores : (Nat → Int32)) (a1 : Int32) (a2 : Int32) (a3 : Int32) (k7_35 : (Int32 → Int32 → Option (Int32))) : Nat → Int32 → Int32 → Option (Int32)
  | 0, _, _ => none
  | n7 + 1, x4_7, x5_7 => if a3 < x5_7 then (k7_35 x4_7 x5_7) else (ob1 (f_Va_throughSplit gr_targets va_scores a1 x5_7 a2 a3) (fun r2 => (f_Va_greatestOfSplits_L7 gr_targets va_scores a1 a2 a3 k7_35 n7) (imax x4_7 r2) (x5_7 + (1 : Int32))))
def f_Va_greatestOfSplits (gr_targets : (Nat → Int32)) (va_scores : (Nat → Int32)) (a1 : Int32) (a2 : Int32) (a3 : Int32) : Option (Int32) := f_Va_greatestOfSplits_L7 gr_targets va_scores a1 a2 a3 (f_Va_greatestOfSplits_K7_35) 1000 (-1000000 : Int32) (0 : Int32)
set_option maxHeartbeats 4000000 in
set_option maxRecDepth 100000 in
theorem c_Va_greatestOfSplits (l : Launch) (dC : Nat → ClassId) (dI : Nat → Nat → Nat) (ty : Nat → ClassId) (ad : Nat → Nat) (ta : Nat → Nat) (sz : Nat) (co_rows : Int32) (co_marks : (Nat → Int32)) (co_rowSets : (Nat → Int32)) (co_partners : (Nat → Int32)) (co_open : (Nat → Int32)) (co_count : Int32) (tr_kinds : (Nat → Int32)) (tr_lefts : (Nat → Int32)) (tr_rights : (Nat → Int32)) (tr_seconds : (Nat → Int32)) (tr_size : Int32) (gr_kinds : (Nat → Int32)) (gr_nodes : (Nat → Int32)) (gr_rowSets : (Nat → Int32)) (gr_firstStates : (Nat → Int32)) (gr_targetCounts : (Nat → Int32)) (gr_targets : (Nat → Int32)) (gr_stepScores : (Nat → Int32)) (gr_letterScores : (Nat → Int32)) (gr_size : Int32) (tx_letters : (Nat → Int32)) (tx_length : Int32) (va_scores : (Nat → Int32)) (va_knownEnds : Int32) (hi_begins : (Nat → Int32)) (hi_lengths : (Nat → Int32)) (hi_scores : (Nat → Int32)) (hi_taken : (Nat → Int32)) (hi_count : Int32) (de_states : (Nat → Int32)) (de_begins : (Nat → Int32)) (de_lengths : (Nat → Int32)) (de_length : Int32) (a1 : Int32) (a2 : Int32) (a3 : Int32) (r0 : Int32) (hf : f_Va_greatestOfSplits gr_targets va_scores a1 a2 a3 = some (r0)) : Met l y_Va_greatestOfSplits (.code y_Va_greatestOfSplits prog_8_method_9_code 6 (some .int) :: gw) rm_Va_greatestOfSplits (xPre ta (dC, dI) classes (tys3 ty) (wX ty ad co_rows co_marks co_rowSets co_partners co_open co_count tr_kinds tr_lefts tr_rights tr_seconds tr_size gr_kinds gr_nodes gr_rowSets gr_firstStates gr_targetCounts gr_targets gr_stepScores gr_letterScores gr_size tx_letters tx_length va_scores va_knownEnds hi_begins hi_lengths hi_scores hi_taken hi_count de_states de_begins de_lengths de_length) sz [.ref (ad 22), .int a1, .int a2, .int a3]) (xQi (dC, dI) classes (wX ty ad co_rows co_marks co_rowSets co_partners co_open co_count tr_kinds tr_lefts tr_rights tr_seconds tr_size gr_kinds gr_nodes gr_rowSets gr_firstStates gr_targetCounts gr_targets gr_stepScores gr_letterScores gr_size tx_letters tx_length va_scores va_knownEnds hi_begins hi_lengths hi_scores hi_taken hi_count de_states de_begins de_lengths de_length) (wX ty ad co_rows co_marks co_rowSets co_partners co_open co_count tr_kinds tr_lefts tr_rights tr_seconds tr_size gr_kinds gr_nodes gr_rowSets gr_firstStates gr_targetCounts gr_targets gr_stepScores gr_letterScores gr_size tx_letters tx_length va_scores va_knownEnds hi_begins hi_lengths hi_scores hi_taken hi_count de_states de_begins de_lengths de_length) sz r0) 0 0 (va_A (wX ty ad co_rows co_marks co_rowSets co_partners co_open co_count tr_kinds tr_lefts tr_rights tr_seconds tr_size gr_kinds gr_nodes gr_rowSets gr_firstStates gr_targetCounts gr_targets gr_stepScores gr_letterScores gr_size tx_letters tx_length va_scores va_knownEnds hi_begins hi_lengths hi_scores hi_taken hi_count de_states de_begins de_lengths de_length) sz) := by
  refine xmet_i rfl (Nat.le_of_ble_eq_true rfl) ?_
  intro p e s m below meth c A ls Q hx hb hml hts hown hK hN hA hP hD hS hl hret
  replace hown : s.vm.findClass R_Va = some m.cls := hown
  have hl : lv_has ls 6 [(0, .ref (ad 22)), (1, .int a1), (2, .int a2), (3, .int a3)] := hl
  rw [f_Va_greatestOfSplits] at hf
  obtain ⟨H, eH⟩ : ∃ H : Heap, H = s.heap := ⟨_, rfl⟩
  obtain ⟨locs, eL⟩ : ∃ L : List Loc, L = [] := ⟨_, rfl⟩
  have hP : va_P (dC, dI) classes (wX ty ad co_rows co_marks co_rowSets co_partners co_open co_count tr_kinds tr_lefts tr_rights tr_seconds tr_size gr_kinds gr_nodes gr_rowSets gr_firstStates gr_targetCounts gr_targets gr_stepScores gr_letterScores gr_size tx_letters tx_length va_scores va_knownEnds hi_begins hi_lengths hi_scores hi_taken hi_count de_states de_begins de_lengths de_length) H := by rw [eH]; exact hP
  have hS : va_S A s.heap H locs := by rw [eH, eL]; exact hS
  rw [← eL]
  suffices hgoal : W p l e rm_Va_greatestOfSplits s m (List.toArray [.ref (ad 22), .int a1, .int a2, .int a3]) below meth c H locs 0 0 Q (F0 m 0 ls []) by rw [eH] at hgoal; exact hgoal
  clear eH eL
  refine lv_ldc (v := -1000000) hx hb hown (hts _ m_560) d_Va_greatestOfSplits_0 ?_
  refine lv_istore (lv' := [(4, .int (-1000000 : Int32)), (0, .ref (ad 22)), (1, .int a1), (2, .int a2), (3, .int a3)]) hx hb d_Va_greatestOfSplits_2 hl (by decide) rfl (fun ls hl => ?_)
  refine lv_iconst (v := 0) hx hb d_Va_greatestOfSplits_4 (by decide) ?_
  refine lv_istore (lv' := [(5, .int (0 : Int32)), (4, .int (-1000000 : Int32)), (0, .ref (ad 22)), (1, .int a1), (2, .int a2), (3, .int a3)]) hx hb d_Va_greatestOfSplits_5 hl (by decide) rfl (fun ls hl => ?_)
  have K7_35 : ∀ (x4_7 : Int32) (x5_7 : Int32) (H : Heap) (locs : List Loc) (ls : Array Slot), va_P (dC, dI) classes (wX ty ad co_rows co_marks co_rowSets co_partners co_open co_count tr_kinds tr_lefts tr_rights tr_seconds tr_size gr_kinds gr_nodes gr_rowSets gr_firstStates gr_targetCounts gr_targets gr_stepScores gr_letterScores gr_size tx_letters tx_length va_scores va_knownEnds hi_begins hi_lengths hi_scores hi_taken hi_count de_states de_begins de_lengths de_length) H → va_D A (wX ty ad co_rows co_marks co_rowSets co_partners co_open co_count tr_kinds tr_lefts tr_rights tr_seconds tr_size gr_kinds gr_nodes gr_rowSets gr_firstStates gr_targetCounts gr_targets gr_stepScores gr_letterScores gr_size tx_letters tx_length va_scores va_knownEnds hi_begins hi_lengths hi_scores hi_taken hi_count de_states de_begins de_lengths de_length) → va_S A s.heap H locs → lv_has ls 6 [(4, .int x4_7)] → f_Va_greatestOfSplits_K7_35 x4_7 x5_7 = some (r0) → W p l e rm_Va_greatestOfSplits s m (List.toArray [.ref (ad 22), .int a1, .int a2, .int a3]) below meth c H locs 0 0 Q (F0 m 35 ls []) := by
    intro x4_7 x5_7 H locs ls hP hD hS hl hf
    rw [f_Va_greatestOfSplits_K7_35] at hf
    refine lv_iload hx hb d_Va_greatestOfSplits_35 (lv_at hl 0 rfl) ?_
    obtain rfl := os1 hf
    exact hret H locs _ _ _ d_Va_greatestOfSplits_37 rfl hP hS
  have L7 : ∀ (n7 : Nat), ∀ (x4_7 : Int32) (x5_7 : Int32) (H : Heap) (locs : List Loc) (ls : Array Slot), va_P (dC, dI) classes (wX ty ad co_rows co_marks co_rowSets co_partners co_open co_count tr_kinds tr_lefts tr_rights tr_seconds tr_size gr_kinds gr_nodes gr_rowSets gr_firstStates gr_targetCounts gr_targets gr_stepScores gr_letterScores gr_size tx_letters tx_length va_scores va_knownEnds hi_begins hi_lengths hi_scores hi_taken hi_count de_states de_begins de_lengths de_length) H → va_D A (wX ty ad co_rows co_marks co_rowSets co_partners co_open co_count tr_kinds tr_lefts tr_rights tr_seconds tr_size gr_kinds gr_nodes gr_rowSets gr_firstStates gr_targetCounts gr_targets gr_stepScores gr_letterScores gr_size tx_letters tx_length va_scores va_knownEnds hi_begins hi_lengths hi_scores hi_taken hi_count de_states de_begins de_lengths de_length) → va_S A s.heap H locs → lv_has ls 6 [(0, .ref (ad 22)), (1, .int a1), (2, .int a2), (3, .int a3), (4, .int x4_7), (5, .int x5_7)] → f_Va_greatestOfSplits_L7 gr_targets va_scores a1 a2 a3 (f_Va_greatestOfSplits_K7_35) n7 x4_7 x5_7 = some (r0) → W p l e rm_Va_greatestOfSplits s m (List.toArray [.ref (ad 22), .int a1, .int a2, .int a3]) below meth c H locs 0 0 Q (F0 m 7 ls []) := by
    intro n7
    induction n7 with
    | zero =>
      intro x4_7 x5_7 H locs ls hP hD hS hl hf
      rw [f_Va_greatestOfSplits_L7] at hf
      cases hf
    | succ n7 ih7 =>
      intro x4_7 x5_7 H locs ls hP hD hS hl hf
      rw [f_Va_greatestOfSplits_L7] at hf
      refine lv_iload hx hb d_Va_greatestOfSplits_7 (lv_at hl 5 rfl) ?_
      refine lv_iload_n hx hb d_Va_greatestOfSplits_9 rfl (lv_at hl 3 rfl) ?_
      refine lv_icmp_gt (tgt := 35) hx hb d_Va_greatestOfSplits_10 (by decide) (fun c1 => ?_) (fun c1 => ?_)
      · have hf := xif_t c1 hf
        exact K7_35 x4_7 x5_7 _ _ _ hP hD hS (lv_sub hl [4] rfl) hf
      · have hf := xif_f c1 hf
        refine lv_iload hx hb d_Va_greatestOfSplits_13 (lv_at hl 4 rfl) ?_
        refine lv_aload_n hx hb d_Va_greatestOfSplits_15 rfl (lv_at hl 0 rfl) ?_
        refine lv_iload_n hx hb d_Va_greatestOfSplits_16 rfl (lv_at hl 1 rfl) ?_
        refine lv_iload hx hb d_Va_greatestOfSplits_17 (lv_at hl 5 rfl) ?_
        refine lv_iload_n hx hb d_Va_greatestOfSplits_19 rfl (lv_at hl 2 rfl) ?_
        refine lv_iload_n hx hb d_Va_greatestOfSplits_20 rfl (lv_at hl 3 rfl) ?_
        obtain ⟨r2, hc3, hf⟩ := ob1_inv hf
        refine xk_i (xrunV (C := R_Va) (As := [.int a1, .int x5_7, .int a2, .int a3]) (rest := [.int x4_7]) ⟨hx, hb, hml, hown, hts⟩ (c_Va_throughSplit l dC dI ty ad ta H.size co_rows co_marks co_rowSets co_partners co_open co_count tr_kinds tr_lefts tr_rights tr_seconds tr_size gr_kinds gr_nodes gr_rowSets gr_firstStates gr_targetCounts gr_targets gr_stepScores gr_letterScores gr_size tx_letters tx_length va_scores va_knownEnds hi_begins hi_lengths hi_scores hi_taken hi_count de_states de_begins de_lengths de_length a1 x5_7 a2 a3 r2 hc3) z_Va_69 ⟨⟨rfl, rfl⟩, by decide, by decide⟩ hK hP hD hN hS hA (va_recv hK hP (ci := 5) (q0 := 22) rfl rfl) rfl hl.1 rfl (Nat.le_of_ble_eq_true rfl) d_Va_greatestOfSplits_21 ⟨Nat.zero_le _, Nat.zero_le _⟩) hS hD rfl hA (fun H locs hP hD hS => ?_)
        refine W.eq (g2 := F0 m 24 ls [.int r2, .int x4_7]) rfl ?_
        refine va_mmax hx hb (hml.trans hl.1.symm) hown (hts _ m_574) (hts _ m_74) (hts _ m_51) (hts _ m_75) (Nat.le_of_ble_eq_true rfl) (Nat.le_of_ble_eq_true rfl) (Nat.zero_le _) (Nat.zero_le _) d_Va_greatestOfSplits_24 ?_
        refine W.eq (g2 := F0 m 27 ls [.int (imax x4_7 r2)]) rfl ?_
        refine lv_istore (lv' := [(4, .int (imax x4_7 r2)), (0, .ref (ad 22)), (1, .int a1), (2, .int a2), (3, .int a3), (5, .int x5_7)]) hx hb d_Va_greatestOfSplits_27 hl (by decide) rfl (fun ls hl => ?_)
        refine lv_iinc (v := (x5_7 + (1 : Int32))) (lv' := [(5, .int (x5_7 + (1 : Int32))), (4, .int (imax x4_7 r2)), (0, .ref (ad 22)), (1, .int a1), (2, .int a2), (3, .int a3)]) hx hb d_Va_greatestOfSplits_29 hl (k := 5) rfl rfl (by decide) rfl (fun ls hl => ?_)
        refine lv_goto (tgt := 7) hx hb d_Va_greatestOfSplits_32 (by decide) ?_
        exact ih7 (imax x4_7 r2) (x5_7 + (1 : Int32)) _ _ _ hP hD hS (lv_sub hl [2, 3, 4, 5, 1, 0] rfl) hf
  exact L7 1000 (-1000000 : Int32) (0 : Int32) _ _ _ hP hD hS (lv_sub hl [2, 3, 4, 5, 1, 0] rfl) hf
def f_Va_reckon (gr_kinds : (Nat → Int32)) (gr_targetCounts : (Nat → Int32)) (gr_targets : (Nat → Int32)) (gr_stepScores : (Nat → Int32)) (gr_letterScores : (Nat → Int32)) (tx_letters : (Nat → Int32)) (va_scores : (Nat → Int32)) (a1 : Int32) (a2 : Int32) (a3 : Int32) : Option (Int32) := ob1 (f_Gr_kindOf gr_kinds a1) (fun r1 => if r1 = (7 : Int32) then (ob1 (f_Va_greatestOfSplits gr_targets va_scores a1 a2 a3) (fun r4 => some (r4))) else (if r1 = (8 : Int32) then (if a3 = (0 : Int32) then (some ((0 : Int32))) else (some ((-1000000 : Int32)))) else (ob1 (f_Va_greatestOfTargets gr_kinds gr_targetCounts gr_targets gr_stepScores gr_letterScores tx_letters va_scores a1 a2 a3) (fun r8 => some (r8)))))
set_option maxHeartbeats 4000000 in
set_option maxRecDepth 100000 in
theorem c_Va_reckon (l : Launch) (dC : Nat → ClassId) (dI : Nat → Nat → Nat) (ty : Nat → ClassId) (ad : Nat → Nat) (ta : Nat → Nat) (sz : Nat) (co_rows : Int32) (co_marks : (Nat → Int32)) (co_rowSets : (Nat → Int32)) (co_partners : (Nat → Int32)) (co_open : (Nat → Int32)) (co_count : Int32) (tr_kinds : (Nat → Int32)) (tr_lefts : (Nat → Int32)) (tr_rights : (Nat → Int32)) (tr_seconds : (Nat → Int32)) (tr_size : Int32) (gr_kinds : (Nat → Int32)) (gr_nodes : (Nat → Int32)) (gr_rowSets : (Nat → Int32)) (gr_firstStates : (Nat → Int32)) (gr_targetCounts : (Nat → Int32)) (gr_targets : (Nat → Int32)) (gr_stepScores : (Nat → Int32)) (gr_letterScores : (Nat → Int32)) (gr_size : Int32) (tx_letters : (Nat → Int32)) (tx_length : Int32) (va_scores : (Nat → Int32)) (va_knownEnds : Int32) (hi_begins : (Nat → Int32)) (hi_lengths : (Nat → Int32)) (hi_scores : (Nat → Int32)) (hi_taken : (Nat → Int32)) (hi_count : Int32) (de_states : (Nat → Int32)) (de_begins : (Nat → Int32)) (de_lengths : (Nat → Int32)) (de_length : Int32) (a1 : Int32) (a2 : Int32) (a3 : Int32) (r0 : Int32) (hf : f_Va_reckon gr_kinds gr_targetCounts gr_targets gr_stepScores gr_letterScores tx_letters va_scores a1 a2 a3 = some (r0)) : Met l y_Va_reckon (.code y_Va_reckon prog_8_method_8_code 4 (some .int) :: gw) rm_Va_reckon (xPre ta (dC, dI) classes (tys3 ty) (wX ty ad co_rows co_marks co_rowSets co_partners co_open co_count tr_kinds tr_lefts tr_rights tr_seconds tr_size gr_kinds gr_nodes gr_rowSets gr_firstStates gr_targetCounts gr_targets gr_stepScores gr_letterScores gr_size tx_letters tx_length va_scores va_knownEnds hi_begins hi_lengths hi_scores hi_taken hi_count de_states de_begins de_lengths de_length) sz [.ref (ad 22), .int a1, .int a2, .int a3]) (xQi (dC, dI) classes (wX ty ad co_rows co_marks co_rowSets co_partners co_open co_count tr_kinds tr_lefts tr_rights tr_seconds tr_size gr_kinds gr_nodes gr_rowSets gr_firstStates gr_targetCounts gr_targets gr_stepScores gr_letterScores gr_size tx_letters tx_length va_scores va_knownEnds hi_begins hi_lengths hi_scores hi_taken hi_count de_states de_begins de_lengths de_length) (wX ty ad co_rows co_marks co_rowSets co_partners co_open co_count tr_kinds tr_lefts tr_rights tr_seconds tr_size gr_kinds gr_nodes gr_rowSets gr_firstStates gr_targetCounts gr_targets gr_stepScores gr_letterScores gr_size tx_letters tx_length va_scores va_knownEnds hi_begins hi_lengths hi_scores hi_taken hi_count de_states de_begins de_lengths de_length) sz r0) 0 0 (va_A (wX ty ad co_rows co_marks co_rowSets co_partners co_open co_count tr_kinds tr_lefts tr_rights tr_seconds tr_size gr_kinds gr_nodes gr_rowSets gr_firstStates gr_targetCounts gr_targets gr_stepScores gr_letterScores gr_size tx_letters tx_length va_scores va_knownEnds hi_begins hi_lengths hi_scores hi_taken hi_count de_states de_begins de_lengths de_length) sz) := by
  refine xmet_i rfl (Nat.le_of_ble_eq_true rfl) ?_
  intro p e s m below meth c A ls Q hx hb hml hts hown hK hN hA hP hD hS hl hret
  replace hown : s.vm.findClass R_Va = some m.cls := hown
  have hl : lv_has ls 4 [(0, .ref (ad 22)), (1, .int a1), (2, .int a2), (3, .int a3)] := hl
  rw [f_Va_reckon] at hf
  obtain ⟨H, eH⟩ : ∃ H : Heap, H = s.heap := ⟨_, rfl⟩
  obtain ⟨locs, eL⟩ : ∃ L : List Loc, L = [] := ⟨_, rfl⟩
  have hP : va_P (dC, dI) classes (wX ty ad co_rows co_marks co_rowSets co_partners co_open co_count tr_kinds tr_lefts tr_rights tr_seconds tr_size gr_kinds gr_nodes gr_rowSets gr_firstStates gr_targetCounts gr_targets gr_stepScores gr_letterScores gr_size tx_letters tx_length va_scores va_knownEnds hi_begins hi_lengths hi_scores hi_taken hi_count de_states de_begins de_lengths de_length) H := by rw [eH]; exact hP
  have hS : va_S A s.heap H locs := by rw [eH, eL]; exact hS
  rw [← eL]
  suffices hgoal : W p l e rm_Va_reckon s m (List.toArray [.ref (ad 22), .int a1, .int a2, .int a3]) below meth c H locs 0 0 Q (F0 m 0 ls []) by rw [eH] at hgoal; exact hgoal
  clear eH eL
  refine lv_aload_n hx hb d_Va_reckon_0 rfl (lv_at hl 0 rfl) ?_
  refine va_get (D := (dC, dI)) (ci := 5) (v := .ref (ad 11)) (C := R_Va) (T := F_Va) (N := 4) hx hb hts iw_Va hown hK hP 22 rfl rfl 0 (by decide) (hts _ m_185) (fun _ h9 => h9) rfl d_Va_reckon_1 ?_
  refine lv_iload_n hx hb d_Va_reckon_4 rfl (lv_at hl 1 rfl) ?_
  obtain ⟨r1, hc2, hf⟩ := ob1_inv hf
  refine xk_i (xrunV (C := R_Gr) (As := [.int a1]) (rest := []) ⟨hx, hb, hml, hown, hts⟩ (c_Gr_kindOf l dC dI ty ad ta H.size co_rows co_marks co_rowSets co_partners co_open co_count tr_kinds tr_lefts tr_rights tr_seconds tr_size gr_kinds gr_nodes gr_rowSets gr_firstStates gr_targetCounts gr_targets gr_stepScores gr_letterScores gr_size tx_letters tx_length va_scores va_knownEnds hi_begins hi_lengths hi_scores hi_taken hi_count de_states de_begins de_lengths de_length a1 r1 hc2) z_Va_49 ⟨⟨rfl, rfl⟩, by decide, by decide⟩ hK hP hD hN hS hA (va_recv hK hP (ci := 3) (q0 := 11) rfl rfl) rfl hl.1 rfl (Nat.le_of_ble_eq_true rfl) d_Va_reckon_5 ⟨Nat.zero_le _, Nat.zero_le _⟩) hS hD rfl hA (fun H locs hP hD hS => ?_)
  refine W.eq (g2 := F0 m 8 ls [.int r1]) rfl ?_
  by_cases c3 : r1 = (7 : Int32)
  · have hf := xif_t c3 hf
    refine lv_lookup (off := 39) (tgt := 47) hx hb d_Va_reckon_8 (by decide) (by rw [c3]; decide) (by decide) ?_
    refine lv_aload_n hx hb d_Va_reckon_47 rfl (lv_at hl 0 rfl) ?_
    refine lv_iload_n hx hb d_Va_reckon_48 rfl (lv_at hl 1 rfl) ?_
    refine lv_iload_n hx hb d_Va_reckon_49 rfl (lv_at hl 2 rfl) ?_
    refine lv_iload_n hx hb d_Va_reckon_50 rfl (lv_at hl 3 rfl) ?_
    obtain ⟨r4, hc5, hf⟩ := ob1_inv hf
    refine xk_i (xrunV (C := R_Va) (As := [.int a1, .int a2, .int a3]) (rest := []) ⟨hx, hb, hml, hown, hts⟩ (c_Va_greatestOfSplits l dC dI ty ad ta H.size co_rows co_marks co_rowSets co_partners co_open co_count tr_kinds tr_lefts tr_rights tr_seconds tr_size gr_kinds gr_nodes gr_rowSets gr_firstStates gr_targetCounts gr_targets gr_stepScores gr_letterScores gr_size tx_letters tx_length va_scores va_knownEnds hi_begins hi_lengths hi_scores hi_taken hi_count de_states de_begins de_lengths de_length a1 a2 a3 r4 hc5) z_Va_72 ⟨⟨rfl, rfl⟩, by decide, by decide⟩ hK hP hD hN hS hA (va_recv hK hP (ci := 5) (q0 := 22) rfl rfl) rfl hl.1 rfl (Nat.le_of_ble_eq_true rfl) d_Va_reckon_51 ⟨Nat.zero_le _, Nat.zero_le _⟩) hS hD rfl hA (fun H locs hP hD hS => ?_)
    refine W.eq (g2 := F0 m 54 ls [.int r4]) rfl ?_
    obtain rfl := os1 hf
    exact hret H locs _ _ _ d_Va_reckon_54 rfl hP hS
  · have hf := xif_f c3 hf
    by_cases c6 : r1 = (8 : Int32)
    · have hf := xif_t c6 hf
      refine lv_lookup (off := 28) (tgt := 36) hx hb d_Va_reckon_8 (by decide) (by rw [c6]; decide) (by decide) ?_
      refine lv_iload_n hx hb d_Va_reckon_36 rfl (lv_at hl 3 rfl) ?_
      refine lv_if_ne (tgt := 44) hx hb d_Va_reckon_37 (by decide) (fun c7 => ?_) (fun c7 => ?_)
      · have hf := xif_f c7 hf
        refine lv_ldc (v := -1000000) hx hb hown (hts _ m_560) d_Va_reckon_44 ?_
        obtain rfl := os1 hf
        exact hret H locs _ _ _ d_Va_reckon_46 rfl hP hS
      · have hf := xif_t c7 hf
        refine lv_iconst (v := 0) hx hb d_Va_reckon_40 (by decide) ?_
        refine lv_goto (tgt := 46) hx hb d_Va_reckon_41 (by decide) ?_
        obtain rfl := os1 hf
        exact hret H locs _ _ _ d_Va_reckon_46 rfl hP hS
    · have hf := xif_f c6 hf
      refine lv_lookup (off := 47) (tgt := 55) hx hb d_Va_reckon_8 (by decide) (by rw [lv_osw (k := (7 : Int32)) (a := 7) c3 rfl]; rw [lv_osw (k := (8 : Int32)) (a := 8) c6 rfl]; rfl) (by decide) ?_
      refine lv_aload_n hx hb d_Va_reckon_55 rfl (lv_at hl 0 rfl) ?_
      refine lv_iload_n hx hb d_Va_reckon_56 rfl (lv_at hl 1 rfl) ?_
      refine lv_iload_n hx hb d_Va_reckon_57 rfl (lv_at hl 2 rfl) ?_
      refine lv_iload_n hx hb d_Va_reckon_58 rfl (lv_at hl 3 rfl) ?_
      obtain ⟨r8, hc9, hf⟩ := ob1_inv hf
      refine xk_i (xrunV (C := R_Va) (As := [.int a1, .int a2, .int a3]) (rest := []) ⟨hx, hb, hml, hown, hts⟩ (c_Va_greatestOfTargets l dC dI ty ad ta H.size co_rows co_marks co_rowSets co_partners co_open co_count tr_kinds tr_lefts tr_rights tr_seconds tr_size gr_kinds gr_nodes gr_rowSets gr_firstStates gr_targetCounts gr_targets gr_stepScores gr_letterScores gr_size tx_letters tx_length va_scores va_knownEnds hi_begins hi_lengths hi_scores hi_taken hi_count de_states de_begins de_lengths de_length a1 a2 a3 r8 hc9) z_Va_75 ⟨⟨rfl, rfl⟩, by decide, by decide⟩ hK hP hD hN hS hA (va_recv hK hP (ci := 5) (q0 := 22) rfl rfl) rfl hl.1 rfl (Nat.le_of_ble_eq_true rfl) d_Va_reckon_59 ⟨Nat.zero_le _, Nat.zero_le _⟩) hS hD rfl hA (fun H locs hP hD hS => ?_)
      refine W.eq (g2 := F0 m 62 ls [.int r8]) rfl ?_
      obtain rfl := os1 hf
      exact hret H locs _ _ _ d_Va_reckon_62 rfl hP hS
def f_Va_catchUp_K39_71 (x2_18 : Int32) (rec18 : (Int32 → (Nat → Int32) → Option ((Nat → Int32) × Int32))) (x3_39 : Int32) (va_scores_39 : (Nat → Int32)) : Option ((Nat → Int32) × Int32) := rec18 (x2_18 + (1 : Int32)) va_scores_39
def f_Va_catchUp_L39 (gr_kinds : (Nat → Int32)) (gr_targetCounts : (Nat → Int32)) (gr_targets : (Nat → Int32)) (gr_stepScores : (Nat → Int32)) (gr_letterScores : (Nat → Int32)) (tx_letters : (Nat → Int32)) (x1_5 : Int32) (x2_18 : Int32) (k39_71 : (Int32 → (Nat → Int32) → Option ((Nat → Int32) × Int32))) : Nat → Int32 → (Nat → Int32) → Option ((Nat → Int32) × Int32)
  | 0, _, _ => none
  | n39 + 1, x3_39, va_scores_39 => if x3_39 < (0 : Int32) then (k39_71 x3_39 va_scores_39) else (ob1 (f_Va_place x3_39 (x1_5 - x2_18) x2_18) (fun r9 => ob1 (f_Va_reckon gr_kinds gr_targetCounts gr_targets gr_stepScores gr_letterScores tx_letters va_scores_39 x3_39 (x1_5 - x2_18) x2_18) (fun r11 => gd (xin r9 10621) ((f_Va_catchUp_L39 gr_kinds gr_targetCounts gr_targets gr_stepScores gr_letterScores tx_letters x1_5 x2_18 k39_71 n39) (x3_39 + (-1 : Int32)) (upd va_scores_39 (Int32.toNatClampNeg r9) r11)))))
def f_Va_catchUp_K18_77 (x1_5 : Int32) (rec5 : (Int32 → (Nat → Int32) → Option ((Nat → Int32) × Int32))) (x2_18 : Int32) (va_scores_18 : (Nat → Int32)) : Option ((Nat → Int32) × Int32) := rec5 (x1_5 + (1 : Int32)) va_scores_18
def f_Va_catchUp_L18 (gr_kinds : (Nat → Int32)) (gr_targetCounts : (Nat → Int32)) (gr_targets : (Nat → Int32)) (gr_stepScores : (Nat → Int32)) (gr_letterScores : (Nat → Int32)) (gr_size : Int32) (tx_letters : (Nat → Int32)) (x1_5 : Int32) (k18_77 : (Int32 → (Nat → Int32) → Option ((Nat → Int32) × Int32))) : Nat → Int32 → (Nat → Int32) → Option ((Nat → Int32) × Int32)
  | 0, _, _ => none
  | n18 + 1, x2_18, va_scores_18 => if (12 : Int32) < x2_18 then (k18_77 x2_18 va_scores_18) else (if x1_5 < x2_18 then (k18_77 x2_18 va_scores_18) else (ob1 (f_Gr_size gr_size) (fun r6 => f_Va_catchUp_L39 gr_kinds gr_targetCounts gr_targets gr_stepScores gr_letterScores tx_letters x1_5 x2_18 (f_Va_catchUp_K39_71 x2_18 (f_Va_catchUp_L18 gr_kinds gr_targetCounts gr_targets gr_stepScores gr_letterScores gr_size tx_letters x1_5 k18_77 n18)) 1000 (r6 - (1 : Int32)) va_scores_18)))
def f_Va_catchUp_K5_83 (tx_length : Int32) (x1_5 : Int32) (va_scores_5 : (Nat → Int32)) : Option ((Nat → Int32) × Int32) := ob1 (f_Tx_length tx_length) (fun r14 => some (va_scores_5, (r14 + (1 : Int32))))
def f_Va_catchUp_L5 (gr_kinds : (Nat → Int32)) (gr_targetCounts : (Nat → Int32)) (gr_targets : (Nat → Int32)) (gr_stepScores : (Nat → Int32)) (gr_letterScores : (Nat → Int32)) (gr_size : Int32) (tx_letters : (Nat → Int32)) (tx_length : Int32) (k5_83 : (Int32 → (Nat → Int32) → Option ((Nat → Int32) × Int32))) : Nat → Int32 → (Nat → Int32) → Option ((Nat → Int32) × Int32)
  | 0, _, _ => none
  | n5 + 1, x1_5, va_scores_5 => ob1 (f_Tx_length tx_length) (fun r1 => if r1 < x1_5 then (k5_83 x1_5 va_scores_5) else (f_Va_catchUp_L18 gr_kinds gr_targetCounts gr_targets gr_stepScores gr_letterScores gr_size tx_letters x1_5 (f_Va_catchUp_K18_77 x1_5 (f_Va_catchUp_L5 gr_kinds gr_targetCounts gr_targets gr_stepScores gr_letterScores gr_size tx_letters tx_length k5_83 n5)) 1000 (0 : Int32) va_scores_5))
def f_Va_catchUp (gr_kinds : (Nat → Int32)) (gr_targetCounts : (Nat → Int32)) (gr_targets : (Nat → Int32)) (gr_stepScores : (Nat → Int32)) (gr_letterScores : (Nat → Int32)) (gr_size : Int32) (tx_letters : (Nat → Int32)) (tx_length : Int32) (va_scores : (Nat → Int32)) (va_knownEnds : Int32) : Option ((Nat → Int32) × Int32) := f_Va_catchUp_L5 gr_kinds gr_targetCounts gr_targets gr_stepScores gr_letterScores gr_size tx_letters tx_length (f_Va_catchUp_K5_83 tx_length) 1000 va_knownEnds va_scores
set_option maxHeartbeats 4000000 in
set_option maxRecDepth 100000 in
theorem c_Va_catchUp (l : Launch) (dC : Nat → ClassId) (dI : Nat → Nat → Nat) (ty : Nat → ClassId) (ad : Nat → Nat) (ta : Nat → Nat) (sz : Nat) (co_rows : Int32) (co_marks : (Nat → Int32)) (co_rowSets : (Nat → Int32)) (co_partners : (Nat → Int32)) (co_open : (Nat → Int32)) (co_count : Int32) (tr_kinds : (Nat → Int32)) (tr_lefts : (Nat → Int32)) (tr_rights : (Nat → Int32)) (tr_seconds : (Nat → Int32)) (tr_size : Int32) (gr_kinds : (Nat → Int32)) (gr_nodes : (Nat → Int32)) (gr_rowSets : (Nat → Int32)) (gr_firstStates : (Nat → Int32)) (gr_targetCounts : (Nat → Int32)) (gr_targets : (Nat → Int32)) (gr_stepScores : (Nat → Int32)) (gr_letterScores : (Nat → Int32)) (gr_size : Int32) (tx_letters : (Nat → Int32)) (tx_length : Int32) (va_scores : (Nat → Int32)) (va_knownEnds : Int32) (hi_begins : (Nat → Int32)) (hi_lengths : (Nat → Int32)) (hi_scores : (Nat → Int32)) (hi_taken : (Nat → Int32)) (hi_count : Int32) (de_states : (Nat → Int32)) (de_begins : (Nat → Int32)) (de_lengths : (Nat → Int32)) (de_length : Int32)  (n_va_scores : (Nat → Int32)) (n_va_knownEnds : Int32) (hf : f_Va_catchUp gr_kinds gr_targetCounts gr_targets gr_stepScores gr_letterScores gr_size tx_letters tx_length va_scores va_knownEnds = some (n_va_scores, n_va_knownEnds)) : Met l y_Va_catchUp (.code y_Va_catchUp prog_8_method_4_code 4 none :: gw) rm_Va_catchUp (xPre ta (dC, dI) classes (tys3 ty) (wX ty ad co_rows co_marks co_rowSets co_partners co_open co_count tr_kinds tr_lefts tr_rights tr_seconds tr_size gr_kinds gr_nodes gr_rowSets gr_firstStates gr_targetCounts gr_targets gr_stepScores gr_letterScores gr_size tx_letters tx_length va_scores va_knownEnds hi_begins hi_lengths hi_scores hi_taken hi_count de_states de_begins de_lengths de_length) sz [.ref (ad 22)]) (xQv (dC, dI) classes (wX ty ad co_rows co_marks co_rowSets co_partners co_open co_count tr_kinds tr_lefts tr_rights tr_seconds tr_size gr_kinds gr_nodes gr_rowSets gr_firstStates gr_targetCounts gr_targets gr_stepScores gr_letterScores gr_size tx_letters tx_length va_scores va_knownEnds hi_begins hi_lengths hi_scores hi_taken hi_count de_states de_begins de_lengths de_length) (wX ty ad co_rows co_marks co_rowSets co_partners co_open co_count tr_kinds tr_lefts tr_rights tr_seconds tr_size gr_kinds gr_nodes gr_rowSets gr_firstStates gr_targetCounts gr_targets gr_stepScores gr_letterScores gr_size tx_letters tx_length n_va_scores n_va_knownEnds hi_begins hi_lengths hi_scores hi_taken hi_count de_states de_begins de_lengths de_length) sz) 0 0 (va_A (wX ty ad co_rows co_marks co_rowSets co_partners co_open co_count tr_kinds tr_lefts tr_rights tr_seconds tr_size gr_kinds gr_nodes gr_rowSets gr_firstStates gr_targetCounts gr_targets gr_stepScores gr_letterScores gr_size tx_letters tx_length va_scores va_knownEnds hi_begins hi_lengths hi_scores hi_taken hi_count de_states de_begins de_lengths de_length) sz) := by
  refine xmet_v rfl (Nat.le_of_ble_eq_true rfl) ?_
  intro p e s m below meth c A ls Q hx hb hml hts hown hK hN hA hP hD hS hl hret
  replace hown : s.vm.findClass R_Va = some m.cls := hown
  have hl : lv_has ls 4 [(0, .ref (ad 22))] := hl
  rw [f_Va_catchUp] at hf
  obtain ⟨H, eH⟩ : ∃ H : Heap, H = s.heap := ⟨_, rfl⟩
  obtain ⟨locs, eL⟩ : ∃ L : List Loc, L = [] := ⟨_, rfl⟩
  have hP : va_P (dC, dI) classes (wX ty ad co_rows co_marks co_rowSets co_partners co_open co_count tr_kinds tr_lefts tr_rights tr_seconds tr_size gr_kinds gr_nodes gr_rowSets gr_firstStates gr_targetCounts gr_targets gr_stepScores gr_letterScores gr_size tx_letters tx_length va_scores va_knownEnds hi_begins hi_lengths hi_scores hi_taken hi_count de_states de_begins de_lengths de_length) H := by rw [eH]; exact hP
  have hS : va_S A s.heap H locs := by rw [eH, eL]; exact hS
  rw [← eL]
  suffices hgoal : W p l e rm_Va_catchUp s m (List.toArray [.ref (ad 22)]) below meth c H locs 0 0 Q (F0 m 0 ls []) by rw [eH] at hgoal; exact hgoal
  clear eH eL
  refine lv_aload_n hx hb d_Va_catchUp_0 rfl (lv_at hl 0 rfl) ?_
  refine va_get (D := (dC, dI)) (ci := 5) (v := .int va_knownEnds) (C := R_Va) (T := F_Va) (N := 4) hx hb hts iw_Va hown hK hP 22 rfl rfl 3 (by decide) (hts _ m_188) (fun _ h9 => h9) rfl d_Va_catchUp_1 ?_
  refine lv_istore_n (lv' := [(1, .int va_knownEnds), (0, .ref (ad 22))]) hx hb d_Va_catchUp_4 rfl hl (by decide) rfl (fun ls hl => ?_)
  have K5_83 : ∀ (x1_5 : Int32) (va_scores_5 : (Nat → Int32)) (H : Heap) (locs : List Loc) (ls : Array Slot), va_P (dC, dI) classes (wX ty ad co_rows co_marks co_rowSets co_partners co_open co_count tr_kinds tr_lefts tr_rights tr_seconds tr_size gr_kinds gr_nodes gr_rowSets gr_firstStates gr_targetCounts gr_targets gr_stepScores gr_letterScores gr_size tx_letters tx_length va_scores_5 va_knownEnds hi_begins hi_lengths hi_scores hi_taken hi_count de_states de_begins de_lengths de_length) H → va_D A (wX ty ad co_rows co_marks co_rowSets co_partners co_open co_count tr_kinds tr_lefts tr_rights tr_seconds tr_size gr_kinds gr_nodes gr_rowSets gr_firstStates gr_targetCounts gr_targets gr_stepScores gr_letterScores gr_size tx_letters tx_length va_scores_5 va_knownEnds hi_begins hi_lengths hi_scores hi_taken hi_count de_states de_begins de_lengths de_length) → va_S A s.heap H locs → lv_has ls 4 [(0, .ref (ad 22))] → f_Va_catchUp_K5_83 tx_length x1_5 va_scores_5 = some (n_va_scores, n_va_knownEnds) → W p l e rm_Va_catchUp s m (List.toArray [.ref (ad 22)]) below meth c H locs 0 0 Q (F0 m 83 ls []) := by
    intro x1_5 va_scores_5 H locs ls hP hD hS hl hf
    rw [f_Va_catchUp_K5_83] at hf
    refine lv_aload_n hx hb d_Va_catchUp_83 rfl (lv_at hl 0 rfl) ?_
    refine lv_aload_n hx hb d_Va_catchUp_84 rfl (lv_at hl 0 rfl) ?_
    refine va_get (D := (dC, dI)) (ci := 5) (v := .ref (ad 20)) (C := R_Va) (T := F_Va) (N := 4) hx hb hts iw_Va hown hK hP 22 rfl rfl 1 (by decide) (hts _ m_186) (fun _ h9 => h9) rfl d_Va_catchUp_85 ?_
    obtain ⟨r14, hc15, hf⟩ := ob1_inv hf
    refine xk_i (xrunV (C := R_Tx) (As := []) (rest := [.ref (ad 22)]) ⟨hx, hb, hml, hown, hts⟩ (c_Tx_length l dC dI ty ad ta H.size co_rows co_marks co_rowSets co_partners co_open co_count tr_kinds tr_lefts tr_rights tr_seconds tr_size gr_kinds gr_nodes gr_rowSets gr_firstStates gr_targetCounts gr_targets gr_stepScores gr_letterScores gr_size tx_letters tx_length va_scores_5 va_knownEnds hi_begins hi_lengths hi_scores hi_taken hi_count de_states de_begins de_lengths de_length  r14 hc15) z_Va_27 ⟨⟨rfl, rfl⟩, by decide, by decide⟩ hK hP hD hN hS hA (va_recv hK hP (ci := 4) (q0 := 20) rfl rfl) rfl hl.1 rfl (Nat.le_of_ble_eq_true rfl) d_Va_catchUp_88 ⟨Nat.zero_le _, Nat.zero_le _⟩) hS hD rfl hA (fun H locs hP hD hS => ?_)
    refine W.eq (g2 := F0 m 91 ls [.int r14, .ref (ad 22)]) rfl ?_
    refine lv_iconst (v := 1) hx hb d_Va_catchUp_91 (by decide) ?_
    refine lv_iadd hx hb d_Va_catchUp_92 ?_
    refine va_put (D := (dC, dI)) (ci := 5) (v := .int (r14 + (1 : Int32))) (ty := .int) (C := R_Va) (T := F_Va) (N := 4) hx hb hts iw_Va t_Va t_Va_ok n_Va hown hK hP hD hS 22 rfl rfl 3 (by decide) (hts _ m_188) (fun _ h9 => h9) rfl (by decide +kernel) rfl rfl (Nat.le_of_ble_eq_true rfl) d_Va_catchUp_93 (fun H locs hP hD hS => ?_)
    have hP : va_P (dC, dI) classes (wX ty ad co_rows co_marks co_rowSets co_partners co_open co_count tr_kinds tr_lefts tr_rights tr_seconds tr_size gr_kinds gr_nodes gr_rowSets gr_firstStates gr_targetCounts gr_targets gr_stepScores gr_letterScores gr_size tx_letters tx_length va_scores_5 (r14 + (1 : Int32)) hi_begins hi_lengths hi_scores hi_taken hi_count de_states de_begins de_lengths de_length) H := hP
    have hD : va_D A (wX ty ad co_rows co_marks co_rowSets co_partners co_open co_count tr_kinds tr_lefts tr_rights tr_seconds tr_size gr_kinds gr_nodes gr_rowSets gr_firstStates gr_targetCounts gr_targets gr_stepScores gr_letterScores gr_size tx_letters tx_length va_scores_5 (r14 + (1 : Int32)) hi_begins hi_lengths hi_scores hi_taken hi_count de_states de_begins de_lengths de_length) := hD
    obtain ⟨rfl, rfl⟩ := os2 hf
    exact hret H locs _ _ d_Va_catchUp_96 hP hS
  have L5 : ∀ (n5 : Nat), ∀ (x1_5 : Int32) (va_scores_5 : (Nat → Int32)) (H : Heap) (locs : List Loc) (ls : Array Slot), va_P (dC, dI) classes (wX ty ad co_rows co_marks co_rowSets co_partners co_open co_count tr_kinds tr_lefts tr_rights tr_seconds tr_size gr_kinds gr_nodes gr_rowSets gr_firstStates gr_targetCounts gr_targets gr_stepScores gr_letterScores gr_size tx_letters tx_length va_scores_5 va_knownEnds hi_begins hi_lengths hi_scores hi_taken hi_count de_states de_begins de_lengths de_length) H → va_D A (wX ty ad co_rows co_marks co_rowSets co_partners co_open co_count tr_kinds tr_lefts tr_rights tr_seconds tr_size gr_kinds gr_nodes gr_rowSets gr_firstStates gr_targetCounts gr_targets gr_stepScores gr_letterScores gr_size tx_letters tx_length va_scores_5 va_knownEnds hi_begins hi_lengths hi_scores hi_taken hi_count de_states de_begins de_lengths de_length) → va_S A s.heap H locs → lv_has ls 4 [(0, .ref (ad 22)), (1, .int x1_5)] → f_Va_catchUp_L5 gr_kinds gr_targetCounts gr_targets gr_stepScores gr_letterScores gr_size tx_letters tx_length (f_Va_catchUp_K5_83 tx_length) n5 x1_5 va_scores_5 = some (n_va_scores, n_va_knownEnds) → W p l e rm_Va_catchUp s m (List.toArray [.ref (ad 22)]) below meth c H locs 0 0 Q (F0 m 5 ls []) := by
    intro n5
    induction n5 with
    | zero =>
      intro x1_5 va_scores_5 H locs ls hP hD hS hl hf
      rw [f_Va_catchUp_L5] at hf
      cases hf
    | succ n5 ih5 =>
      intro x1_5 va_scores_5 H locs ls hP hD hS hl hf
      rw [f_Va_catchUp_L5] at hf
      refine lv_iload_n hx hb d_Va_catchUp_5 rfl (lv_at hl 1 rfl) ?_
      refine lv_aload_n hx hb d_Va_catchUp_6 rfl (lv_at hl 0 rfl) ?_
      refine va_get (D := (dC, dI)) (ci := 5) (v := .ref (ad 20)) (C := R_Va) (T := F_Va) (N := 4) hx hb hts iw_Va hown hK hP 22 rfl rfl 1 (by decide) (hts _ m_186) (fun _ h9 => h9) rfl d_Va_catchUp_7 ?_
      obtain ⟨r1, hc2, hf⟩ := ob1_inv hf
      refine xk_i (xrunV (C := R_Tx) (As := []) (rest := [.int x1_5]) ⟨hx, hb, hml, hown, hts⟩ (c_Tx_length l dC dI ty ad ta H.size co_rows co_marks co_rowSets co_partners co_open co_count tr_kinds tr_lefts tr_rights tr_seconds tr_size gr_kinds gr_nodes gr_rowSets gr_firstStates gr_targetCounts gr_targets gr_stepScores gr_letterScores gr_size tx_letters tx_length va_scores_5 va_knownEnds hi_begins hi_lengths hi_scores hi_taken hi_count de_states de_begins de_lengths de_length  r1 hc2) z_Va_27 ⟨⟨rfl, rfl⟩, by decide, by decide⟩ hK hP hD hN hS hA (va_recv hK hP (ci := 4) (q0 := 20) rfl rfl) rfl hl.1 rfl (Nat.le_of_ble_eq_true rfl) d_Va_catchUp_10 ⟨Nat.zero_le _, Nat.zero_le _⟩) hS hD rfl hA (fun H locs hP hD hS => ?_)
      refine W.eq (g2 := F0 m 13 ls [.int r1, .int x1_5]) rfl ?_
      refine lv_icmp_gt (tgt := 83) hx hb d_Va_catchUp_13 (by decide) (fun c3 => ?_) (fun c3 => ?_)
      · have hf := xif_t c3 hf
        exact K5_83 x1_5 va_scores_5 _ _ _ hP hD hS (lv_sub hl [0] rfl) hf
      · have hf := xif_f c3 hf
        refine lv_iconst (v := 0) hx hb d_Va_catchUp_16 (by decide) ?_
        refine lv_istore_n (lv' := [(2, .int (0 : Int32)), (0, .ref (ad 22)), (1, .int x1_5)]) hx hb d_Va_catchUp_17 rfl hl (by decide) rfl (fun ls hl => ?_)
        have K18_77 : ∀ (x2_18 : Int32) (va_scores_18 : (Nat → Int32)) (H : Heap) (locs : List Loc) (ls : Array Slot), va_P (dC, dI) classes (wX ty ad co_rows co_marks co_rowSets co_partners co_open co_count tr_kinds tr_lefts tr_rights tr_seconds tr_size gr_kinds gr_nodes gr_rowSets gr_firstStates gr_targetCounts gr_targets gr_stepScores gr_letterScores gr_size tx_letters tx_length va_scores_18 va_knownEnds hi_begins hi_lengths hi_scores hi_taken hi_count de_states de_begins de_lengths de_length) H → va_D A (wX ty ad co_rows co_marks co_rowSets co_partners co_open co_count tr_kinds tr_lefts tr_rights tr_seconds tr_size gr_kinds gr_nodes gr_rowSets gr_firstStates gr_targetCounts gr_targets gr_stepScores gr_letterScores gr_size tx_letters tx_length va_scores_18 va_knownEnds hi_begins hi_lengths hi_scores hi_taken hi_count de_states de_begins de_lengths de_length) → va_S A s.heap H locs → lv_has ls 4 [(0, .ref (ad 22)), (1, .int x1_5)] → f_Va_catchUp_K18_77 x1_5 (f_Va_catchUp_L5 gr_kinds gr_targetCounts gr_targets gr_stepScores gr_letterScores gr_size tx_letters tx_length (f_Va_catchUp_K5_83 tx_length) n5) x2_18 va_scores_18 = some (n_va_scores, n_va_knownEnds) → W p l e rm_Va_catchUp s m (List.toArray [.ref (ad 22)]) below meth c H locs 0 0 Q (F0 m 77 ls []) := by
          intro x2_18 va_scores_18 H locs ls hP hD hS hl hf
          rw [f_Va_catchUp_K18_77] at hf
          refine lv_iinc (v := (x1_5 + (1 : Int32))) (lv' := [(1, .int (x1_5 + (1 : Int32))), (0, .ref (ad 22))]) hx hb d_Va_catchUp_77 hl (k := 1) rfl rfl (by decide) rfl (fun ls hl => ?_)
          refine lv_goto (tgt := 5) hx hb d_Va_catchUp_80 (by decide) ?_
          exact ih5 (x1_5 + (1 : Int32)) va_scores_18 _ _ _ hP hD hS (lv_sub hl [1, 0] rfl) hf
        have L18 : ∀ (n18 : Nat), ∀ (x2_18 : Int32) (va_scores_18 : (Nat → Int32)) (H : Heap) (locs : List Loc) (ls : Array Slot), va_P (dC, dI) classes (wX ty ad co_rows co_marks co_rowSets co_partners co_open co_count tr_kinds tr_lefts tr_rights tr_seconds tr_size gr_kinds gr_nodes gr_rowSets gr_firstStates gr_targetCounts gr_targets gr_stepScores gr_letterScores gr_size tx_letters tx_length va_scores_18 va_knownEnds hi_begins hi_lengths hi_scores hi_taken hi_count de_states de_begins de_lengths de_length) H → va_D A (wX ty ad co_rows co_marks co_rowSets co_partners co_open co_count tr_kinds tr_lefts tr_rights tr_seconds tr_size gr_kinds gr_nodes gr_rowSets gr_firstStates gr_targetCounts gr_targets gr_stepScores gr_letterScores gr_size tx_letters tx_length va_scores_18 va_knownEnds hi_begins hi_lengths hi_scores hi_taken hi_count de_states de_begins de_lengths de_length) → va_S A s.heap H locs → lv_has ls 4 [(0, .ref (ad 22)), (1, .int x1_5), (2, .int x2_18)] → f_Va_catchUp_L18 gr_kinds gr_targetCounts gr_targets gr_stepScores gr_letterScores gr_size tx_letters x1_5 (f_Va_catchUp_K18_77 x1_5 (f_Va_catchUp_L5 gr_kinds gr_targetCounts gr_targets gr_stepScores gr_letterScores gr_size tx_letters tx_length (f_Va_catchUp_K5_83 tx_length) n5)) n18 x2_18 va_scores_18 = some (n_va_scores, n_va_knownEnds) → W p l e rm_Va_catchUp s m (List.toArray [.ref (ad 22)]) below meth c H locs 0 0 Q (F0 m 18 ls []) := by
          intro n18
          induction n18 with
          | zero =>
            intro x2_18 va_scores_18 H locs ls hP hD hS hl hf
            rw [f_Va_catchUp_L18] at hf
            cases hf
          | succ n18 ih18 =>
            intro x2_18 va_scores_18 H locs ls hP hD hS hl hf
            rw [f_Va_catchUp_L18] at hf
            refine lv_iload_n hx hb d_Va_catchUp_18 rfl (lv_at hl 2 rfl) ?_
            refine lv_bipush (v := 12) hx hb d_Va_catchUp_19 (by decide) ?_
            refine lv_icmp_gt (tgt := 77) hx hb d_Va_catchUp_21 (by decide) (fun c4 => ?_) (fun c4 => ?_)
            · have hf := xif_t c4 hf
              exact K18_77 x2_18 va_scores_18 _ _ _ hP hD hS (lv_sub hl [0, 1] rfl) hf
            · have hf := xif_f c4 hf
              refine lv_iload_n hx hb d_Va_catchUp_24 rfl (lv_at hl 2 rfl) ?_
              refine lv_iload_n hx hb d_Va_catchUp_25 rfl (lv_at hl 1 rfl) ?_
              refine lv_icmp_gt (tgt := 77) hx hb d_Va_catchUp_26 (by decide) (fun c5 => ?_) (fun c5 => ?_)
              · have hf := xif_t c5 hf
                exact K18_77 x2_18 va_scores_18 _ _ _ hP hD hS (lv_sub hl [0, 1] rfl) hf
              · have hf := xif_f c5 hf
                refine lv_aload_n hx hb d_Va_catchUp_29 rfl (lv_at hl 0 rfl) ?_
                refine va_get (D := (dC, dI)) (ci := 5) (v := .ref (ad 11)) (C := R_Va) (T := F_Va) (N := 4) hx hb hts iw_Va hown hK hP 22 rfl rfl 0 (by decide) (hts _ m_185) (fun _ h9 => h9) rfl d_Va_catchUp_30 ?_
                obtain ⟨r6, hc7, hf⟩ := ob1_inv hf
                refine xk_i (xrunV (C := R_Gr) (As := []) (rest := []) ⟨hx, hb, hml, hown, hts⟩ (c_Gr_size l dC dI ty ad ta H.size co_rows co_marks co_rowSets co_partners co_open co_count tr_kinds tr_lefts tr_rights tr_seconds tr_size gr_kinds gr_nodes gr_rowSets gr_firstStates gr_targetCounts gr_targets gr_stepScores gr_letterScores gr_size tx_letters tx_length va_scores_18 va_knownEnds hi_begins hi_lengths hi_scores hi_taken hi_count de_states de_begins de_lengths de_length  r6 hc7) z_Va_33 ⟨⟨rfl, rfl⟩, by decide, by decide⟩ hK hP hD hN hS hA (va_recv hK hP (ci := 3) (q0 := 11) rfl rfl) rfl hl.1 rfl (Nat.le_of_ble_eq_true rfl) d_Va_catchUp_33 ⟨Nat.zero_le _, Nat.zero_le _⟩) hS hD rfl hA (fun H locs hP hD hS => ?_)
                refine W.eq (g2 := F0 m 36 ls [.int r6]) rfl ?_
                refine lv_iconst (v := 1) hx hb d_Va_catchUp_36 (by decide) ?_
                refine lv_isub hx hb d_Va_catchUp_37 ?_
                refine lv_istore_n (lv' := [(3, .int (r6 - (1 : Int32))), (0, .ref (ad 22)), (1, .int x1_5), (2, .int x2_18)]) hx hb d_Va_catchUp_38 rfl hl (by decide) rfl (fun ls hl => ?_)
                have K39_71 : ∀ (x3_39 : Int32) (va_scores_39 : (Nat → Int32)) (H : Heap) (locs : List Loc) (ls : Array Slot), va_P (dC, dI) classes (wX ty ad co_rows co_marks co_rowSets co_partners co_open co_count tr_kinds tr_lefts tr_rights tr_seconds tr_size gr_kinds gr_nodes gr_rowSets gr_firstStates gr_targetCounts gr_targets gr_stepScores gr_letterScores gr_size tx_letters tx_length va_scores_39 va_knownEnds hi_begins hi_lengths hi_scores hi_taken hi_count de_states de_begins de_lengths de_length) H → va_D A (wX ty ad co_rows co_marks co_rowSets co_partners co_open co_count tr_kinds tr_lefts tr_rights tr_seconds tr_size gr_kinds gr_nodes gr_rowSets gr_firstStates gr_targetCounts gr_targets gr_stepScores gr_letterScores gr_size tx_letters tx_length va_scores_39 va_knownEnds hi_begins hi_lengths hi_scores hi_taken hi_count de_states de_begins de_lengths de_length) → va_S A s.heap H locs → lv_has ls 4 [(0, .ref (ad 22)), (1, .int x1_5), (2, .int x2_18)] → f_Va_catchUp_K39_71 x2_18 (f_Va_catchUp_L18 gr_kinds gr_targetCounts gr_targets gr_stepScores gr_letterScores gr_size tx_letters x1_5 (f_Va_catchUp_K18_77 x1_5 (f_Va_catchUp_L5 gr_kinds gr_targetCounts gr_targets gr_stepScores gr_letterScores gr_size tx_letters tx_length (f_Va_catchUp_K5_83 tx_length) n5)) n18) x3_39 va_scores_39 = some (n_va_scores, n_va_knownEnds) → W p l e rm_Va_catchUp s m (List.toArray [.ref (ad 22)]) below meth c H locs 0 0 Q (F0 m 71 ls []) := by
                  intro x3_39 va_scores_39 H locs ls hP hD hS hl hf
                  rw [f_Va_catchUp_K39_71] at hf
                  refine lv_iinc (v := (x2_18 + (1 : Int32))) (lv' := [(2, .int (x2_18 + (1 : Int32))), (0, .ref (ad 22)), (1, .int x1_5)]) hx hb d_Va_catchUp_71 hl (k := 2) rfl rfl (by decide) rfl (fun ls hl => ?_)
                  refine lv_goto (tgt := 18) hx hb d_Va_catchUp_74 (by decide) ?_
                  exact ih18 (x2_18 + (1 : Int32)) va_scores_39 _ _ _ hP hD hS (lv_sub hl [1, 2, 0] rfl) hf
                have L39 : ∀ (n39 : Nat), ∀ (x3_39 : Int32) (va_scores_39 : (Nat → Int32)) (H : Heap) (locs : List Loc) (ls : Array Slot), va_P (dC, dI) classes (wX ty ad co_rows co_marks co_rowSets co_partners co_open co_count tr_kinds tr_lefts tr_rights tr_seconds tr_size gr_kinds gr_nodes gr_rowSets gr_firstStates gr_targetCounts gr_targets gr_stepScores gr_letterScores gr_size tx_letters tx_length va_scores_39 va_knownEnds hi_begins hi_lengths hi_scores hi_taken hi_count de_states de_begins de_lengths de_length) H → va_D A (wX ty ad co_rows co_marks co_rowSets co_partners co_open co_count tr_kinds tr_lefts tr_rights tr_seconds tr_size gr_kinds gr_nodes gr_rowSets gr_firstStates gr_targetCounts gr_targets gr_stepScores gr_letterScores gr_size tx_letters tx_length va_scores_39 va_knownEnds hi_begins hi_lengths hi_scores hi_taken hi_count de_states de_begins de_lengths de_length) → va_S A s.heap H locs → lv_has ls 4 [(0, .ref (ad 22)), (1, .int x1_5), (2, .int x2_18), (3, .int x3_39)] → f_Va_catchUp_L39 gr_kinds gr_targetCounts gr_targets gr_stepScores gr_letterScores tx_letters x1_5 x2_18 (f_Va_catchUp_K39_71 x2_18 (f_Va_catchUp_L18 gr_kinds gr_targetCounts gr_targets gr_stepScores gr_letterScores gr_size tx_letters x1_5 (f_Va_catchUp_K18_77 x1_5 (f_Va_catchUp_L5 gr_kinds gr_targetCounts gr_targets gr_stepScores gr_letterScores gr_size tx_letters tx_length (f_Va_catchUp_K5_83 tx_length) n5)) n18)) n39 x3_39 va_scores_39 = some (n_va_scores, n_va_knownEnds) → W p l e rm_Va_catchUp s m (List.toArray [.ref (ad 22)]) below meth c H locs 0 0 Q (F0 m 39 ls []) := by
                  intro n39
                  induction n39 with
                  | zero =>
                    intro x3_39 va_scores_39 H locs ls hP hD hS hl hf
                    rw [f_Va_catchUp_L39] at hf
                    cases hf
                  | succ n39 ih39 =>
                    intro x3_39 va_scores_39 H locs ls hP hD hS hl hf
                    rw [f_Va_catchUp_L39] at hf
                    refine lv_iload_n hx hb d_Va_catchUp_39 rfl (lv_at hl 3 rfl) ?_
                    refine lv_if_lt (tgt := 71) hx hb d_Va_catchUp_40 (by decide) (fun c8 => ?_) (fun c8 => ?_)
                    · have hf := xif_t c8 hf
                      exact K39_71 x3_39 va_scores_39 _ _ _ hP hD hS (lv_sub hl [0, 1, 2] rfl) hf
                    · have hf := xif_f c8 hf
                      refine lv_aload_n hx hb d_Va_catchUp_43 rfl (lv_at hl 0 rfl) ?_
                      refine va_get (D := (dC, dI)) (ci := 5) (v := .ref (ad 23)) (C := R_Va) (T := F_Va) (N := 4) hx hb hts iw_Va hown hK hP 22 rfl rfl 2 (by decide) (hts _ m_187) (fun _ h9 => h9) rfl d_Va_catchUp_44 ?_
                      refine lv_iload_n hx hb d_Va_catchUp_47 rfl (lv_at hl 3 rfl) ?_
                      refine lv_iload_n hx hb d_Va_catchUp_48 rfl (lv_at hl 1 rfl) ?_
                      refine lv_iload_n hx hb d_Va_catchUp_49 rfl (lv_at hl 2 rfl) ?_
                      refine lv_isub hx hb d_Va_catchUp_50 ?_
                      refine lv_iload_n hx hb d_Va_catchUp_51 rfl (lv_at hl 2 rfl) ?_
                      obtain ⟨r9, hc10, hf⟩ := ob1_inv hf
                      refine xk_i (xrunS (As := [.int x3_39, .int (x1_5 - x2_18), .int x2_18]) (rest := [.ref (ad 23)]) ⟨hx, hb, hml, hown, hts⟩ (c_Va_place l dC dI ty ad ta H.size co_rows co_marks co_rowSets co_partners co_open co_count tr_kinds tr_lefts tr_rights tr_seconds tr_size gr_kinds gr_nodes gr_rowSets gr_firstStates gr_targetCounts gr_targets gr_stepScores gr_letterScores gr_size tx_letters tx_length va_scores_39 va_knownEnds hi_begins hi_lengths hi_scores hi_taken hi_count de_states de_begins de_lengths de_length x3_39 (x1_5 - x2_18) x2_18 r9 hc10) z_Va_38 ⟨⟨rfl, rfl⟩, by decide, by decide⟩ hK hP hD hN hS hA rfl hl.1 rfl (Nat.le_of_ble_eq_true rfl) d_Va_catchUp_52 ⟨Nat.zero_le _, Nat.zero_le _⟩) hS hD rfl hA (fun H locs hP hD hS => ?_)
                      refine W.eq (g2 := F0 m 55 ls [.int r9, .ref (ad 23)]) rfl ?_
                      refine lv_aload_n hx hb d_Va_catchUp_55 rfl (lv_at hl 0 rfl) ?_
                      refine lv_iload_n hx hb d_Va_catchUp_56 rfl (lv_at hl 3 rfl) ?_
                      refine lv_iload_n hx hb d_Va_catchUp_57 rfl (lv_at hl 1 rfl) ?_
                      refine lv_iload_n hx hb d_Va_catchUp_58 rfl (lv_at hl 2 rfl) ?_
                      refine lv_isub hx hb d_Va_catchUp_59 ?_
                      refine lv_iload_n hx hb d_Va_catchUp_60 rfl (lv_at hl 2 rfl) ?_
                      obtain ⟨r11, hc12, hf⟩ := ob1_inv hf
                      refine xk_i (xrunV (C := R_Va) (As := [.int x3_39, .int (x1_5 - x2_18), .int x2_18]) (rest := [.int r9, .ref (ad 23)]) ⟨hx, hb, hml, hown, hts⟩ (c_Va_reckon l dC dI ty ad ta H.size co_rows co_marks co_rowSets co_partners co_open co_count tr_kinds tr_lefts tr_rights tr_seconds tr_size gr_kinds gr_nodes gr_rowSets gr_firstStates gr_targetCounts gr_targets gr_stepScores gr_letterScores gr_size tx_letters tx_length va_scores_39 va_knownEnds hi_begins hi_lengths hi_scores hi_taken hi_count de_states de_begins de_lengths de_length x3_39 (x1_5 - x2_18) x2_18 r11 hc12) z_Va_42 ⟨⟨rfl, rfl⟩, by decide, by decide⟩ hK hP hD hN hS hA (va_recv hK hP (ci := 5) (q0 := 22) rfl rfl) rfl hl.1 rfl (Nat.le_of_ble_eq_true rfl) d_Va_catchUp_61 ⟨Nat.zero_le _, Nat.zero_le _⟩) hS hD rfl hA (fun H locs hP hD hS => ?_)
                      refine W.eq (g2 := F0 m 64 ls [.int r11, .int r9, .ref (ad 23)]) rfl ?_
                      obtain ⟨hi13, hf⟩ := gdi hf
                      refine va_iast hx hb hK hP hD hS 23 0 rfl rfl hi13 d_Va_catchUp_64 (fun H locs hP hD hS => ?_)
                      have hP : va_P (dC, dI) classes (wX ty ad co_rows co_marks co_rowSets co_partners co_open co_count tr_kinds tr_lefts tr_rights tr_seconds tr_size gr_kinds gr_nodes gr_rowSets gr_firstStates gr_targetCounts gr_targets gr_stepScores gr_letterScores gr_size tx_letters tx_length (upd va_scores_39 (Int32.toNatClampNeg r9) r11) va_knownEnds hi_begins hi_lengths hi_scores hi_taken hi_count de_states de_begins de_lengths de_length) H := hP
                      have hD : va_D A (wX ty ad co_rows co_marks co_rowSets co_partners co_open co_count tr_kinds tr_lefts tr_rights tr_seconds tr_size gr_kinds gr_nodes gr_rowSets gr_firstStates gr_targetCounts gr_targets gr_stepScores gr_letterScores gr_size tx_letters tx_length (upd va_scores_39 (Int32.toNatClampNeg r9) r11) va_knownEnds hi_begins hi_lengths hi_scores hi_taken hi_count de_states de_begins de_lengths de_length) := hD
                      refine lv_iinc (v := (x3_39 + (-1 : Int32))) (lv' := [(3, .int (x3_39 + (-1 : Int32))), (0, .ref (ad 22)), (1, .int x1_5), (2, .int x2_18)]) hx hb d_Va_catchUp_65 hl (k := 3) rfl rfl (by decide) rfl (fun ls hl => ?_)
                      refine lv_goto (tgt := 39) hx hb d_Va_catchUp_68 (by decide) ?_
                      exact ih39 (x3_39 + (-1 : Int32)) (upd va_scores_39 (Int32.toNatClampNeg r9) r11) _ _ _ hP hD hS (lv_sub hl [1, 2, 3, 0] rfl) hf
                exact L39 1000 (r6 - (1 : Int32)) va_scores_18 _ _ _ hP hD hS (lv_sub hl [1, 2, 3, 0] rfl) hf
        exact L18 1000 (0 : Int32) va_scores_5 _ _ _ hP hD hS (lv_sub hl [1, 2, 0] rfl) hf
  exact L5 1000 va_knownEnds va_scores _ _ _ hP hD hS (lv_sub hl [1, 0] rfl) hf
def f_Fa_value (gr_kinds : (Nat → Int32)) (gr_targetCounts : (Nat → Int32)) (gr_targets : (Nat → Int32)) (gr_stepScores : (Nat → Int32)) (gr_letterScores : (Nat → Int32)) (gr_size : Int32) (tx_letters : (Nat → Int32)) (tx_length : Int32) (va_scores : (Nat → Int32)) (va_knownEnds : Int32) (a1 : Int32) (a2 : Int32) (a3 : Int32) : Option (Int32 × (Nat → Int32) × Int32) := ob1 (f_Gr_hasState gr_size a1) (fun r1 => if r1 = (0 : Int32) then (some ((-1000000 : Int32), va_scores, va_knownEnds)) else (if (12 : Int32) < a3 then (some ((-1000000 : Int32), va_scores, va_knownEnds)) else (ob1 (f_Tx_hasPart tx_length a2 a3) (fun r5 => if r5 = (0 : Int32) then (some ((-1000000 : Int32), va_scores, va_knownEnds)) else (ob2 (f_Va_catchUp gr_kinds gr_targetCounts gr_targets gr_stepScores gr_letterScores gr_size tx_letters tx_length va_scores va_knownEnds) (fun w8 w9 => ob1 (f_Va_of w8 a1 a2 a3) (fun r11 => some (r11, w8, w9))))))))
set_option maxHeartbeats 4000000 in
set_option maxRecDepth 100000 in
theorem c_Fa_value (l : Launch) (dC : Nat → ClassId) (dI : Nat → Nat → Nat) (ty : Nat → ClassId) (ad : Nat → Nat) (ta : Nat → Nat) (sz : Nat) (co_rows : Int32) (co_marks : (Nat → Int32)) (co_rowSets : (Nat → Int32)) (co_partners : (Nat → Int32)) (co_open : (Nat → Int32)) (co_count : Int32) (tr_kinds : (Nat → Int32)) (tr_lefts : (Nat → Int32)) (tr_rights : (Nat → Int32)) (tr_seconds : (Nat → Int32)) (tr_size : Int32) (gr_kinds : (Nat → Int32)) (gr_nodes : (Nat → Int32)) (gr_rowSets : (Nat → Int32)) (gr_firstStates : (Nat → Int32)) (gr_targetCounts : (Nat → Int32)) (gr_targets : (Nat → Int32)) (gr_stepScores : (Nat → Int32)) (gr_letterScores : (Nat → Int32)) (gr_size : Int32) (tx_letters : (Nat → Int32)) (tx_length : Int32) (va_scores : (Nat → Int32)) (va_knownEnds : Int32) (hi_begins : (Nat → Int32)) (hi_lengths : (Nat → Int32)) (hi_scores : (Nat → Int32)) (hi_taken : (Nat → Int32)) (hi_count : Int32) (de_states : (Nat → Int32)) (de_begins : (Nat → Int32)) (de_lengths : (Nat → Int32)) (de_length : Int32) (a1 : Int32) (a2 : Int32) (a3 : Int32) (r0 : Int32) (n_va_scores : (Nat → Int32)) (n_va_knownEnds : Int32) (hf : f_Fa_value gr_kinds gr_targetCounts gr_targets gr_stepScores gr_letterScores gr_size tx_letters tx_length va_scores va_knownEnds a1 a2 a3 = some (r0, n_va_scores, n_va_knownEnds)) : Met l y_Fa_value (.code y_Fa_value prog_1_method_12_code 4 (some .int) :: gw) rm_Fa_value (xPre ta (dC, dI) classes (tys3 ty) (wX ty ad co_rows co_marks co_rowSets co_partners co_open co_count tr_kinds tr_lefts tr_rights tr_seconds tr_size gr_kinds gr_nodes gr_rowSets gr_firstStates gr_targetCounts gr_targets gr_stepScores gr_letterScores gr_size tx_letters tx_length va_scores va_knownEnds hi_begins hi_lengths hi_scores hi_taken hi_count de_states de_begins de_lengths de_length) sz [.ref (ad 0), .int a1, .int a2, .int a3]) (xQi (dC, dI) classes (wX ty ad co_rows co_marks co_rowSets co_partners co_open co_count tr_kinds tr_lefts tr_rights tr_seconds tr_size gr_kinds gr_nodes gr_rowSets gr_firstStates gr_targetCounts gr_targets gr_stepScores gr_letterScores gr_size tx_letters tx_length va_scores va_knownEnds hi_begins hi_lengths hi_scores hi_taken hi_count de_states de_begins de_lengths de_length) (wX ty ad co_rows co_marks co_rowSets co_partners co_open co_count tr_kinds tr_lefts tr_rights tr_seconds tr_size gr_kinds gr_nodes gr_rowSets gr_firstStates gr_targetCounts gr_targets gr_stepScores gr_letterScores gr_size tx_letters tx_length n_va_scores n_va_knownEnds hi_begins hi_lengths hi_scores hi_taken hi_count de_states de_begins de_lengths de_length) sz r0) 0 0 (va_A (wX ty ad co_rows co_marks co_rowSets co_partners co_open co_count tr_kinds tr_lefts tr_rights tr_seconds tr_size gr_kinds gr_nodes gr_rowSets gr_firstStates gr_targetCounts gr_targets gr_stepScores gr_letterScores gr_size tx_letters tx_length va_scores va_knownEnds hi_begins hi_lengths hi_scores hi_taken hi_count de_states de_begins de_lengths de_length) sz) := by
  refine xmet_i rfl (Nat.le_of_ble_eq_true rfl) ?_
  intro p e s m below meth c A ls Q hx hb hml hts hown hK hN hA hP hD hS hl hret
  replace hown : s.vm.findClass R_Fa = some m.cls := hown
  have hl : lv_has ls 4 [(0, .ref (ad 0)), (1, .int a1), (2, .int a2), (3, .int a3)] := hl
  rw [f_Fa_value] at hf
  obtain ⟨H, eH⟩ : ∃ H : Heap, H = s.heap := ⟨_, rfl⟩
  obtain ⟨locs, eL⟩ : ∃ L : List Loc, L = [] := ⟨_, rfl⟩
  have hP : va_P (dC, dI) classes (wX ty ad co_rows co_marks co_rowSets co_partners co_open co_count tr_kinds tr_lefts tr_rights tr_seconds tr_size gr_kinds gr_nodes gr_rowSets gr_firstStates gr_targetCounts gr_targets gr_stepScores gr_letterScores gr_size tx_letters tx_length va_scores va_knownEnds hi_begins hi_lengths hi_scores hi_taken hi_count de_states de_begins de_lengths de_length) H := by rw [eH]; exact hP
  have hS : va_S A s.heap H locs := by rw [eH, eL]; exact hS
  rw [← eL]
  suffices hgoal : W p l e rm_Fa_value s m (List.toArray [.ref (ad 0), .int a1, .int a2, .int a3]) below meth c H locs 0 0 Q (F0 m 0 ls []) by rw [eH] at hgoal; exact hgoal
  clear eH eL
  refine lv_aload_n hx hb d_Fa_value_0 rfl (lv_at hl 0 rfl) ?_
  refine va_get (D := (dC, dI)) (ci := 0) (v := .ref (ad 11)) (C := R_Fa) (T := F_Fa) (N := 7) hx hb hts iw_Fa hown hK hP 0 rfl rfl 2 (by decide) (hts _ m_242) (fun _ h9 => h9) rfl d_Fa_value_1 ?_
  refine lv_iload_n hx hb d_Fa_value_4 rfl (lv_at hl 1 rfl) ?_
  obtain ⟨r1, hc2, hf⟩ := ob1_inv hf
  refine xk_i (xrunV (C := R_Gr) (As := [.int a1]) (rest := []) ⟨hx, hb, hml, hown, hts⟩ (c_Gr_hasState l dC dI ty ad ta H.size co_rows co_marks co_rowSets co_partners co_open co_count tr_kinds tr_lefts tr_rights tr_seconds tr_size gr_kinds gr_nodes gr_rowSets gr_firstStates gr_targetCounts gr_targets gr_stepScores gr_letterScores gr_size tx_letters tx_length va_scores va_knownEnds hi_begins hi_lengths hi_scores hi_taken hi_count de_states de_begins de_lengths de_length a1 r1 hc2) z_Fa_111 ⟨⟨rfl, rfl⟩, by decide, by decide⟩ hK hP hD hN hS hA (va_recv hK hP (ci := 3) (q0 := 11) rfl rfl) rfl hl.1 rfl (Nat.le_of_ble_eq_true rfl) d_Fa_value_5 ⟨Nat.zero_le _, Nat.zero_le _⟩) hS hD rfl hA (fun H locs hP hD hS => ?_)
  refine W.eq (g2 := F0 m 8 ls [.int r1]) rfl ?_
  refine lv_if_eq (tgt := 29) hx hb d_Fa_value_8 (by decide) (fun c3 => ?_) (fun c3 => ?_)
  · have hf := xif_t c3 hf
    refine lv_ldc (v := -1000000) hx hb hown (hts _ m_308) d_Fa_value_29 ?_
    obtain ⟨rfl, rfl, rfl⟩ := os3 hf
    exact hret H locs _ _ _ d_Fa_value_31 rfl hP hS
  · have hf := xif_f c3 hf
    refine lv_iload_n hx hb d_Fa_value_11 rfl (lv_at hl 3 rfl) ?_
    refine lv_bipush (v := 12) hx hb d_Fa_value_12 (by decide) ?_
    refine lv_icmp_gt (tgt := 29) hx hb d_Fa_value_14 (by decide) (fun c4 => ?_) (fun c4 => ?_)
    · have hf := xif_t c4 hf
      refine lv_ldc (v := -1000000) hx hb hown (hts _ m_308) d_Fa_value_29 ?_
      obtain ⟨rfl, rfl, rfl⟩ := os3 hf
      exact hret H locs _ _ _ d_Fa_value_31 rfl hP hS
    · have hf := xif_f c4 hf
      refine lv_aload_n hx hb d_Fa_value_17 rfl (lv_at hl 0 rfl) ?_
      refine va_get (D := (dC, dI)) (ci := 0) (v := .ref (ad 20)) (C := R_Fa) (T := F_Fa) (N := 7) hx hb hts iw_Fa hown hK hP 0 rfl rfl 3 (by decide) (hts _ m_243) (fun _ h9 => h9) rfl d_Fa_value_18 ?_
      refine lv_iload_n hx hb d_Fa_value_21 rfl (lv_at hl 2 rfl) ?_
      refine lv_iload_n hx hb d_Fa_value_22 rfl (lv_at hl 3 rfl) ?_
      obtain ⟨r5, hc6, hf⟩ := ob1_inv hf
      refine xk_i (xrunV (C := R_Tx) (As := [.int a2, .int a3]) (rest := []) ⟨hx, hb, hml, hown, hts⟩ (c_Tx_hasPart l dC dI ty ad ta H.size co_rows co_marks co_rowSets co_partners co_open co_count tr_kinds tr_lefts tr_rights tr_seconds tr_size gr_kinds gr_nodes gr_rowSets gr_firstStates gr_targetCounts gr_targets gr_stepScores gr_letterScores gr_size tx_letters tx_length va_scores va_knownEnds hi_begins hi_lengths hi_scores hi_taken hi_count de_states de_begins de_lengths de_length a2 a3 r5 hc6) z_Fa_155 ⟨⟨rfl, rfl⟩, by decide, by decide⟩ hK hP hD hN hS hA (va_recv hK hP (ci := 4) (q0 := 20) rfl rfl) rfl hl.1 rfl (Nat.le_of_ble_eq_true rfl) d_Fa_value_23 ⟨Nat.zero_le _, Nat.zero_le _⟩) hS hD rfl hA (fun H locs hP hD hS => ?_)
      refine W.eq (g2 := F0 m 26 ls [.int r5]) rfl ?_
      refine lv_if_ne (tgt := 32) hx hb d_Fa_value_26 (by decide) (fun c7 => ?_) (fun c7 => ?_)
      · have hf := xif_f c7 hf
        refine lv_aload_n hx hb d_Fa_value_32 rfl (lv_at hl 0 rfl) ?_
        refine va_get (D := (dC, dI)) (ci := 0) (v := .ref (ad 22)) (C := R_Fa) (T := F_Fa) (N := 7) hx hb hts iw_Fa hown hK hP 0 rfl rfl 4 (by decide) (hts _ m_244) (fun _ h9 => h9) rfl d_Fa_value_33 ?_
        obtain ⟨w8, w9, hc10, hf⟩ := ob2_inv hf
        refine xk_v (xrunV (C := R_Va) (As := []) (rest := []) ⟨hx, hb, hml, hown, hts⟩ (c_Va_catchUp l dC dI ty ad ta H.size co_rows co_marks co_rowSets co_partners co_open co_count tr_kinds tr_lefts tr_rights tr_seconds tr_size gr_kinds gr_nodes gr_rowSets gr_firstStates gr_targetCounts gr_targets gr_stepScores gr_letterScores gr_size tx_letters tx_length va_scores va_knownEnds hi_begins hi_lengths hi_scores hi_taken hi_count de_states de_begins de_lengths de_length  w8 w9 hc10) z_Fa_158 ⟨⟨rfl, rfl⟩, by decide, by decide⟩ hK hP hD hN hS hA (va_recv hK hP (ci := 5) (q0 := 22) rfl rfl) rfl hl.1 rfl (Nat.le_of_ble_eq_true rfl) d_Fa_value_36 ⟨Nat.zero_le _, Nat.zero_le _⟩) hS hD rfl hA (fun H locs hP hD hS => ?_)
        refine W.eq (g2 := F0 m 39 ls []) rfl ?_
        refine lv_aload_n hx hb d_Fa_value_39 rfl (lv_at hl 0 rfl) ?_
        refine va_get (D := (dC, dI)) (ci := 0) (v := .ref (ad 22)) (C := R_Fa) (T := F_Fa) (N := 7) hx hb hts iw_Fa hown hK hP 0 rfl rfl 4 (by decide) (hts _ m_244) (fun _ h9 => h9) rfl d_Fa_value_40 ?_
        refine lv_iload_n hx hb d_Fa_value_43 rfl (lv_at hl 1 rfl) ?_
        refine lv_iload_n hx hb d_Fa_value_44 rfl (lv_at hl 2 rfl) ?_
        refine lv_iload_n hx hb d_Fa_value_45 rfl (lv_at hl 3 rfl) ?_
        obtain ⟨r11, hc12, hf⟩ := ob1_inv hf
        refine xk_i (xrunV (C := R_Va) (As := [.int a1, .int a2, .int a3]) (rest := []) ⟨hx, hb, hml, hown, hts⟩ (c_Va_of l dC dI ty ad ta H.size co_rows co_marks co_rowSets co_partners co_open co_count tr_kinds tr_lefts tr_rights tr_seconds tr_size gr_kinds gr_nodes gr_rowSets gr_firstStates gr_targetCounts gr_targets gr_stepScores gr_letterScores gr_size tx_letters tx_length w8 w9 hi_begins hi_lengths hi_scores hi_taken hi_count de_states de_begins de_lengths de_length a1 a2 a3 r11 hc12) z_Fa_161 ⟨⟨rfl, rfl⟩, by decide, by decide⟩ hK hP hD hN hS hA (va_recv hK hP (ci := 5) (q0 := 22) rfl rfl) rfl hl.1 rfl (Nat.le_of_ble_eq_true rfl) d_Fa_value_46 ⟨Nat.zero_le _, Nat.zero_le _⟩) hS hD rfl hA (fun H locs hP hD hS => ?_)
        refine W.eq (g2 := F0 m 49 ls [.int r11]) rfl ?_
        obtain ⟨rfl, rfl, rfl⟩ := os3 hf
        exact hret H locs _ _ _ d_Fa_value_49 rfl hP hS
      · have hf := xif_t c7 hf
        refine lv_ldc (v := -1000000) hx hb hown (hts _ m_308) d_Fa_value_29 ?_
        obtain ⟨rfl, rfl, rfl⟩ := os3 hf
        exact hret H locs _ _ _ d_Fa_value_31 rfl hP hS
def f_Hi_freeEnd_K2_22  (x3_2 : Int32) : Option (Int32) := some (x3_2)
def f_Hi_freeEnd_L2 (hi_taken : (Nat → Int32)) (a2 : Int32) (k2_22 : (Int32 → Option (Int32))) : Nat → Int32 → Option (Int32)
  | 0, _ => none
  | n2 + 1, x3_2 => if a2 ≤ x3_2 then (k2_22 x3_2) else (gd (xin x3_2 24) (if (hi_taken (Int32.toNatClampNeg x3_2)) = (0 : Int32) then ((f_Hi_freeEnd_L2 hi_taken a2 k2_22 n2) (x3_2 + (1 : Int32))) else (k2_22 x3_2)))
def f_Hi_freeEnd (hi_taken : (Nat → Int32)) (a1 : Int32) (a2 : Int32) : Option (Int32) := f_Hi_freeEnd_L2 hi_taken a2 (f_Hi_freeEnd_K2_22) 1000 a1
set_option maxHeartbeats 4000000 in
set_option maxRecDepth 100000 in
theorem c_Hi_freeEnd (l : Launch) (dC : Nat → ClassId) (dI : Nat → Nat → Nat) (ty : Nat → ClassId) (ad : Nat → Nat) (ta : Nat → Nat) (sz : Nat) (co_rows : Int32) (co_marks : (Nat → Int32)) (co_rowSets : (Nat → Int32)) (co_partners : (Nat → Int32)) (co_open : (Nat → Int32)) (co_count : Int32) (tr_kinds : (Nat → Int32)) (tr_lefts : (Nat → Int32)) (tr_rights : (Nat → Int32)) (tr_seconds : (Nat → Int32)) (tr_size : Int32) (gr_kinds : (Nat → Int32)) (gr_nodes : (Nat → Int32)) (gr_rowSets : (Nat → Int32)) (gr_firstStates : (Nat → Int32)) (gr_targetCounts : (Nat → Int32)) (gr_targets : (Nat → Int32)) (gr_stepScores : (Nat → Int32)) (gr_letterScores : (Nat → Int32)) (gr_size : Int32) (tx_letters : (Nat → Int32)) (tx_length : Int32) (va_scores : (Nat → Int32)) (va_knownEnds : Int32) (hi_begins : (Nat → Int32)) (hi_lengths : (Nat → Int32)) (hi_scores : (Nat → Int32)) (hi_taken : (Nat → Int32)) (hi_count : Int32) (de_states : (Nat → Int32)) (de_begins : (Nat → Int32)) (de_lengths : (Nat → Int32)) (de_length : Int32) (a1 : Int32) (a2 : Int32) (r0 : Int32) (hf : f_Hi_freeEnd hi_taken a1 a2 = some (r0)) : Met l y_Hi_freeEnd (.code y_Hi_freeEnd prog_5_method_10_code 4 (some .int) :: gw) rm_Hi_freeEnd (xPre ta (dC, dI) classes (tys3 ty) (wX ty ad co_rows co_marks co_rowSets co_partners co_open co_count tr_kinds tr_lefts tr_rights tr_seconds tr_size gr_kinds gr_nodes gr_rowSets gr_firstStates gr_targetCounts gr_targets gr_stepScores gr_letterScores gr_size tx_letters tx_length va_scores va_knownEnds hi_begins hi_lengths hi_scores hi_taken hi_count de_states de_begins de_lengths de_length) sz [.ref (ad 24), .int a1, .int a2]) (xQi (dC, dI) classes (wX ty ad co_rows co_marks co_rowSets co_partners co_open co_count tr_kinds tr_lefts tr_rights tr_seconds tr_size gr_kinds gr_nodes gr_rowSets gr_firstStates gr_targetCounts gr_targets gr_stepScores gr_letterScores gr_size tx_letters tx_length va_scores va_knownEnds hi_begins hi_lengths hi_scores hi_taken hi_count de_states de_begins de_lengths de_length) (wX ty ad co_rows co_marks co_rowSets co_partners co_open co_count tr_kinds tr_lefts tr_rights tr_seconds tr_size gr_kinds gr_nodes gr_rowSets gr_firstStates gr_targetCounts gr_targets gr_stepScores gr_letterScores gr_size tx_letters tx_length va_scores va_knownEnds hi_begins hi_lengths hi_scores hi_taken hi_count de_states de_begins de_lengths de_length) sz r0) 0 0 (va_A (wX ty ad co_rows co_marks co_rowSets co_partners co_open co_count tr_kinds tr_lefts tr_rights tr_seconds tr_size gr_kinds gr_nodes gr_rowSets gr_firstStates gr_targetCounts gr_targets gr_stepScores gr_letterScores gr_size tx_letters tx_length va_scores va_knownEnds hi_begins hi_lengths hi_scores hi_taken hi_count de_states de_begins de_lengths de_length) sz) := by
  refine xmet_i rfl (Nat.le_of_ble_eq_true rfl) ?_
  intro p e s m below meth c A ls Q hx hb hml hts hown hK hN hA hP hD hS hl hret
  replace hown : s.vm.findClass R_Hi = some m.cls := hown
  have hl : lv_has ls 4 [(0, .ref (ad 24)), (1, .int a1), (2, .int a2)] := hl
  rw [f_Hi_freeEnd] at hf
  obtain ⟨H, eH⟩ : ∃ H : Heap, H = s.heap := ⟨_, rfl⟩
  obtain ⟨locs, eL⟩ : ∃ L : List Loc, L = [] := ⟨_, rfl⟩
  have hP : va_P (dC, dI) classes (wX ty ad co_rows co_marks co_rowSets co_partners co_open co_count tr_kinds tr_lefts tr_rights tr_seconds tr_size gr_kinds gr_nodes gr_rowSets gr_firstStates gr_targetCounts gr_targets gr_stepScores gr_letterScores gr_size tx_letters tx_length va_scores va_knownEnds hi_begins hi_lengths hi_scores hi_taken hi_count de_states de_begins de_lengths de_length) H := by rw [eH]; exact hP
  have hS : va_S A s.heap H locs := by rw [eH, eL]; exact hS
  rw [← eL]
  suffices hgoal : W p l e rm_Hi_freeEnd s m (List.toArray [.ref (ad 24), .int a1, .int a2]) below meth c H locs 0 0 Q (F0 m 0 ls []) by rw [eH] at hgoal; exact hgoal
  clear eH eL
  refine lv_iload_n hx hb d_Hi_freeEnd_0 rfl (lv_at hl 1 rfl) ?_
  refine lv_istore_n (lv' := [(3, .int a1), (0, .ref (ad 24)), (1, .int a1), (2, .int a2)]) hx hb d_Hi_freeEnd_1 rfl hl (by decide) rfl (fun ls hl => ?_)
  have K2_22 : ∀ (x3_2 : Int32) (H : Heap) (locs : List Loc) (ls : Array Slot), va_P (dC, dI) classes (wX ty ad co_rows co_marks co_rowSets co_partners co_open co_count tr_kinds tr_lefts tr_rights tr_seconds tr_size gr_kinds gr_nodes gr_rowSets gr_firstStates gr_targetCounts gr_targets gr_stepScores gr_letterScores gr_size tx_letters tx_length va_scores va_knownEnds hi_begins hi_lengths hi_scores hi_taken hi_count de_states de_begins de_lengths de_length) H → va_D A (wX ty ad co_rows co_marks co_rowSets co_partners co_open co_count tr_kinds tr_lefts tr_rights tr_seconds tr_size gr_kinds gr_nodes gr_rowSets gr_firstStates gr_targetCounts gr_targets gr_stepScores gr_letterScores gr_size tx_letters tx_length va_scores va_knownEnds hi_begins hi_lengths hi_scores hi_taken hi_count de_states de_begins de_lengths de_length) → va_S A s.heap H locs → lv_has ls 4 [(3, .int x3_2)] → f_Hi_freeEnd_K2_22 x3_2 = some (r0) → W p l e rm_Hi_freeEnd s m (List.toArray [.ref (ad 24), .int a1, .int a2]) below meth c H locs 0 0 Q (F0 m 22 ls []) := by
    intro x3_2 H locs ls hP hD hS hl hf
    rw [f_Hi_freeEnd_K2_22] at hf
    refine lv_iload_n hx hb d_Hi_freeEnd_22 rfl (lv_at hl 0 rfl) ?_
    obtain rfl := os1 hf
    exact hret H locs _ _ _ d_Hi_freeEnd_23 rfl hP hS
  have L2 : ∀ (n2 : Nat), ∀ (x3_2 : Int32) (H : Heap) (locs : List Loc) (ls : Array Slot), va_P (dC, dI) classes (wX ty ad co_rows co_marks co_rowSets co_partners co_open co_count tr_kinds tr_lefts tr_rights tr_seconds tr_size gr_kinds gr_nodes gr_rowSets gr_firstStates gr_targetCounts gr_targets gr_stepScores gr_letterScores gr_size tx_letters tx_length va_scores va_knownEnds hi_begins hi_lengths hi_scores hi_taken hi_count de_states de_begins de_lengths de_length) H → va_D A (wX ty ad co_rows co_marks co_rowSets co_partners co_open co_count tr_kinds tr_lefts tr_rights tr_seconds tr_size gr_kinds gr_nodes gr_rowSets gr_firstStates gr_targetCounts gr_targets gr_stepScores gr_letterScores gr_size tx_letters tx_length va_scores va_knownEnds hi_begins hi_lengths hi_scores hi_taken hi_count de_states de_begins de_lengths de_length) → va_S A s.heap H locs → lv_has ls 4 [(0, .ref (ad 24)), (2, .int a2), (3, .int x3_2)] → f_Hi_freeEnd_L2 hi_taken a2 (f_Hi_freeEnd_K2_22) n2 x3_2 = some (r0) → W p l e rm_Hi_freeEnd s m (List.toArray [.ref (ad 24), .int a1, .int a2]) below meth c H locs 0 0 Q (F0 m 2 ls []) := by
    intro n2
    induction n2 with
    | zero =>
      intro x3_2 H locs ls hP hD hS hl hf
      rw [f_Hi_freeEnd_L2] at hf
      cases hf
    | succ n2 ih2 =>
      intro x3_2 H locs ls hP hD hS hl hf
      rw [f_Hi_freeEnd_L2] at hf
      refine lv_iload_n hx hb d_Hi_freeEnd_2 rfl (lv_at hl 2 rfl) ?_
      refine lv_iload_n hx hb d_Hi_freeEnd_3 rfl (lv_at hl 1 rfl) ?_
      refine lv_icmp_ge (tgt := 22) hx hb d_Hi_freeEnd_4 (by decide) (fun c1 => ?_) (fun c1 => ?_)
      · have hf := xif_t c1 hf
        exact K2_22 x3_2 _ _ _ hP hD hS (lv_sub hl [2] rfl) hf
      · have hf := xif_f c1 hf
        refine lv_aload_n hx hb d_Hi_freeEnd_7 rfl (lv_at hl 0 rfl) ?_
        refine va_get (D := (dC, dI)) (ci := 6) (v := .ref (ad 28)) (C := R_Hi) (T := F_Hi) (N := 5) hx hb hts iw_Hi hown hK hP 24 rfl rfl 3 (by decide) (hts _ m_207) (fun _ h9 => h9) rfl d_Hi_freeEnd_8 ?_
        refine lv_iload_n hx hb d_Hi_freeEnd_11 rfl (lv_at hl 2 rfl) ?_
        obtain ⟨hi2, hf⟩ := gdi hf
        refine va_zald hx hb hK hP 28 2 rfl rfl hi2 d_Hi_freeEnd_12 ?_
        refine lv_if_ne (tgt := 22) hx hb d_Hi_freeEnd_13 (by decide) (fun c3 => ?_) (fun c3 => ?_)
        · have hf := xif_f c3 hf
          exact K2_22 x3_2 _ _ _ hP hD hS (lv_sub hl [2] rfl) hf
        · have hf := xif_t c3 hf
          refine lv_iinc (v := (x3_2 + (1 : Int32))) (lv' := [(3, .int (x3_2 + (1 : Int32))), (0, .ref (ad 24)), (2, .int a2)]) hx hb d_Hi_freeEnd_16 hl (k := 2) rfl rfl (by decide) rfl (fun ls hl => ?_)
          refine lv_goto (tgt := 2) hx hb d_Hi_freeEnd_19 (by decide) ?_
          exact ih2 (x3_2 + (1 : Int32)) _ _ _ hP hD hS (lv_sub hl [1, 2, 0] rfl) hf
  exact L2 1000 a1 _ _ _ hP hD hS (lv_sub hl [1, 3, 0] rfl) hf
def f_Hi_note (hi_begins : (Nat → Int32)) (hi_lengths : (Nat → Int32)) (hi_scores : (Nat → Int32)) (hi_count : Int32) (a1 : Int32) (a2 : Int32) (a3 : Int32) : Option ((Nat → Int32) × (Nat → Int32) × (Nat → Int32)) := gd (xin hi_count 24) (gd (xin hi_count 24) (gd (xin hi_count 24) (some ((upd hi_begins (Int32.toNatClampNeg hi_count) a1), (upd hi_lengths (Int32.toNatClampNeg hi_count) a2), (upd hi_scores (Int32.toNatClampNeg hi_count) a3)))))
set_option maxHeartbeats 4000000 in
set_option maxRecDepth 100000 in
theorem c_Hi_note (l : Launch) (dC : Nat → ClassId) (dI : Nat → Nat → Nat) (ty : Nat → ClassId) (ad : Nat → Nat) (ta : Nat → Nat) (sz : Nat) (co_rows : Int32) (co_marks : (Nat → Int32)) (co_rowSets : (Nat → Int32)) (co_partners : (Nat → Int32)) (co_open : (Nat → Int32)) (co_count : Int32) (tr_kinds : (Nat → Int32)) (tr_lefts : (Nat → Int32)) (tr_rights : (Nat → Int32)) (tr_seconds : (Nat → Int32)) (tr_size : Int32) (gr_kinds : (Nat → Int32)) (gr_nodes : (Nat → Int32)) (gr_rowSets : (Nat → Int32)) (gr_firstStates : (Nat → Int32)) (gr_targetCounts : (Nat → Int32)) (gr_targets : (Nat → Int32)) (gr_stepScores : (Nat → Int32)) (gr_letterScores : (Nat → Int32)) (gr_size : Int32) (tx_letters : (Nat → Int32)) (tx_length : Int32) (va_scores : (Nat → Int32)) (va_knownEnds : Int32) (hi_begins : (Nat → Int32)) (hi_lengths : (Nat → Int32)) (hi_scores : (Nat → Int32)) (hi_taken : (Nat → Int32)) (hi_count : Int32) (de_states : (Nat → Int32)) (de_begins : (Nat → Int32)) (de_lengths : (Nat → Int32)) (de_length : Int32) (a1 : Int32) (a2 : Int32) (a3 : Int32) (n_hi_begins : (Nat → Int32)) (n_hi_lengths : (Nat → Int32)) (n_hi_scores : (Nat → Int32)) (hf : f_Hi_note hi_begins hi_lengths hi_scores hi_count a1 a2 a3 = some (n_hi_begins, n_hi_lengths, n_hi_scores)) : Met l y_Hi_note (.code y_Hi_note prog_5_method_11_code 4 none :: gw) rm_Hi_note (xPre ta (dC, dI) classes (tys3 ty) (wX ty ad co_rows co_marks co_rowSets co_partners co_open co_count tr_kinds tr_lefts tr_rights tr_seconds tr_size gr_kinds gr_nodes gr_rowSets gr_firstStates gr_targetCounts gr_targets gr_stepScores gr_letterScores gr_size tx_letters tx_length va_scores va_knownEnds hi_begins hi_lengths hi_scores hi_taken hi_count de_states de_begins de_lengths de_length) sz [.ref (ad 24), .int a1, .int a2, .int a3]) (xQv (dC, dI) classes (wX ty ad co_rows co_marks co_rowSets co_partners co_open co_count tr_kinds tr_lefts tr_rights tr_seconds tr_size gr_kinds gr_nodes gr_rowSets gr_firstStates gr_targetCounts gr_targets gr_stepScores gr_letterScores gr_size tx_letters tx_length va_scores va_knownEnds hi_begins hi_lengths hi_scores hi_taken hi_count de_states de_begins de_lengths de_length) (wX ty ad co_rows co_marks co_rowSets co_partners co_open co_count tr_kinds tr_lefts tr_rights tr_seconds tr_size gr_kinds gr_nodes gr_rowSets gr_firstStates gr_targetCounts gr_targets gr_stepScores gr_letterScores gr_size tx_letters tx_length va_scores va_knownEnds n_hi_begins n_hi_lengths n_hi_scores hi_taken hi_count de_states de_begins de_lengths de_length) sz) 0 0 (va_A (wX ty ad co_rows co_marks co_rowSets co_partners co_open co_count tr_kinds tr_lefts tr_rights tr_seconds tr_size gr_kinds gr_nodes gr_rowSets gr_firstStates gr_targetCounts gr_targets gr_stepScores gr_letterScores gr_size tx_letters tx_length va_scores va_knownEnds hi_begins hi_lengths hi_scores hi_taken hi_count de_states de_begins de_lengths de_length) sz) := by
  refine xmet_v rfl (Nat.le_of_ble_eq_true rfl) ?_
  intro p e s m below meth c A ls Q hx hb hml hts hown hK hN hA hP hD hS hl hret
  replace hown : s.vm.findClass R_Hi = some m.cls := hown
  have hl : lv_has ls 4 [(0, .ref (ad 24)), (1, .int a1), (2, .int a2), (3, .int a3)] := hl
  rw [f_Hi_note] at hf
  obtain ⟨H, eH⟩ : ∃ H : Heap, H = s.heap := ⟨_, rfl⟩
  obtain ⟨locs, eL⟩ : ∃ L : List Loc, L = [] := ⟨_, rfl⟩
  have hP : va_P (dC, dI) classes (wX ty ad co_rows co_marks co_rowSets co_partners co_open co_count tr_kinds tr_lefts tr_rights tr_seconds tr_size gr_kinds gr_nodes gr_rowSets gr_firstStates gr_targetCounts gr_targets gr_stepScores gr_letterScores gr_size tx_letters tx_length va_scores va_knownEnds hi_begins hi_lengths hi_scores hi_taken hi_count de_states de_begins de_lengths de_length) H := by rw [eH]; exact hP
  have hS : va_S A s.heap H locs := by rw [eH, eL]; exact hS
  rw [← eL]
  suffices hgoal : W p l e rm_Hi_note s m (List.toArray [.ref (ad 24), .int a1, .int a2, .int a3]) below meth c H locs 0 0 Q (F0 m 0 ls []) by rw [eH] at hgoal; exact hgoal
  clear eH eL
  refine lv_aload_n hx hb d_Hi_note_0 rfl (lv_at hl 0 rfl) ?_
  refine va_get (D := (dC, dI)) (ci := 6) (v := .ref (ad 25)) (C := R_Hi) (T := F_Hi) (N := 5) hx hb hts iw_Hi hown hK hP 24 rfl rfl 0 (by decide) (hts _ m_204) (fun _ h9 => h9) rfl d_Hi_note_1 ?_
  refine lv_aload_n hx hb d_Hi_note_4 rfl (lv_at hl 0 rfl) ?_
  refine va_get (D := (dC, dI)) (ci := 6) (v := .int hi_count) (C := R_Hi) (T := F_Hi) (N := 5) hx hb hts iw_Hi hown hK hP 24 rfl rfl 4 (by decide) (hts _ m_208) (fun _ h9 => h9) rfl d_Hi_note_5 ?_
  refine lv_iload_n hx hb d_Hi_note_8 rfl (lv_at hl 1 rfl) ?_
  obtain ⟨hi1, hf⟩ := gdi hf
  refine va_iast hx hb hK hP hD hS 25 0 rfl rfl hi1 d_Hi_note_9 (fun H locs hP hD hS => ?_)
  have hP : va_P (dC, dI) classes (wX ty ad co_rows co_marks co_rowSets co_partners co_open co_count tr_kinds tr_lefts tr_rights tr_seconds tr_size gr_kinds gr_nodes gr_rowSets gr_firstStates gr_targetCounts gr_targets gr_stepScores gr_letterScores gr_size tx_letters tx_length va_scores va_knownEnds (upd hi_begins (Int32.toNatClampNeg hi_count) a1) hi_lengths hi_scores hi_taken hi_count de_states de_begins de_lengths de_length) H := hP
  have hD : va_D A (wX ty ad co_rows co_marks co_rowSets co_partners co_open co_count tr_kinds tr_lefts tr_rights tr_seconds tr_size gr_kinds gr_nodes gr_rowSets gr_firstStates gr_targetCounts gr_targets gr_stepScores gr_letterScores gr_size tx_letters tx_length va_scores va_knownEnds (upd hi_begins (Int32.toNatClampNeg hi_count) a1) hi_lengths hi_scores hi_taken hi_count de_states de_begins de_lengths de_length) := hD
  refine lv_aload_n hx hb d_Hi_note_10 rfl (lv_at hl 0 rfl) ?_
  refine va_get (D := (dC, dI)) (ci := 6) (v := .ref (ad 26)) (C := R_Hi) (T := F_Hi) (N := 5) hx hb hts iw_Hi hown hK hP 24 rfl rfl 1 (by decide) (hts _ m_205) (fun _ h9 => h9) rfl d_Hi_note_11 ?_
  refine lv_aload_n hx hb d_Hi_note_14 rfl (lv_at hl 0 rfl) ?_
  refine va_get (D := (dC, dI)) (ci := 6) (v := .int hi_count) (C := R_Hi) (T := F_Hi) (N := 5) hx hb hts iw_Hi hown hK hP 24 rfl rfl 4 (by decide) (hts _ m_208) (fun _ h9 => h9) rfl d_Hi_note_15 ?_
  refine lv_iload_n hx hb d_Hi_note_18 rfl (lv_at hl 2 rfl) ?_
  obtain ⟨hi2, hf⟩ := gdi hf
  refine va_iast hx hb hK hP hD hS 26 0 rfl rfl hi2 d_Hi_note_19 (fun H locs hP hD hS => ?_)
  have hP : va_P (dC, dI) classes (wX ty ad co_rows co_marks co_rowSets co_partners co_open co_count tr_kinds tr_lefts tr_rights tr_seconds tr_size gr_kinds gr_nodes gr_rowSets gr_firstStates gr_targetCounts gr_targets gr_stepScores gr_letterScores gr_size tx_letters tx_length va_scores va_knownEnds (upd hi_begins (Int32.toNatClampNeg hi_count) a1) (upd hi_lengths (Int32.toNatClampNeg hi_count) a2) hi_scores hi_taken hi_count de_states de_begins de_lengths de_length) H := hP
  have hD : va_D A (wX ty ad co_rows co_marks co_rowSets co_partners co_open co_count tr_kinds tr_lefts tr_rights tr_seconds tr_size gr_kinds gr_nodes gr_rowSets gr_firstStates gr_targetCounts gr_targets gr_stepScores gr_letterScores gr_size tx_letters tx_length va_scores va_knownEnds (upd hi_begins (Int32.toNatClampNeg hi_count) a1) (upd hi_lengths (Int32.toNatClampNeg hi_count) a2) hi_scores hi_taken hi_count de_states de_begins de_lengths de_length) := hD
  refine lv_aload_n hx hb d_Hi_note_20 rfl (lv_at hl 0 rfl) ?_
  refine va_get (D := (dC, dI)) (ci := 6) (v := .ref (ad 27)) (C := R_Hi) (T := F_Hi) (N := 5) hx hb hts iw_Hi hown hK hP 24 rfl rfl 2 (by decide) (hts _ m_206) (fun _ h9 => h9) rfl d_Hi_note_21 ?_
  refine lv_aload_n hx hb d_Hi_note_24 rfl (lv_at hl 0 rfl) ?_
  refine va_get (D := (dC, dI)) (ci := 6) (v := .int hi_count) (C := R_Hi) (T := F_Hi) (N := 5) hx hb hts iw_Hi hown hK hP 24 rfl rfl 4 (by decide) (hts _ m_208) (fun _ h9 => h9) rfl d_Hi_note_25 ?_
  refine lv_iload_n hx hb d_Hi_note_28 rfl (lv_at hl 3 rfl) ?_
  obtain ⟨hi3, hf⟩ := gdi hf
  refine va_iast hx hb hK hP hD hS 27 0 rfl rfl hi3 d_Hi_note_29 (fun H locs hP hD hS => ?_)
  have hP : va_P (dC, dI) classes (wX ty ad co_rows co_marks co_rowSets co_partners co_open co_count tr_kinds tr_lefts tr_rights tr_seconds tr_size gr_kinds gr_nodes gr_rowSets gr_firstStates gr_targetCounts gr_targets gr_stepScores gr_letterScores gr_size tx_letters tx_length va_scores va_knownEnds (upd hi_begins (Int32.toNatClampNeg hi_count) a1) (upd hi_lengths (Int32.toNatClampNeg hi_count) a2) (upd hi_scores (Int32.toNatClampNeg hi_count) a3) hi_taken hi_count de_states de_begins de_lengths de_length) H := hP
  have hD : va_D A (wX ty ad co_rows co_marks co_rowSets co_partners co_open co_count tr_kinds tr_lefts tr_rights tr_seconds tr_size gr_kinds gr_nodes gr_rowSets gr_firstStates gr_targetCounts gr_targets gr_stepScores gr_letterScores gr_size tx_letters tx_length va_scores va_knownEnds (upd hi_begins (Int32.toNatClampNeg hi_count) a1) (upd hi_lengths (Int32.toNatClampNeg hi_count) a2) (upd hi_scores (Int32.toNatClampNeg hi_count) a3) hi_taken hi_count de_states de_begins de_lengths de_length) := hD
  obtain ⟨rfl, rfl, rfl⟩ := os3 hf
  exact hret H locs _ _ d_Hi_note_30 hP hS
