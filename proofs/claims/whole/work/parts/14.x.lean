/-! pure functions and contracts of Fa_lettersBefore, Fa_lettersBehind, Fa_lettersOf, Gr_rowsWithLetters, Gr_scoreOfLetters, Gr_scoreLetters, Va_forget, Gr_size, Gr_hasState, Gr_kindOf (written by wip/gen) -/
def f_Fa_lettersBefore (a1 : Int32) : Option (Int32) := if a1 = (1 : Int32) then (some ((1 : Int32))) else (if a1 = (2 : Int32) then (some ((1 : Int32))) else (if a1 = (5 : Int32) then (some ((1 : Int32))) else (some ((0 : Int32)))))
set_option maxHeartbeats 4000000 in
set_option maxRecDepth 100000 in
theorem c_Fa_lettersBefore (l : Launch) (dC : Nat → ClassId) (dI : Nat → Nat → Nat) (ty : Nat → ClassId) (ad : Nat → Nat) (sz : Nat) (co_rows : Int32) (co_marks : (Nat → Int32)) (co_rowSets : (Nat → Int32)) (co_partners : (Nat → Int32)) (co_open : (Nat → Int32)) (co_count : Int32) (tr_kinds : (Nat → Int32)) (tr_lefts : (Nat → Int32)) (tr_rights : (Nat → Int32)) (tr_seconds : (Nat → Int32)) (tr_size : Int32) (gr_kinds : (Nat → Int32)) (gr_nodes : (Nat → Int32)) (gr_rowSets : (Nat → Int32)) (gr_firstStates : (Nat → Int32)) (gr_targetCounts : (Nat → Int32)) (gr_targets : (Nat → Int32)) (gr_stepScores : (Nat → Int32)) (gr_letterScores : (Nat → Int32)) (gr_size : Int32) (tx_letters : (Nat → Int32)) (tx_length : Int32) (va_scores : (Nat → Int32)) (va_knownEnds : Int32) (hi_begins : (Nat → Int32)) (hi_lengths : (Nat → Int32)) (hi_scores : (Nat → Int32)) (hi_taken : (Nat → Int32)) (hi_count : Int32) (de_states : (Nat → Int32)) (de_begins : (Nat → Int32)) (de_lengths : (Nat → Int32)) (de_length : Int32) (a1 : Int32) (r0 : Int32) (hf : f_Fa_lettersBefore a1 = some (r0)) : Met l y_Fa_lettersBefore (.code y_Fa_lettersBefore prog_1_method_20_code 1 (some .int) :: gw) rm_Fa_lettersBefore (xPre (dC, dI) classes (tys3 ty) (wX ty ad co_rows co_marks co_rowSets co_partners co_open co_count tr_kinds tr_lefts tr_rights tr_seconds tr_size gr_kinds gr_nodes gr_rowSets gr_firstStates gr_targetCounts gr_targets gr_stepScores gr_letterScores gr_size tx_letters tx_length va_scores va_knownEnds hi_begins hi_lengths hi_scores hi_taken hi_count de_states de_begins de_lengths de_length) sz [.int a1]) (xQi (dC, dI) classes (wX ty ad co_rows co_marks co_rowSets co_partners co_open co_count tr_kinds tr_lefts tr_rights tr_seconds tr_size gr_kinds gr_nodes gr_rowSets gr_firstStates gr_targetCounts gr_targets gr_stepScores gr_letterScores gr_size tx_letters tx_length va_scores va_knownEnds hi_begins hi_lengths hi_scores hi_taken hi_count de_states de_begins de_lengths de_length) (wX ty ad co_rows co_marks co_rowSets co_partners co_open co_count tr_kinds tr_lefts tr_rights tr_seconds tr_size gr_kinds gr_nodes gr_rowSets gr_firstStates gr_targetCounts gr_targets gr_stepScores gr_letterScores gr_size tx_letters tx_length va_scores va_knownEnds hi_begins hi_lengths hi_scores hi_taken hi_count de_states de_begins de_lengths de_length) sz r0) 0 0 (va_A (wX ty ad co_rows co_marks co_rowSets co_partners co_open co_count tr_kinds tr_lefts tr_rights tr_seconds tr_size gr_kinds gr_nodes gr_rowSets gr_firstStates gr_targetCounts gr_targets gr_stepScores gr_letterScores gr_size tx_letters tx_length va_scores va_knownEnds hi_begins hi_lengths hi_scores hi_taken hi_count de_states de_begins de_lengths de_length) sz) := by
  refine xmet_i rfl (Nat.le_of_ble_eq_true rfl) ?_
  intro p e s m below meth c A ls Q hx hb hml hts hown hK hN hA hP hD hS hl hret
  replace hown : s.vm.findClass R_Fa = some m.cls := hown
  have hl : lv_has ls 1 [(0, .int a1)] := hl
  rw [f_Fa_lettersBefore] at hf
  obtain ⟨H, eH⟩ : ∃ H : Heap, H = s.heap := ⟨_, rfl⟩
  obtain ⟨locs, eL⟩ : ∃ L : List Loc, L = [] := ⟨_, rfl⟩
  have hP : va_P (dC, dI) classes (wX ty ad co_rows co_marks co_rowSets co_partners co_open co_count tr_kinds tr_lefts tr_rights tr_seconds tr_size gr_kinds gr_nodes gr_rowSets gr_firstStates gr_targetCounts gr_targets gr_stepScores gr_letterScores gr_size tx_letters tx_length va_scores va_knownEnds hi_begins hi_lengths hi_scores hi_taken hi_count de_states de_begins de_lengths de_length) H := by rw [eH]; exact hP
  have hS : va_S A s.heap H locs := by rw [eH, eL]; exact hS
  rw [← eL]
  suffices hgoal : W p l e rm_Fa_lettersBefore s m (List.toArray [.int a1]) below meth c H locs 0 0 Q (F0 m 0 ls []) by rw [eH] at hgoal; exact hgoal
  clear eH eL
  refine lv_iload_n hx hb d_Fa_lettersBefore_0 rfl (lv_at hl 0 rfl) ?_
  refine lv_iconst (v := 1) hx hb d_Fa_lettersBefore_1 (by decide) ?_
  refine lv_icmp_eq (tgt := 15) hx hb d_Fa_lettersBefore_2 (by decide) (fun c1 => ?_) (fun c1 => ?_)
  · have hf := xif_t c1 hf
    refine lv_iconst (v := 1) hx hb d_Fa_lettersBefore_15 (by decide) ?_
    refine lv_goto (tgt := 20) hx hb d_Fa_lettersBefore_16 (by decide) ?_
    obtain rfl := os1 hf
    exact hret H locs _ _ _ d_Fa_lettersBefore_20 rfl hP hS
  · have hf := xif_f c1 hf
    refine lv_iload_n hx hb d_Fa_lettersBefore_5 rfl (lv_at hl 0 rfl) ?_
    refine lv_iconst (v := 2) hx hb d_Fa_lettersBefore_6 (by decide) ?_
    refine lv_icmp_eq (tgt := 15) hx hb d_Fa_lettersBefore_7 (by decide) (fun c2 => ?_) (fun c2 => ?_)
    · have hf := xif_t c2 hf
      refine lv_iconst (v := 1) hx hb d_Fa_lettersBefore_15 (by decide) ?_
      refine lv_goto (tgt := 20) hx hb d_Fa_lettersBefore_16 (by decide) ?_
      obtain rfl := os1 hf
      exact hret H locs _ _ _ d_Fa_lettersBefore_20 rfl hP hS
    · have hf := xif_f c2 hf
      refine lv_iload_n hx hb d_Fa_lettersBefore_10 rfl (lv_at hl 0 rfl) ?_
      refine lv_iconst (v := 5) hx hb d_Fa_lettersBefore_11 (by decide) ?_
      refine lv_icmp_ne (tgt := 19) hx hb d_Fa_lettersBefore_12 (by decide) (fun c3 => ?_) (fun c3 => ?_)
      · have hf := xif_f c3 hf
        refine lv_iconst (v := 0) hx hb d_Fa_lettersBefore_19 (by decide) ?_
        obtain rfl := os1 hf
        exact hret H locs _ _ _ d_Fa_lettersBefore_20 rfl hP hS
      · have hf := xif_t c3 hf
        refine lv_iconst (v := 1) hx hb d_Fa_lettersBefore_15 (by decide) ?_
        refine lv_goto (tgt := 20) hx hb d_Fa_lettersBefore_16 (by decide) ?_
        obtain rfl := os1 hf
        exact hret H locs _ _ _ d_Fa_lettersBefore_20 rfl hP hS
def f_Fa_lettersBehind (a1 : Int32) : Option (Int32) := if a1 = (1 : Int32) then (some ((1 : Int32))) else (if a1 = (3 : Int32) then (some ((1 : Int32))) else (if a1 = (6 : Int32) then (some ((1 : Int32))) else (some ((0 : Int32)))))
set_option maxHeartbeats 4000000 in
set_option maxRecDepth 100000 in
theorem c_Fa_lettersBehind (l : Launch) (dC : Nat → ClassId) (dI : Nat → Nat → Nat) (ty : Nat → ClassId) (ad : Nat → Nat) (sz : Nat) (co_rows : Int32) (co_marks : (Nat → Int32)) (co_rowSets : (Nat → Int32)) (co_partners : (Nat → Int32)) (co_open : (Nat → Int32)) (co_count : Int32) (tr_kinds : (Nat → Int32)) (tr_lefts : (Nat → Int32)) (tr_rights : (Nat → Int32)) (tr_seconds : (Nat → Int32)) (tr_size : Int32) (gr_kinds : (Nat → Int32)) (gr_nodes : (Nat → Int32)) (gr_rowSets : (Nat → Int32)) (gr_firstStates : (Nat → Int32)) (gr_targetCounts : (Nat → Int32)) (gr_targets : (Nat → Int32)) (gr_stepScores : (Nat → Int32)) (gr_letterScores : (Nat → Int32)) (gr_size : Int32) (tx_letters : (Nat → Int32)) (tx_length : Int32) (va_scores : (Nat → Int32)) (va_knownEnds : Int32) (hi_begins : (Nat → Int32)) (hi_lengths : (Nat → Int32)) (hi_scores : (Nat → Int32)) (hi_taken : (Nat → Int32)) (hi_count : Int32) (de_states : (Nat → Int32)) (de_begins : (Nat → Int32)) (de_lengths : (Nat → Int32)) (de_length : Int32) (a1 : Int32) (r0 : Int32) (hf : f_Fa_lettersBehind a1 = some (r0)) : Met l y_Fa_lettersBehind (.code y_Fa_lettersBehind prog_1_method_21_code 1 (some .int) :: gw) rm_Fa_lettersBehind (xPre (dC, dI) classes (tys3 ty) (wX ty ad co_rows co_marks co_rowSets co_partners co_open co_count tr_kinds tr_lefts tr_rights tr_seconds tr_size gr_kinds gr_nodes gr_rowSets gr_firstStates gr_targetCounts gr_targets gr_stepScores gr_letterScores gr_size tx_letters tx_length va_scores va_knownEnds hi_begins hi_lengths hi_scores hi_taken hi_count de_states de_begins de_lengths de_length) sz [.int a1]) (xQi (dC, dI) classes (wX ty ad co_rows co_marks co_rowSets co_partners co_open co_count tr_kinds tr_lefts tr_rights tr_seconds tr_size gr_kinds gr_nodes gr_rowSets gr_firstStates gr_targetCounts gr_targets gr_stepScores gr_letterScores gr_size tx_letters tx_length va_scores va_knownEnds hi_begins hi_lengths hi_scores hi_taken hi_count de_states de_begins de_lengths de_length) (wX ty ad co_rows co_marks co_rowSets co_partners co_open co_count tr_kinds tr_lefts tr_rights tr_seconds tr_size gr_kinds gr_nodes gr_rowSets gr_firstStates gr_targetCounts gr_targets gr_stepScores gr_letterScores gr_size tx_letters tx_length va_scores va_knownEnds hi_begins hi_lengths hi_scores hi_taken hi_count de_states de_begins de_lengths de_length) sz r0) 0 0 (va_A (wX ty ad co_rows co_marks co_rowSets co_partners co_open co_count tr_kinds tr_lefts tr_rights tr_seconds tr_size gr_kinds gr_nodes gr_rowSets gr_firstStates gr_targetCounts gr_targets gr_stepScores gr_letterScores gr_size tx_letters tx_length va_scores va_knownEnds hi_begins hi_lengths hi_scores hi_taken hi_count de_states de_begins de_lengths de_length) sz) := by
  refine xmet_i rfl (Nat.le_of_ble_eq_true rfl) ?_
  intro p e s m below meth c A ls Q hx hb hml hts hown hK hN hA hP hD hS hl hret
  replace hown : s.vm.findClass R_Fa = some m.cls := hown
  have hl : lv_has ls 1 [(0, .int a1)] := hl
  rw [f_Fa_lettersBehind] at hf
  obtain ⟨H, eH⟩ : ∃ H : Heap, H = s.heap := ⟨_, rfl⟩
  obtain ⟨locs, eL⟩ : ∃ L : List Loc, L = [] := ⟨_, rfl⟩
  have hP : va_P (dC, dI) classes (wX ty ad co_rows co_marks co_rowSets co_partners co_open co_count tr_kinds tr_lefts tr_rights tr_seconds tr_size gr_kinds gr_nodes gr_rowSets gr_firstStates gr_targetCounts gr_targets gr_stepScores gr_letterScores gr_size tx_letters tx_length va_scores va_knownEnds hi_begins hi_lengths hi_scores hi_taken hi_count de_states de_begins de_lengths de_length) H := by rw [eH]; exact hP
  have hS : va_S A s.heap H locs := by rw [eH, eL]; exact hS
  rw [← eL]
  suffices hgoal : W p l e rm_Fa_lettersBehind s m (List.toArray [.int a1]) below meth c H locs 0 0 Q (F0 m 0 ls []) by rw [eH] at hgoal; exact hgoal
  clear eH eL
  refine lv_iload_n hx hb d_Fa_lettersBehind_0 rfl (lv_at hl 0 rfl) ?_
  refine lv_iconst (v := 1) hx hb d_Fa_lettersBehind_1 (by decide) ?_
  refine lv_icmp_eq (tgt := 16) hx hb d_Fa_lettersBehind_2 (by decide) (fun c1 => ?_) (fun c1 => ?_)
  · have hf := xif_t c1 hf
    refine lv_iconst (v := 1) hx hb d_Fa_lettersBehind_16 (by decide) ?_
    refine lv_goto (tgt := 21) hx hb d_Fa_lettersBehind_17 (by decide) ?_
    obtain rfl := os1 hf
    exact hret H locs _ _ _ d_Fa_lettersBehind_21 rfl hP hS
  · have hf := xif_f c1 hf
    refine lv_iload_n hx hb d_Fa_lettersBehind_5 rfl (lv_at hl 0 rfl) ?_
    refine lv_iconst (v := 3) hx hb d_Fa_lettersBehind_6 (by decide) ?_
    refine lv_icmp_eq (tgt := 16) hx hb d_Fa_lettersBehind_7 (by decide) (fun c2 => ?_) (fun c2 => ?_)
    · have hf := xif_t c2 hf
      refine lv_iconst (v := 1) hx hb d_Fa_lettersBehind_16 (by decide) ?_
      refine lv_goto (tgt := 21) hx hb d_Fa_lettersBehind_17 (by decide) ?_
      obtain rfl := os1 hf
      exact hret H locs _ _ _ d_Fa_lettersBehind_21 rfl hP hS
    · have hf := xif_f c2 hf
      refine lv_iload_n hx hb d_Fa_lettersBehind_10 rfl (lv_at hl 0 rfl) ?_
      refine lv_bipush (v := 6) hx hb d_Fa_lettersBehind_11 (by decide) ?_
      refine lv_icmp_ne (tgt := 20) hx hb d_Fa_lettersBehind_13 (by decide) (fun c3 => ?_) (fun c3 => ?_)
      · have hf := xif_f c3 hf
        refine lv_iconst (v := 0) hx hb d_Fa_lettersBehind_20 (by decide) ?_
        obtain rfl := os1 hf
        exact hret H locs _ _ _ d_Fa_lettersBehind_21 rfl hP hS
      · have hf := xif_t c3 hf
        refine lv_iconst (v := 1) hx hb d_Fa_lettersBehind_16 (by decide) ?_
        refine lv_goto (tgt := 21) hx hb d_Fa_lettersBehind_17 (by decide) ?_
        obtain rfl := os1 hf
        exact hret H locs _ _ _ d_Fa_lettersBehind_21 rfl hP hS
def f_Fa_lettersOf (a1 : Int32) : Option (Int32) := ob1 (f_Fa_lettersBefore a1) (fun r1 => ob1 (f_Fa_lettersBehind a1) (fun r3 => some ((r1 + r3))))
set_option maxHeartbeats 4000000 in
set_option maxRecDepth 100000 in
theorem c_Fa_lettersOf (l : Launch) (dC : Nat → ClassId) (dI : Nat → Nat → Nat) (ty : Nat → ClassId) (ad : Nat → Nat) (sz : Nat) (co_rows : Int32) (co_marks : (Nat → Int32)) (co_rowSets : (Nat → Int32)) (co_partners : (Nat → Int32)) (co_open : (Nat → Int32)) (co_count : Int32) (tr_kinds : (Nat → Int32)) (tr_lefts : (Nat → Int32)) (tr_rights : (Nat → Int32)) (tr_seconds : (Nat → Int32)) (tr_size : Int32) (gr_kinds : (Nat → Int32)) (gr_nodes : (Nat → Int32)) (gr_rowSets : (Nat → Int32)) (gr_firstStates : (Nat → Int32)) (gr_targetCounts : (Nat → Int32)) (gr_targets : (Nat → Int32)) (gr_stepScores : (Nat → Int32)) (gr_letterScores : (Nat → Int32)) (gr_size : Int32) (tx_letters : (Nat → Int32)) (tx_length : Int32) (va_scores : (Nat → Int32)) (va_knownEnds : Int32) (hi_begins : (Nat → Int32)) (hi_lengths : (Nat → Int32)) (hi_scores : (Nat → Int32)) (hi_taken : (Nat → Int32)) (hi_count : Int32) (de_states : (Nat → Int32)) (de_begins : (Nat → Int32)) (de_lengths : (Nat → Int32)) (de_length : Int32) (a1 : Int32) (r0 : Int32) (hf : f_Fa_lettersOf a1 = some (r0)) : Met l y_Fa_lettersOf (.code y_Fa_lettersOf prog_1_method_22_code 1 (some .int) :: gw) rm_Fa_lettersOf (xPre (dC, dI) classes (tys3 ty) (wX ty ad co_rows co_marks co_rowSets co_partners co_open co_count tr_kinds tr_lefts tr_rights tr_seconds tr_size gr_kinds gr_nodes gr_rowSets gr_firstStates gr_targetCounts gr_targets gr_stepScores gr_letterScores gr_size tx_letters tx_length va_scores va_knownEnds hi_begins hi_lengths hi_scores hi_taken hi_count de_states de_begins de_lengths de_length) sz [.int a1]) (xQi (dC, dI) classes (wX ty ad co_rows co_marks co_rowSets co_partners co_open co_count tr_kinds tr_lefts tr_rights tr_seconds tr_size gr_kinds gr_nodes gr_rowSets gr_firstStates gr_targetCounts gr_targets gr_stepScores gr_letterScores gr_size tx_letters tx_length va_scores va_knownEnds hi_begins hi_lengths hi_scores hi_taken hi_count de_states de_begins de_lengths de_length) (wX ty ad co_rows co_marks co_rowSets co_partners co_open co_count tr_kinds tr_lefts tr_rights tr_seconds tr_size gr_kinds gr_nodes gr_rowSets gr_firstStates gr_targetCounts gr_targets gr_stepScores gr_letterScores gr_size tx_letters tx_length va_scores va_knownEnds hi_begins hi_lengths hi_scores hi_taken hi_count de_states de_begins de_lengths de_length) sz r0) 0 0 (va_A (wX ty ad co_rows co_marks co_rowSets co_partners co_open co_count tr_kinds tr_lefts tr_rights tr_seconds tr_size gr_kinds gr_nodes gr_rowSets gr_firstStates gr_targetCounts gr_targets gr_stepScores gr_letterScores gr_size tx_letters tx_length va_scores va_knownEnds hi_begins hi_lengths hi_scores hi_taken hi_count de_states de_begins de_lengths de_length) sz) := by
  refine xmet_i rfl (Nat.le_of_ble_eq_true rfl) ?_
  intro p e s m below meth c A ls Q hx hb hml hts hown hK hN hA hP hD hS hl hret
  replace hown : s.vm.findClass R_Fa = some m.cls := hown
  have hl : lv_has ls 1 [(0, .int a1)] := hl
  rw [f_Fa_lettersOf] at hf
  obtain ⟨H, eH⟩ : ∃ H : Heap, H = s.heap := ⟨_, rfl⟩
  obtain ⟨locs, eL⟩ : ∃ L : List Loc, L = [] := ⟨_, rfl⟩
  have hP : va_P (dC, dI) classes (wX ty ad co_rows co_marks co_rowSets co_partners co_open co_count tr_kinds tr_lefts tr_rights tr_seconds tr_size gr_kinds gr_nodes gr_rowSets gr_firstStates gr_targetCounts gr_targets gr_stepScores gr_letterScores gr_size tx_letters tx_length va_scores va_knownEnds hi_begins hi_lengths hi_scores hi_taken hi_count de_states de_begins de_lengths de_length) H := by rw [eH]; exact hP
  have hS : va_S A s.heap H locs := by rw [eH, eL]; exact hS
  rw [← eL]
  suffices hgoal : W p l e rm_Fa_lettersOf s m (List.toArray [.int a1]) below meth c H locs 0 0 Q (F0 m 0 ls []) by rw [eH] at hgoal; exact hgoal
  clear eH eL
  refine lv_iload_n hx hb d_Fa_lettersOf_0 rfl (lv_at hl 0 rfl) ?_
  obtain ⟨r1, hc2, hf⟩ := ob1_inv hf
  refine xk_i (xrunS (As := [.int a1]) (rest := []) ⟨hx, hb, hml, hown, hts⟩ (c_Fa_lettersBefore l dC dI ty ad H.size co_rows co_marks co_rowSets co_partners co_open co_count tr_kinds tr_lefts tr_rights tr_seconds tr_size gr_kinds gr_nodes gr_rowSets gr_firstStates gr_targetCounts gr_targets gr_stepScores gr_letterScores gr_size tx_letters tx_length va_scores va_knownEnds hi_begins hi_lengths hi_scores hi_taken hi_count de_states de_begins de_lengths de_length a1 r1 hc2) z_Fa_194 ⟨⟨rfl, rfl⟩, by decide, by decide⟩ hK hP hD hN rfl hl.1 rfl (Nat.le_of_ble_eq_true rfl) d_Fa_lettersOf_1 ⟨Nat.zero_le _, Nat.zero_le _⟩) hS hD rfl hA (fun H locs hP hD hS => ?_)
  refine W.eq (g2 := F0 m 4 ls [.int r1]) rfl ?_
  refine lv_iload_n hx hb d_Fa_lettersOf_4 rfl (lv_at hl 0 rfl) ?_
  obtain ⟨r3, hc4, hf⟩ := ob1_inv hf
  refine xk_i (xrunS (As := [.int a1]) (rest := [.int r1]) ⟨hx, hb, hml, hown, hts⟩ (c_Fa_lettersBehind l dC dI ty ad H.size co_rows co_marks co_rowSets co_partners co_open co_count tr_kinds tr_lefts tr_rights tr_seconds tr_size gr_kinds gr_nodes gr_rowSets gr_firstStates gr_targetCounts gr_targets gr_stepScores gr_letterScores gr_size tx_letters tx_length va_scores va_knownEnds hi_begins hi_lengths hi_scores hi_taken hi_count de_states de_begins de_lengths de_length a1 r3 hc4) z_Fa_197 ⟨⟨rfl, rfl⟩, by decide, by decide⟩ hK hP hD hN rfl hl.1 rfl (Nat.le_of_ble_eq_true rfl) d_Fa_lettersOf_5 ⟨Nat.zero_le _, Nat.zero_le _⟩) hS hD rfl hA (fun H locs hP hD hS => ?_)
  refine W.eq (g2 := F0 m 8 ls [.int r3, .int r1]) rfl ?_
  refine lv_iadd hx hb d_Fa_lettersOf_8 ?_
  obtain rfl := os1 hf
  exact hret H locs _ _ _ d_Fa_lettersOf_9 rfl hP hS
def f_Gr_rowsWithLetters (co_rowSets : (Nat → Int32)) (tr_lefts : (Nat → Int32)) (tr_rights : (Nat → Int32)) (gr_kinds : (Nat → Int32)) (gr_nodes : (Nat → Int32)) (a1 : Int32) (a2 : Int32) (a3 : Int32) : Option (Int32) := gd (xin a1 43) (ob1 (f_Tr_left tr_lefts (gr_nodes (Int32.toNatClampNeg a1))) (fun r2 => gd (xin a1 43) (ob1 (f_Tr_right tr_rights (gr_nodes (Int32.toNatClampNeg a1))) (fun r5 => gd (xin a1 43) (if (gr_kinds (Int32.toNatClampNeg a1)) = (1 : Int32) then (ob1 (f_Co_rowsWith co_rowSets r2 a2) (fun r9 => ob1 (f_Co_rowsWith co_rowSets r5 a3) (fun r11 => some ((r9 &&& r11))))) else (if (gr_kinds (Int32.toNatClampNeg a1)) = (2 : Int32) then (ob1 (f_Co_rowsWith co_rowSets r2 a2) (fun r14 => some (r14))) else (ob1 (f_Co_rowsWith co_rowSets r5 a2) (fun r16 => some (r16)))))))))
set_option maxHeartbeats 4000000 in
set_option maxRecDepth 100000 in
theorem c_Gr_rowsWithLetters (l : Launch) (dC : Nat → ClassId) (dI : Nat → Nat → Nat) (ty : Nat → ClassId) (ad : Nat → Nat) (sz : Nat) (co_rows : Int32) (co_marks : (Nat → Int32)) (co_rowSets : (Nat → Int32)) (co_partners : (Nat → Int32)) (co_open : (Nat → Int32)) (co_count : Int32) (tr_kinds : (Nat → Int32)) (tr_lefts : (Nat → Int32)) (tr_rights : (Nat → Int32)) (tr_seconds : (Nat → Int32)) (tr_size : Int32) (gr_kinds : (Nat → Int32)) (gr_nodes : (Nat → Int32)) (gr_rowSets : (Nat → Int32)) (gr_firstStates : (Nat → Int32)) (gr_targetCounts : (Nat → Int32)) (gr_targets : (Nat → Int32)) (gr_stepScores : (Nat → Int32)) (gr_letterScores : (Nat → Int32)) (gr_size : Int32) (tx_letters : (Nat → Int32)) (tx_length : Int32) (va_scores : (Nat → Int32)) (va_knownEnds : Int32) (hi_begins : (Nat → Int32)) (hi_lengths : (Nat → Int32)) (hi_scores : (Nat → Int32)) (hi_taken : (Nat → Int32)) (hi_count : Int32) (de_states : (Nat → Int32)) (de_begins : (Nat → Int32)) (de_lengths : (Nat → Int32)) (de_length : Int32) (a1 : Int32) (a2 : Int32) (a3 : Int32) (r0 : Int32) (hf : f_Gr_rowsWithLetters co_rowSets tr_lefts tr_rights gr_kinds gr_nodes a1 a2 a3 = some (r0)) : Met l y_Gr_rowsWithLetters (.code y_Gr_rowsWithLetters prog_4_method_21_code 6 (some .int) :: gw) rm_Gr_rowsWithLetters (xPre (dC, dI) classes (tys3 ty) (wX ty ad co_rows co_marks co_rowSets co_partners co_open co_count tr_kinds tr_lefts tr_rights tr_seconds tr_size gr_kinds gr_nodes gr_rowSets gr_firstStates gr_targetCounts gr_targets gr_stepScores gr_letterScores gr_size tx_letters tx_length va_scores va_knownEnds hi_begins hi_lengths hi_scores hi_taken hi_count de_states de_begins de_lengths de_length) sz [.ref (ad 11), .int a1, .int a2, .int a3]) (xQi (dC, dI) classes (wX ty ad co_rows co_marks co_rowSets co_partners co_open co_count tr_kinds tr_lefts tr_rights tr_seconds tr_size gr_kinds gr_nodes gr_rowSets gr_firstStates gr_targetCounts gr_targets gr_stepScores gr_letterScores gr_size tx_letters tx_length va_scores va_knownEnds hi_begins hi_lengths hi_scores hi_taken hi_count de_states de_begins de_lengths de_length) (wX ty ad co_rows co_marks co_rowSets co_partners co_open co_count tr_kinds tr_lefts tr_rights tr_seconds tr_size gr_kinds gr_nodes gr_rowSets gr_firstStates gr_targetCounts gr_targets gr_stepScores gr_letterScores gr_size tx_letters tx_length va_scores va_knownEnds hi_begins hi_lengths hi_scores hi_taken hi_count de_states de_begins de_lengths de_length) sz r0) 0 0 (va_A (wX ty ad co_rows co_marks co_rowSets co_partners co_open co_count tr_kinds tr_lefts tr_rights tr_seconds tr_size gr_kinds gr_nodes gr_rowSets gr_firstStates gr_targetCounts gr_targets gr_stepScores gr_letterScores gr_size tx_letters tx_length va_scores va_knownEnds hi_begins hi_lengths hi_scores hi_taken hi_count de_states de_begins de_lengths de_length) sz) := by
  refine xmet_i rfl (Nat.le_of_ble_eq_true rfl) ?_
  intro p e s m below meth c A ls Q hx hb hml hts hown hK hN hA hP hD hS hl hret
  replace hown : s.vm.findClass R_Gr = some m.cls := hown
  have hl : lv_has ls 6 [(0, .ref (ad 11)), (1, .int a1), (2, .int a2), (3, .int a3)] := hl
  rw [f_Gr_rowsWithLetters] at hf
  obtain ⟨H, eH⟩ : ∃ H : Heap, H = s.heap := ⟨_, rfl⟩
  obtain ⟨locs, eL⟩ : ∃ L : List Loc, L = [] := ⟨_, rfl⟩
  have hP : va_P (dC, dI) classes (wX ty ad co_rows co_marks co_rowSets co_partners co_open co_count tr_kinds tr_lefts tr_rights tr_seconds tr_size gr_kinds gr_nodes gr_rowSets gr_firstStates gr_targetCounts gr_targets gr_stepScores gr_letterScores gr_size tx_letters tx_length va_scores va_knownEnds hi_begins hi_lengths hi_scores hi_taken hi_count de_states de_begins de_lengths de_length) H := by rw [eH]; exact hP
  have hS : va_S A s.heap H locs := by rw [eH, eL]; exact hS
  rw [← eL]
  suffices hgoal : W p l e rm_Gr_rowsWithLetters s m (List.toArray [.ref (ad 11), .int a1, .int a2, .int a3]) below meth c H locs 0 0 Q (F0 m 0 ls []) by rw [eH] at hgoal; exact hgoal
  clear eH eL
  refine lv_aload_n hx hb d_Gr_rowsWithLetters_0 rfl (lv_at hl 0 rfl) ?_
  refine va_get (D := (dC, dI)) (ci := 3) (v := .ref (ad 6)) (C := R_Gr) (T := F_Gr) (N := 11) hx hb hts iw_Gr hown hK hP 11 rfl rfl 1 (by decide) (hts _ m_133) (fun _ h9 => h9) rfl d_Gr_rowsWithLetters_1 ?_
  refine lv_aload_n hx hb d_Gr_rowsWithLetters_4 rfl (lv_at hl 0 rfl) ?_
  refine va_get (D := (dC, dI)) (ci := 3) (v := .ref (ad 13)) (C := R_Gr) (T := F_Gr) (N := 11) hx hb hts iw_Gr hown hK hP 11 rfl rfl 3 (by decide) (hts _ m_135) (fun _ h9 => h9) rfl d_Gr_rowsWithLetters_5 ?_
  refine lv_iload_n hx hb d_Gr_rowsWithLetters_8 rfl (lv_at hl 1 rfl) ?_
  obtain ⟨hi1, hf⟩ := gdi hf
  refine va_iald hx hb hK hP 13 0 rfl rfl hi1 d_Gr_rowsWithLetters_9 ?_
  obtain ⟨r2, hc3, hf⟩ := ob1_inv hf
  refine xk_i (xrunV (C := R_Tr) (As := [.int (gr_nodes (Int32.toNatClampNeg a1))]) (rest := []) ⟨hx, hb, hml, hown, hts⟩ (c_Tr_left l dC dI ty ad H.size co_rows co_marks co_rowSets co_partners co_open co_count tr_kinds tr_lefts tr_rights tr_seconds tr_size gr_kinds gr_nodes gr_rowSets gr_firstStates gr_targetCounts gr_targets gr_stepScores gr_letterScores gr_size tx_letters tx_length va_scores va_knownEnds hi_begins hi_lengths hi_scores hi_taken hi_count de_states de_begins de_lengths de_length (gr_nodes (Int32.toNatClampNeg a1)) r2 hc3) z_Gr_87 ⟨⟨rfl, rfl⟩, by decide, by decide⟩ hK hP hD hN (va_recv hK hP (ci := 2) (q0 := 6) rfl rfl) rfl hl.1 rfl (Nat.le_of_ble_eq_true rfl) d_Gr_rowsWithLetters_10 ⟨Nat.zero_le _, Nat.zero_le _⟩) hS hD rfl hA (fun H locs hP hD hS => ?_)
  refine W.eq (g2 := F0 m 13 ls [.int r2]) rfl ?_
  refine lv_istore (lv' := [(4, .int r2), (0, .ref (ad 11)), (1, .int a1), (2, .int a2), (3, .int a3)]) hx hb d_Gr_rowsWithLetters_13 hl (by decide) rfl (fun ls hl => ?_)
  refine lv_aload_n hx hb d_Gr_rowsWithLetters_15 rfl (lv_at hl 1 rfl) ?_
  refine va_get (D := (dC, dI)) (ci := 3) (v := .ref (ad 6)) (C := R_Gr) (T := F_Gr) (N := 11) hx hb hts iw_Gr hown hK hP 11 rfl rfl 1 (by decide) (hts _ m_133) (fun _ h9 => h9) rfl d_Gr_rowsWithLetters_16 ?_
  refine lv_aload_n hx hb d_Gr_rowsWithLetters_19 rfl (lv_at hl 1 rfl) ?_
  refine va_get (D := (dC, dI)) (ci := 3) (v := .ref (ad 13)) (C := R_Gr) (T := F_Gr) (N := 11) hx hb hts iw_Gr hown hK hP 11 rfl rfl 3 (by decide) (hts _ m_135) (fun _ h9 => h9) rfl d_Gr_rowsWithLetters_20 ?_
  refine lv_iload_n hx hb d_Gr_rowsWithLetters_23 rfl (lv_at hl 2 rfl) ?_
  obtain ⟨hi4, hf⟩ := gdi hf
  refine va_iald hx hb hK hP 13 0 rfl rfl hi4 d_Gr_rowsWithLetters_24 ?_
  obtain ⟨r5, hc6, hf⟩ := ob1_inv hf
  refine xk_i (xrunV (C := R_Tr) (As := [.int (gr_nodes (Int32.toNatClampNeg a1))]) (rest := []) ⟨hx, hb, hml, hown, hts⟩ (c_Tr_right l dC dI ty ad H.size co_rows co_marks co_rowSets co_partners co_open co_count tr_kinds tr_lefts tr_rights tr_seconds tr_size gr_kinds gr_nodes gr_rowSets gr_firstStates gr_targetCounts gr_targets gr_stepScores gr_letterScores gr_size tx_letters tx_length va_scores va_knownEnds hi_begins hi_lengths hi_scores hi_taken hi_count de_states de_begins de_lengths de_length (gr_nodes (Int32.toNatClampNeg a1)) r5 hc6) z_Gr_93 ⟨⟨rfl, rfl⟩, by decide, by decide⟩ hK hP hD hN (va_recv hK hP (ci := 2) (q0 := 6) rfl rfl) rfl hl.1 rfl (Nat.le_of_ble_eq_true rfl) d_Gr_rowsWithLetters_25 ⟨Nat.zero_le _, Nat.zero_le _⟩) hS hD rfl hA (fun H locs hP hD hS => ?_)
  refine W.eq (g2 := F0 m 28 ls [.int r5]) rfl ?_
  refine lv_istore (lv' := [(5, .int r5), (4, .int r2), (0, .ref (ad 11)), (1, .int a1), (2, .int a2), (3, .int a3)]) hx hb d_Gr_rowsWithLetters_28 hl (by decide) rfl (fun ls hl => ?_)
  refine lv_aload_n hx hb d_Gr_rowsWithLetters_30 rfl (lv_at hl 2 rfl) ?_
  refine va_get (D := (dC, dI)) (ci := 3) (v := .ref (ad 12)) (C := R_Gr) (T := F_Gr) (N := 11) hx hb hts iw_Gr hown hK hP 11 rfl rfl 2 (by decide) (hts _ m_134) (fun _ h9 => h9) rfl d_Gr_rowsWithLetters_31 ?_
  refine lv_iload_n hx hb d_Gr_rowsWithLetters_34 rfl (lv_at hl 3 rfl) ?_
  obtain ⟨hi7, hf⟩ := gdi hf
  refine va_iald hx hb hK hP 12 0 rfl rfl hi7 d_Gr_rowsWithLetters_35 ?_
  by_cases c8 : (gr_kinds (Int32.toNatClampNeg a1)) = (1 : Int32)
  · have hf := xif_t c8 hf
    refine lv_lookup (off := 28) (tgt := 64) hx hb d_Gr_rowsWithLetters_36 (by decide) (by rw [c8]; decide) (by decide) ?_
    refine lv_aload_n hx hb d_Gr_rowsWithLetters_64 rfl (lv_at hl 2 rfl) ?_
    refine va_get (D := (dC, dI)) (ci := 3) (v := .ref (ad 1)) (C := R_Gr) (T := F_Gr) (N := 11) hx hb hts iw_Gr hown hK hP 11 rfl rfl 0 (by decide) (hts _ m_132) (fun _ h9 => h9) rfl d_Gr_rowsWithLetters_65 ?_
    refine lv_iload hx hb d_Gr_rowsWithLetters_68 (lv_at hl 1 rfl) ?_
    refine lv_iload_n hx hb d_Gr_rowsWithLetters_70 rfl (lv_at hl 4 rfl) ?_
    obtain ⟨r9, hc10, hf⟩ := ob1_inv hf
    refine xk_i (xrunV (C := R_Co) (As := [.int r2, .int a2]) (rest := []) ⟨hx, hb, hml, hown, hts⟩ (c_Co_rowsWith l dC dI ty ad H.size co_rows co_marks co_rowSets co_partners co_open co_count tr_kinds tr_lefts tr_rights tr_seconds tr_size gr_kinds gr_nodes gr_rowSets gr_firstStates gr_targetCounts gr_targets gr_stepScores gr_letterScores gr_size tx_letters tx_length va_scores va_knownEnds hi_begins hi_lengths hi_scores hi_taken hi_count de_states de_begins de_lengths de_length r2 a2 r9 hc10) z_Gr_131 ⟨⟨rfl, rfl⟩, by decide, by decide⟩ hK hP hD hN (va_recv hK hP (ci := 1) (q0 := 1) rfl rfl) rfl hl.1 rfl (Nat.le_of_ble_eq_true rfl) d_Gr_rowsWithLetters_71 ⟨Nat.zero_le _, Nat.zero_le _⟩) hS hD rfl hA (fun H locs hP hD hS => ?_)
    refine W.eq (g2 := F0 m 74 ls [.int r9]) rfl ?_
    refine lv_aload_n hx hb d_Gr_rowsWithLetters_74 rfl (lv_at hl 2 rfl) ?_
    refine va_get (D := (dC, dI)) (ci := 3) (v := .ref (ad 1)) (C := R_Gr) (T := F_Gr) (N := 11) hx hb hts iw_Gr hown hK hP 11 rfl rfl 0 (by decide) (hts _ m_132) (fun _ h9 => h9) rfl d_Gr_rowsWithLetters_75 ?_
    refine lv_iload hx hb d_Gr_rowsWithLetters_78 (lv_at hl 0 rfl) ?_
    refine lv_iload_n hx hb d_Gr_rowsWithLetters_80 rfl (lv_at hl 5 rfl) ?_
    obtain ⟨r11, hc12, hf⟩ := ob1_inv hf
    refine xk_i (xrunV (C := R_Co) (As := [.int r5, .int a3]) (rest := [.int r9]) ⟨hx, hb, hml, hown, hts⟩ (c_Co_rowsWith l dC dI ty ad H.size co_rows co_marks co_rowSets co_partners co_open co_count tr_kinds tr_lefts tr_rights tr_seconds tr_size gr_kinds gr_nodes gr_rowSets gr_firstStates gr_targetCounts gr_targets gr_stepScores gr_letterScores gr_size tx_letters tx_length va_scores va_knownEnds hi_begins hi_lengths hi_scores hi_taken hi_count de_states de_begins de_lengths de_length r5 a3 r11 hc12) z_Gr_131 ⟨⟨rfl, rfl⟩, by decide, by decide⟩ hK hP hD hN (va_recv hK hP (ci := 1) (q0 := 1) rfl rfl) rfl hl.1 rfl (Nat.le_of_ble_eq_true rfl) d_Gr_rowsWithLetters_81 ⟨Nat.zero_le _, Nat.zero_le _⟩) hS hD rfl hA (fun H locs hP hD hS => ?_)
    refine W.eq (g2 := F0 m 84 ls [.int r11, .int r9]) rfl ?_
    refine lv_iand hx hb d_Gr_rowsWithLetters_84 ?_
    obtain rfl := os1 hf
    exact hret H locs _ _ _ d_Gr_rowsWithLetters_85 rfl hP hS
  · have hf := xif_f c8 hf
    by_cases c13 : (gr_kinds (Int32.toNatClampNeg a1)) = (2 : Int32)
    · have hf := xif_t c13 hf
      refine lv_lookup (off := 50) (tgt := 86) hx hb d_Gr_rowsWithLetters_36 (by decide) (by rw [c13]; decide) (by decide) ?_
      refine lv_aload_n hx hb d_Gr_rowsWithLetters_86 rfl (lv_at hl 2 rfl) ?_
      refine va_get (D := (dC, dI)) (ci := 3) (v := .ref (ad 1)) (C := R_Gr) (T := F_Gr) (N := 11) hx hb hts iw_Gr hown hK hP 11 rfl rfl 0 (by decide) (hts _ m_132) (fun _ h9 => h9) rfl d_Gr_rowsWithLetters_87 ?_
      refine lv_iload hx hb d_Gr_rowsWithLetters_90 (lv_at hl 1 rfl) ?_
      refine lv_iload_n hx hb d_Gr_rowsWithLetters_92 rfl (lv_at hl 4 rfl) ?_
      obtain ⟨r14, hc15, hf⟩ := ob1_inv hf
      refine xk_i (xrunV (C := R_Co) (As := [.int r2, .int a2]) (rest := []) ⟨hx, hb, hml, hown, hts⟩ (c_Co_rowsWith l dC dI ty ad H.size co_rows co_marks co_rowSets co_partners co_open co_count tr_kinds tr_lefts tr_rights tr_seconds tr_size gr_kinds gr_nodes gr_rowSets gr_firstStates gr_targetCounts gr_targets gr_stepScores gr_letterScores gr_size tx_letters tx_length va_scores va_knownEnds hi_begins hi_lengths hi_scores hi_taken hi_count de_states de_begins de_lengths de_length r2 a2 r14 hc15) z_Gr_131 ⟨⟨rfl, rfl⟩, by decide, by decide⟩ hK hP hD hN (va_recv hK hP (ci := 1) (q0 := 1) rfl rfl) rfl hl.1 rfl (Nat.le_of_ble_eq_true rfl) d_Gr_rowsWithLetters_93 ⟨Nat.zero_le _, Nat.zero_le _⟩) hS hD rfl hA (fun H locs hP hD hS => ?_)
      refine W.eq (g2 := F0 m 96 ls [.int r14]) rfl ?_
      obtain rfl := os1 hf
      exact hret H locs _ _ _ d_Gr_rowsWithLetters_96 rfl hP hS
    · have hf := xif_f c13 hf
      refine lv_lookup (off := 61) (tgt := 97) hx hb d_Gr_rowsWithLetters_36 (by decide) (by rw [lv_osw (k := (1 : Int32)) (a := 1) c8 rfl]; rw [lv_osw (k := (2 : Int32)) (a := 2) c13 rfl]; rfl) (by decide) ?_
      refine lv_aload_n hx hb d_Gr_rowsWithLetters_97 rfl (lv_at hl 2 rfl) ?_
      refine va_get (D := (dC, dI)) (ci := 3) (v := .ref (ad 1)) (C := R_Gr) (T := F_Gr) (N := 11) hx hb hts iw_Gr hown hK hP 11 rfl rfl 0 (by decide) (hts _ m_132) (fun _ h9 => h9) rfl d_Gr_rowsWithLetters_98 ?_
      refine lv_iload hx hb d_Gr_rowsWithLetters_101 (lv_at hl 0 rfl) ?_
      refine lv_iload_n hx hb d_Gr_rowsWithLetters_103 rfl (lv_at hl 4 rfl) ?_
      obtain ⟨r16, hc17, hf⟩ := ob1_inv hf
      refine xk_i (xrunV (C := R_Co) (As := [.int r5, .int a2]) (rest := []) ⟨hx, hb, hml, hown, hts⟩ (c_Co_rowsWith l dC dI ty ad H.size co_rows co_marks co_rowSets co_partners co_open co_count tr_kinds tr_lefts tr_rights tr_seconds tr_size gr_kinds gr_nodes gr_rowSets gr_firstStates gr_targetCounts gr_targets gr_stepScores gr_letterScores gr_size tx_letters tx_length va_scores va_knownEnds hi_begins hi_lengths hi_scores hi_taken hi_count de_states de_begins de_lengths de_length r5 a2 r16 hc17) z_Gr_131 ⟨⟨rfl, rfl⟩, by decide, by decide⟩ hK hP hD hN (va_recv hK hP (ci := 1) (q0 := 1) rfl rfl) rfl hl.1 rfl (Nat.le_of_ble_eq_true rfl) d_Gr_rowsWithLetters_104 ⟨Nat.zero_le _, Nat.zero_le _⟩) hS hD rfl hA (fun H locs hP hD hS => ?_)
      refine W.eq (g2 := F0 m 107 ls [.int r16]) rfl ?_
      obtain rfl := os1 hf
      exact hret H locs _ _ _ d_Gr_rowsWithLetters_107 rfl hP hS
def f_Gr_scoreOfLetters_J30 (co_rowSets : (Nat → Int32)) (tr_lefts : (Nat → Int32)) (tr_rights : (Nat → Int32)) (gr_kinds : (Nat → Int32)) (gr_nodes : (Nat → Int32)) (gr_rowSets : (Nat → Int32)) (a1 : Int32) (a2 : Int32) (a3 : Int32) (t0_30 : Int32) : Option (Int32) := gd (xin a1 43) (ob1 (f_Gr_rowsWithLetters co_rowSets tr_lefts tr_rights gr_kinds gr_nodes a1 a2 a3) (fun r7 => ob1 (f_Ig_bitCount ((gr_rowSets (Int32.toNatClampNeg a1)) &&& r7)) (fun r9 => gd (xin a1 43) (ob1 (f_Ig_bitCount (gr_rowSets (Int32.toNatClampNeg a1))) (fun r12 => ob1 (f_Fa_log (t0_30 * (r9 + (1 : Int32))) (r12 + t0_30)) (fun r14 => some (r14)))))))
def f_Gr_scoreOfLetters (co_rowSets : (Nat → Int32)) (tr_lefts : (Nat → Int32)) (tr_rights : (Nat → Int32)) (gr_kinds : (Nat → Int32)) (gr_nodes : (Nat → Int32)) (gr_rowSets : (Nat → Int32)) (a1 : Int32) (a2 : Int32) (a3 : Int32) : Option (Int32) := gd (xin a1 43) (ob1 (f_Fa_isInsert (gr_kinds (Int32.toNatClampNeg a1))) (fun r2 => if r2 = (0 : Int32) then (gd (xin a1 43) (if (gr_kinds (Int32.toNatClampNeg a1)) = (1 : Int32) then (f_Gr_scoreOfLetters_J30 co_rowSets tr_lefts tr_rights gr_kinds gr_nodes gr_rowSets a1 a2 a3 (16 : Int32)) else (f_Gr_scoreOfLetters_J30 co_rowSets tr_lefts tr_rights gr_kinds gr_nodes gr_rowSets a1 a2 a3 (4 : Int32)))) else (some ((0 : Int32)))))
set_option maxHeartbeats 4000000 in
set_option maxRecDepth 100000 in
theorem c_Gr_scoreOfLetters (l : Launch) (dC : Nat → ClassId) (dI : Nat → Nat → Nat) (ty : Nat → ClassId) (ad : Nat → Nat) (sz : Nat) (co_rows : Int32) (co_marks : (Nat → Int32)) (co_rowSets : (Nat → Int32)) (co_partners : (Nat → Int32)) (co_open : (Nat → Int32)) (co_count : Int32) (tr_kinds : (Nat → Int32)) (tr_lefts : (Nat → Int32)) (tr_rights : (Nat → Int32)) (tr_seconds : (Nat → Int32)) (tr_size : Int32) (gr_kinds : (Nat → Int32)) (gr_nodes : (Nat → Int32)) (gr_rowSets : (Nat → Int32)) (gr_firstStates : (Nat → Int32)) (gr_targetCounts : (Nat → Int32)) (gr_targets : (Nat → Int32)) (gr_stepScores : (Nat → Int32)) (gr_letterScores : (Nat → Int32)) (gr_size : Int32) (tx_letters : (Nat → Int32)) (tx_length : Int32) (va_scores : (Nat → Int32)) (va_knownEnds : Int32) (hi_begins : (Nat → Int32)) (hi_lengths : (Nat → Int32)) (hi_scores : (Nat → Int32)) (hi_taken : (Nat → Int32)) (hi_count : Int32) (de_states : (Nat → Int32)) (de_begins : (Nat → Int32)) (de_lengths : (Nat → Int32)) (de_length : Int32) (a1 : Int32) (a2 : Int32) (a3 : Int32) (r0 : Int32) (hf : f_Gr_scoreOfLetters co_rowSets tr_lefts tr_rights gr_kinds gr_nodes gr_rowSets a1 a2 a3 = some (r0)) : Met l y_Gr_scoreOfLetters (.code y_Gr_scoreOfLetters prog_4_method_20_code 6 (some .int) :: gw) rm_Gr_scoreOfLetters (xPre (dC, dI) classes (tys3 ty) (wX ty ad co_rows co_marks co_rowSets co_partners co_open co_count tr_kinds tr_lefts tr_rights tr_seconds tr_size gr_kinds gr_nodes gr_rowSets gr_firstStates gr_targetCounts gr_targets gr_stepScores gr_letterScores gr_size tx_letters tx_length va_scores va_knownEnds hi_begins hi_lengths hi_scores hi_taken hi_count de_states de_begins de_lengths de_length) sz [.ref (ad 11), .int a1, .int a2, .int a3]) (xQi (dC, dI) classes (wX ty ad co_rows co_marks co_rowSets co_partners co_open co_count tr_kinds tr_lefts tr_rights tr_seconds tr_size gr_kinds gr_nodes gr_rowSets gr_firstStates gr_targetCounts gr_targets gr_stepScores gr_letterScores gr_size tx_letters tx_length va_scores va_knownEnds hi_begins hi_lengths hi_scores hi_taken hi_count de_states de_begins de_lengths de_length) (wX ty ad co_rows co_marks co_rowSets co_partners co_open co_count tr_kinds tr_lefts tr_rights tr_seconds tr_size gr_kinds gr_nodes gr_rowSets gr_firstStates gr_targetCounts gr_targets gr_stepScores gr_letterScores gr_size tx_letters tx_length va_scores va_knownEnds hi_begins hi_lengths hi_scores hi_taken hi_count de_states de_begins de_lengths de_length) sz r0) 0 0 (va_A (wX ty ad co_rows co_marks co_rowSets co_partners co_open co_count tr_kinds tr_lefts tr_rights tr_seconds tr_size gr_kinds gr_nodes gr_rowSets gr_firstStates gr_targetCounts gr_targets gr_stepScores gr_letterScores gr_size tx_letters tx_length va_scores va_knownEnds hi_begins hi_lengths hi_scores hi_taken hi_count de_states de_begins de_lengths de_length) sz) := by
  refine xmet_i rfl (Nat.le_of_ble_eq_true rfl) ?_
  intro p e s m below meth c A ls Q hx hb hml hts hown hK hN hA hP hD hS hl hret
  replace hown : s.vm.findClass R_Gr = some m.cls := hown
  have hl : lv_has ls 6 [(0, .ref (ad 11)), (1, .int a1), (2, .int a2), (3, .int a3)] := hl
  rw [f_Gr_scoreOfLetters] at hf
  obtain ⟨H, eH⟩ : ∃ H : Heap, H = s.heap := ⟨_, rfl⟩
  obtain ⟨locs, eL⟩ : ∃ L : List Loc, L = [] := ⟨_, rfl⟩
  have hP : va_P (dC, dI) classes (wX ty ad co_rows co_marks co_rowSets co_partners co_open co_count tr_kinds tr_lefts tr_rights tr_seconds tr_size gr_kinds gr_nodes gr_rowSets gr_firstStates gr_targetCounts gr_targets gr_stepScores gr_letterScores gr_size tx_letters tx_length va_scores va_knownEnds hi_begins hi_lengths hi_scores hi_taken hi_count de_states de_begins de_lengths de_length) H := by rw [eH]; exact hP
  have hS : va_S A s.heap H locs := by rw [eH, eL]; exact hS
  rw [← eL]
  suffices hgoal : W p l e rm_Gr_scoreOfLetters s m (List.toArray [.ref (ad 11), .int a1, .int a2, .int a3]) below meth c H locs 0 0 Q (F0 m 0 ls []) by rw [eH] at hgoal; exact hgoal
  clear eH eL
  refine lv_aload_n hx hb d_Gr_scoreOfLetters_0 rfl (lv_at hl 0 rfl) ?_
  refine va_get (D := (dC, dI)) (ci := 3) (v := .ref (ad 12)) (C := R_Gr) (T := F_Gr) (N := 11) hx hb hts iw_Gr hown hK hP 11 rfl rfl 2 (by decide) (hts _ m_134) (fun _ h9 => h9) rfl d_Gr_scoreOfLetters_1 ?_
  refine lv_iload_n hx hb d_Gr_scoreOfLetters_4 rfl (lv_at hl 1 rfl) ?_
  obtain ⟨hi1, hf⟩ := gdi hf
  refine va_iald hx hb hK hP 12 0 rfl rfl hi1 d_Gr_scoreOfLetters_5 ?_
  obtain ⟨r2, hc3, hf⟩ := ob1_inv hf
  refine xk_i (xrunSN (As := [.int (gr_kinds (Int32.toNatClampNeg a1))]) (rest := []) ⟨hx, hb, hml, hown, hts⟩ (c_Fa_isInsert l dC dI ty ad H.size co_rows co_marks co_rowSets co_partners co_open co_count tr_kinds tr_lefts tr_rights tr_seconds tr_size gr_kinds gr_nodes gr_rowSets gr_firstStates gr_targetCounts gr_targets gr_stepScores gr_letterScores gr_size tx_letters tx_length va_scores va_knownEnds hi_begins hi_lengths hi_scores hi_taken hi_count de_states de_begins de_lengths de_length (gr_kinds (Int32.toNatClampNeg a1)) r2 hc3) z_Gr_107 ⟨⟨rfl, rfl⟩, by decide, by decide⟩ hK hP hD hN rfl hl.1 rfl (Nat.le_of_ble_eq_true rfl) d_Gr_scoreOfLetters_6 ⟨Nat.zero_le _, Nat.zero_le _⟩) hS hD rfl hA (fun H locs hP hD hS => ?_)
  refine W.eq (g2 := F0 m 9 ls [.int r2]) rfl ?_
  refine lv_if_eq (tgt := 14) hx hb d_Gr_scoreOfLetters_9 (by decide) (fun c4 => ?_) (fun c4 => ?_)
  · have hf := xif_t c4 hf
    refine lv_aload_n hx hb d_Gr_scoreOfLetters_14 rfl (lv_at hl 0 rfl) ?_
    refine va_get (D := (dC, dI)) (ci := 3) (v := .ref (ad 12)) (C := R_Gr) (T := F_Gr) (N := 11) hx hb hts iw_Gr hown hK hP 11 rfl rfl 2 (by decide) (hts _ m_134) (fun _ h9 => h9) rfl d_Gr_scoreOfLetters_15 ?_
    refine lv_iload_n hx hb d_Gr_scoreOfLetters_18 rfl (lv_at hl 1 rfl) ?_
    obtain ⟨hi5, hf⟩ := gdi hf
    refine va_iald hx hb hK hP 12 0 rfl rfl hi5 d_Gr_scoreOfLetters_19 ?_
    refine lv_iconst (v := 1) hx hb d_Gr_scoreOfLetters_20 (by decide) ?_
    have J30 : ∀ (t0_30 : Int32) (H : Heap) (locs : List Loc) (ls : Array Slot), va_P (dC, dI) classes (wX ty ad co_rows co_marks co_rowSets co_partners co_open co_count tr_kinds tr_lefts tr_rights tr_seconds tr_size gr_kinds gr_nodes gr_rowSets gr_firstStates gr_targetCounts gr_targets gr_stepScores gr_letterScores gr_size tx_letters tx_length va_scores va_knownEnds hi_begins hi_lengths hi_scores hi_taken hi_count de_states de_begins de_lengths de_length) H → va_D A (wX ty ad co_rows co_marks co_rowSets co_partners co_open co_count tr_kinds tr_lefts tr_rights tr_seconds tr_size gr_kinds gr_nodes gr_rowSets gr_firstStates gr_targetCounts gr_targets gr_stepScores gr_letterScores gr_size tx_letters tx_length va_scores va_knownEnds hi_begins hi_lengths hi_scores hi_taken hi_count de_states de_begins de_lengths de_length) → va_S A s.heap H locs → lv_has ls 6 [(0, .ref (ad 11)), (1, .int a1), (2, .int a2), (3, .int a3)] → f_Gr_scoreOfLetters_J30 co_rowSets tr_lefts tr_rights gr_kinds gr_nodes gr_rowSets a1 a2 a3 t0_30 = some (r0) → W p l e rm_Gr_scoreOfLetters s m (List.toArray [.ref (ad 11), .int a1, .int a2, .int a3]) below meth c H locs 0 0 Q (F0 m 30 ls [.int t0_30]) := by
      intro t0_30 H locs ls hP hD hS hl hf
      rw [f_Gr_scoreOfLetters_J30] at hf
      refine lv_istore (lv' := [(4, .int t0_30), (0, .ref (ad 11)), (1, .int a1), (2, .int a2), (3, .int a3)]) hx hb d_Gr_scoreOfLetters_30 hl (by decide) rfl (fun ls hl => ?_)
      refine lv_aload_n hx hb d_Gr_scoreOfLetters_32 rfl (lv_at hl 1 rfl) ?_
      refine va_get (D := (dC, dI)) (ci := 3) (v := .ref (ad 14)) (C := R_Gr) (T := F_Gr) (N := 11) hx hb hts iw_Gr hown hK hP 11 rfl rfl 4 (by decide) (hts _ m_136) (fun _ h9 => h9) rfl d_Gr_scoreOfLetters_33 ?_
      refine lv_iload_n hx hb d_Gr_scoreOfLetters_36 rfl (lv_at hl 2 rfl) ?_
      obtain ⟨hi6, hf⟩ := gdi hf
      refine va_iald hx hb hK hP 14 0 rfl rfl hi6 d_Gr_scoreOfLetters_37 ?_
      refine lv_aload_n hx hb d_Gr_scoreOfLetters_38 rfl (lv_at hl 1 rfl) ?_
      refine lv_iload_n hx hb d_Gr_scoreOfLetters_39 rfl (lv_at hl 2 rfl) ?_
      refine lv_iload_n hx hb d_Gr_scoreOfLetters_40 rfl (lv_at hl 3 rfl) ?_
      refine lv_iload_n hx hb d_Gr_scoreOfLetters_41 rfl (lv_at hl 4 rfl) ?_
      obtain ⟨r7, hc8, hf⟩ := ob1_inv hf
      refine xk_i (xrunV (C := R_Gr) (As := [.int a1, .int a2, .int a3]) (rest := [.int (gr_rowSets (Int32.toNatClampNeg a1))]) ⟨hx, hb, hml, hown, hts⟩ (c_Gr_rowsWithLetters l dC dI ty ad H.size co_rows co_marks co_rowSets co_partners co_open co_count tr_kinds tr_lefts tr_rights tr_seconds tr_size gr_kinds gr_nodes gr_rowSets gr_firstStates gr_targetCounts gr_targets gr_stepScores gr_letterScores gr_size tx_letters tx_length va_scores va_knownEnds hi_begins hi_lengths hi_scores hi_taken hi_count de_states de_begins de_lengths de_length a1 a2 a3 r7 hc8) z_Gr_128 ⟨⟨rfl, rfl⟩, by decide, by decide⟩ hK hP hD hN (va_recv hK hP (ci := 3) (q0 := 11) rfl rfl) rfl hl.1 rfl (Nat.le_of_ble_eq_true rfl) d_Gr_scoreOfLetters_42 ⟨Nat.zero_le _, Nat.zero_le _⟩) hS hD rfl hA (fun H locs hP hD hS => ?_)
      refine W.eq (g2 := F0 m 45 ls [.int r7, .int (gr_rowSets (Int32.toNatClampNeg a1))]) rfl ?_
      refine lv_iand hx hb d_Gr_scoreOfLetters_45 ?_
      obtain ⟨r9, hc10, hf⟩ := ob1_inv hf
      refine xk_i (xrunS (As := [.int ((gr_rowSets (Int32.toNatClampNeg a1)) &&& r7)]) (rest := []) ⟨hx, hb, hml, hown, hts⟩ (c_Ig_bitCount l dC dI ty ad H.size co_rows co_marks co_rowSets co_partners co_open co_count tr_kinds tr_lefts tr_rights tr_seconds tr_size gr_kinds gr_nodes gr_rowSets gr_firstStates gr_targetCounts gr_targets gr_stepScores gr_letterScores gr_size tx_letters tx_length va_scores va_knownEnds hi_begins hi_lengths hi_scores hi_taken hi_count de_states de_begins de_lengths de_length ((gr_rowSets (Int32.toNatClampNeg a1)) &&& r7) r9 hc10) z_Gr_110 ⟨⟨rfl, rfl⟩, by decide, by decide⟩ hK hP hD hN rfl hl.1 rfl (Nat.le_of_ble_eq_true rfl) d_Gr_scoreOfLetters_46 ⟨Nat.zero_le _, Nat.zero_le _⟩) hS hD rfl hA (fun H locs hP hD hS => ?_)
      refine W.eq (g2 := F0 m 49 ls [.int r9]) rfl ?_
      refine lv_istore (lv' := [(5, .int r9), (4, .int t0_30), (0, .ref (ad 11)), (1, .int a1), (2, .int a2), (3, .int a3)]) hx hb d_Gr_scoreOfLetters_49 hl (by decide) rfl (fun ls hl => ?_)
      refine lv_iload hx hb d_Gr_scoreOfLetters_51 (lv_at hl 1 rfl) ?_
      refine lv_iload hx hb d_Gr_scoreOfLetters_53 (lv_at hl 0 rfl) ?_
      refine lv_iconst (v := 1) hx hb d_Gr_scoreOfLetters_55 (by decide) ?_
      refine lv_iadd hx hb d_Gr_scoreOfLetters_56 ?_
      refine lv_imul hx hb d_Gr_scoreOfLetters_57 ?_
      refine lv_aload_n hx hb d_Gr_scoreOfLetters_58 rfl (lv_at hl 2 rfl) ?_
      refine va_get (D := (dC, dI)) (ci := 3) (v := .ref (ad 14)) (C := R_Gr) (T := F_Gr) (N := 11) hx hb hts iw_Gr hown hK hP 11 rfl rfl 4 (by decide) (hts _ m_136) (fun _ h9 => h9) rfl d_Gr_scoreOfLetters_59 ?_
      refine lv_iload_n hx hb d_Gr_scoreOfLetters_62 rfl (lv_at hl 3 rfl) ?_
      obtain ⟨hi11, hf⟩ := gdi hf
      refine va_iald hx hb hK hP 14 0 rfl rfl hi11 d_Gr_scoreOfLetters_63 ?_
      obtain ⟨r12, hc13, hf⟩ := ob1_inv hf
      refine xk_i (xrunS (As := [.int (gr_rowSets (Int32.toNatClampNeg a1))]) (rest := [.int (t0_30 * (r9 + (1 : Int32)))]) ⟨hx, hb, hml, hown, hts⟩ (c_Ig_bitCount l dC dI ty ad H.size co_rows co_marks co_rowSets co_partners co_open co_count tr_kinds tr_lefts tr_rights tr_seconds tr_size gr_kinds gr_nodes gr_rowSets gr_firstStates gr_targetCounts gr_targets gr_stepScores gr_letterScores gr_size tx_letters tx_length va_scores va_knownEnds hi_begins hi_lengths hi_scores hi_taken hi_count de_states de_begins de_lengths de_length (gr_rowSets (Int32.toNatClampNeg a1)) r12 hc13) z_Gr_110 ⟨⟨rfl, rfl⟩, by decide, by decide⟩ hK hP hD hN rfl hl.1 rfl (Nat.le_of_ble_eq_true rfl) d_Gr_scoreOfLetters_64 ⟨Nat.zero_le _, Nat.zero_le _⟩) hS hD rfl hA (fun H locs hP hD hS => ?_)
      refine W.eq (g2 := F0 m 67 ls [.int r12, .int (t0_30 * (r9 + (1 : Int32)))]) rfl ?_
      refine lv_iload hx hb d_Gr_scoreOfLetters_67 (lv_at hl 1 rfl) ?_
      refine lv_iadd hx hb d_Gr_scoreOfLetters_69 ?_
      obtain ⟨r14, hc15, hf⟩ := ob1_inv hf
      refine xk_i (xrunSN (As := [.int (t0_30 * (r9 + (1 : Int32))), .int (r12 + t0_30)]) (rest := []) ⟨hx, hb, hml, hown, hts⟩ (c_Fa_log l dC dI ty ad H.size co_rows co_marks co_rowSets co_partners co_open co_count tr_kinds tr_lefts tr_rights tr_seconds tr_size gr_kinds gr_nodes gr_rowSets gr_firstStates gr_targetCounts gr_targets gr_stepScores gr_letterScores gr_size tx_letters tx_length va_scores va_knownEnds hi_begins hi_lengths hi_scores hi_taken hi_count de_states de_begins de_lengths de_length (t0_30 * (r9 + (1 : Int32))) (r12 + t0_30) r14 hc15) z_Gr_118 ⟨⟨rfl, rfl⟩, by decide, by decide⟩ hK hP hD hN rfl hl.1 rfl (Nat.le_of_ble_eq_true rfl) d_Gr_scoreOfLetters_70 ⟨Nat.zero_le _, Nat.zero_le _⟩) hS hD rfl hA (fun H locs hP hD hS => ?_)
      refine W.eq (g2 := F0 m 73 ls [.int r14]) rfl ?_
      obtain rfl := os1 hf
      exact hret H locs _ _ _ d_Gr_scoreOfLetters_73 rfl hP hS
    refine lv_icmp_ne (tgt := 29) hx hb d_Gr_scoreOfLetters_21 (by decide) (fun c16 => ?_) (fun c16 => ?_)
    · have hf := xif_f c16 hf
      refine lv_iconst (v := 4) hx hb d_Gr_scoreOfLetters_29 (by decide) ?_
      exact J30 (4 : Int32) _ _ _ hP hD hS (lv_sub hl [0, 1, 2, 3] rfl) hf
    · have hf := xif_t c16 hf
      refine lv_bipush (v := 16) hx hb d_Gr_scoreOfLetters_24 (by decide) ?_
      refine lv_goto (tgt := 30) hx hb d_Gr_scoreOfLetters_26 (by decide) ?_
      exact J30 (16 : Int32) _ _ _ hP hD hS (lv_sub hl [0, 1, 2, 3] rfl) hf
  · have hf := xif_f c4 hf
    refine lv_iconst (v := 0) hx hb d_Gr_scoreOfLetters_12 (by decide) ?_
    obtain rfl := os1 hf
    exact hret H locs _ _ _ d_Gr_scoreOfLetters_13 rfl hP hS
def f_Gr_scoreLetters_K39_75 (x3_31 : Int32) (rec31 : (Int32 → (Nat → Int32) → Option ((Nat → Int32)))) (x4_39 : Int32) (gr_letterScores_39 : (Nat → Int32)) : Option ((Nat → Int32)) := rec31 (x3_31 + (1 : Int32)) gr_letterScores_39
def f_Gr_scoreLetters_L39 (co_rowSets : (Nat → Int32)) (tr_lefts : (Nat → Int32)) (tr_rights : (Nat → Int32)) (gr_kinds : (Nat → Int32)) (gr_nodes : (Nat → Int32)) (gr_rowSets : (Nat → Int32)) (a1 : Int32) (t0_28 : Int32) (x3_31 : Int32) (k39_75 : (Int32 → (Nat → Int32) → Option ((Nat → Int32)))) : Nat → Int32 → (Nat → Int32) → Option ((Nat → Int32))
  | 0, _, _ => none
  | n39 + 1, x4_39, gr_letterScores_39 => if t0_28 < x4_39 then (k39_75 x4_39 gr_letterScores_39) else (ob1 (f_Gr_scoreOfLetters co_rowSets tr_lefts tr_rights gr_kinds gr_nodes gr_rowSets a1 x3_31 x4_39) (fun r8 => gd (xin (((a1 * (16 : Int32)) + (x3_31 * (4 : Int32))) + x4_39) 688) ((f_Gr_scoreLetters_L39 co_rowSets tr_lefts tr_rights gr_kinds gr_nodes gr_rowSets a1 t0_28 x3_31 k39_75 n39) (x4_39 + (1 : Int32)) (upd gr_letterScores_39 (Int32.toNatClampNeg (((a1 * (16 : Int32)) + (x3_31 * (4 : Int32))) + x4_39)) r8))))
def f_Gr_scoreLetters_K31_81  (x3_31 : Int32) (gr_letterScores_31 : (Nat → Int32)) : Option ((Nat → Int32)) := some (gr_letterScores_31)
def f_Gr_scoreLetters_L31 (co_rowSets : (Nat → Int32)) (tr_lefts : (Nat → Int32)) (tr_rights : (Nat → Int32)) (gr_kinds : (Nat → Int32)) (gr_nodes : (Nat → Int32)) (gr_rowSets : (Nat → Int32)) (a1 : Int32) (t0_28 : Int32) (k31_81 : (Int32 → (Nat → Int32) → Option ((Nat → Int32)))) : Nat → Int32 → (Nat → Int32) → Option ((Nat → Int32))
  | 0, _, _ => none
  | n31 + 1, x3_31, gr_letterScores_31 => if (4 : Int32) ≤ x3_31 then (k31_81 x3_31 gr_letterScores_31) else (f_Gr_scoreLetters_L39 co_rowSets tr_lefts tr_rights gr_kinds gr_nodes gr_rowSets a1 t0_28 x3_31 (f_Gr_scoreLetters_K39_75 x3_31 (f_Gr_scoreLetters_L31 co_rowSets tr_lefts tr_rights gr_kinds gr_nodes gr_rowSets a1 t0_28 k31_81 n31)) 1000 (0 : Int32) gr_letterScores_31)
def f_Gr_scoreLetters_J28 (co_rowSets : (Nat → Int32)) (tr_lefts : (Nat → Int32)) (tr_rights : (Nat → Int32)) (gr_kinds : (Nat → Int32)) (gr_nodes : (Nat → Int32)) (gr_rowSets : (Nat → Int32)) (gr_letterScores : (Nat → Int32)) (a1 : Int32) (t0_28 : Int32) : Option ((Nat → Int32)) := f_Gr_scoreLetters_L31 co_rowSets tr_lefts tr_rights gr_kinds gr_nodes gr_rowSets a1 t0_28 (f_Gr_scoreLetters_K31_81) 1000 (0 : Int32) gr_letterScores
def f_Gr_scoreLetters (co_rowSets : (Nat → Int32)) (tr_lefts : (Nat → Int32)) (tr_rights : (Nat → Int32)) (gr_kinds : (Nat → Int32)) (gr_nodes : (Nat → Int32)) (gr_rowSets : (Nat → Int32)) (gr_letterScores : (Nat → Int32)) (a1 : Int32) : Option ((Nat → Int32)) := gd (xin a1 43) (ob1 (f_Fa_lettersOf (gr_kinds (Int32.toNatClampNeg a1))) (fun r2 => if r2 = (0 : Int32) then (some (gr_letterScores)) else (gd (xin a1 43) (if (gr_kinds (Int32.toNatClampNeg a1)) = (1 : Int32) then (f_Gr_scoreLetters_J28 co_rowSets tr_lefts tr_rights gr_kinds gr_nodes gr_rowSets gr_letterScores a1 (3 : Int32)) else (f_Gr_scoreLetters_J28 co_rowSets tr_lefts tr_rights gr_kinds gr_nodes gr_rowSets gr_letterScores a1 (0 : Int32))))))
set_option maxHeartbeats 4000000 in
set_option maxRecDepth 100000 in
theorem c_Gr_scoreLetters (l : Launch) (dC : Nat → ClassId) (dI : Nat → Nat → Nat) (ty : Nat → ClassId) (ad : Nat → Nat) (sz : Nat) (co_rows : Int32) (co_marks : (Nat → Int32)) (co_rowSets : (Nat → Int32)) (co_partners : (Nat → Int32)) (co_open : (Nat → Int32)) (co_count : Int32) (tr_kinds : (Nat → Int32)) (tr_lefts : (Nat → Int32)) (tr_rights : (Nat → Int32)) (tr_seconds : (Nat → Int32)) (tr_size : Int32) (gr_kinds : (Nat → Int32)) (gr_nodes : (Nat → Int32)) (gr_rowSets : (Nat → Int32)) (gr_firstStates : (Nat → Int32)) (gr_targetCounts : (Nat → Int32)) (gr_targets : (Nat → Int32)) (gr_stepScores : (Nat → Int32)) (gr_letterScores : (Nat → Int32)) (gr_size : Int32) (tx_letters : (Nat → Int32)) (tx_length : Int32) (va_scores : (Nat → Int32)) (va_knownEnds : Int32) (hi_begins : (Nat → Int32)) (hi_lengths : (Nat → Int32)) (hi_scores : (Nat → Int32)) (hi_taken : (Nat → Int32)) (hi_count : Int32) (de_states : (Nat → Int32)) (de_begins : (Nat → Int32)) (de_lengths : (Nat → Int32)) (de_length : Int32) (a1 : Int32) (n_gr_letterScores : (Nat → Int32)) (hf : f_Gr_scoreLetters co_rowSets tr_lefts tr_rights gr_kinds gr_nodes gr_rowSets gr_letterScores a1 = some (n_gr_letterScores)) : Met l y_Gr_scoreLetters (.code y_Gr_scoreLetters prog_4_method_19_code 5 none :: gw) rm_Gr_scoreLetters (xPre (dC, dI) classes (tys3 ty) (wX ty ad co_rows co_marks co_rowSets co_partners co_open co_count tr_kinds tr_lefts tr_rights tr_seconds tr_size gr_kinds gr_nodes gr_rowSets gr_firstStates gr_targetCounts gr_targets gr_stepScores gr_letterScores gr_size tx_letters tx_length va_scores va_knownEnds hi_begins hi_lengths hi_scores hi_taken hi_count de_states de_begins de_lengths de_length) sz [.ref (ad 11), .int a1]) (xQv (dC, dI) classes (wX ty ad co_rows co_marks co_rowSets co_partners co_open co_count tr_kinds tr_lefts tr_rights tr_seconds tr_size gr_kinds gr_nodes gr_rowSets gr_firstStates gr_targetCounts gr_targets gr_stepScores gr_letterScores gr_size tx_letters tx_length va_scores va_knownEnds hi_begins hi_lengths hi_scores hi_taken hi_count de_states de_begins de_lengths de_length) (wX ty ad co_rows co_marks co_rowSets co_partners co_open co_count tr_kinds tr_lefts tr_rights tr_seconds tr_size gr_kinds gr_nodes gr_rowSets gr_firstStates gr_targetCounts gr_targets gr_stepScores n_gr_letterScores gr_size tx_letters tx_length va_scores va_knownEnds hi_begins hi_lengths hi_scores hi_taken hi_count de_states de_begins de_lengths de_length) sz) 0 0 (va_A (wX ty ad co_rows co_marks co_rowSets co_partners co_open co_count tr_kinds tr_lefts tr_rights tr_seconds tr_size gr_kinds gr_nodes gr_rowSets gr_firstStates gr_targetCounts gr_targets gr_stepScores gr_letterScores gr_size tx_letters tx_length va_scores va_knownEnds hi_begins hi_lengths hi_scores hi_taken hi_count de_states de_begins de_lengths de_length) sz) := by
  refine xmet_v rfl (Nat.le_of_ble_eq_true rfl) ?_
  intro p e s m below meth c A ls Q hx hb hml hts hown hK hN hA hP hD hS hl hret
  replace hown : s.vm.findClass R_Gr = some m.cls := hown
  have hl : lv_has ls 5 [(0, .ref (ad 11)), (1, .int a1)] := hl
  rw [f_Gr_scoreLetters] at hf
  obtain ⟨H, eH⟩ : ∃ H : Heap, H = s.heap := ⟨_, rfl⟩
  obtain ⟨locs, eL⟩ : ∃ L : List Loc, L = [] := ⟨_, rfl⟩
  have hP : va_P (dC, dI) classes (wX ty ad co_rows co_marks co_rowSets co_partners co_open co_count tr_kinds tr_lefts tr_rights tr_seconds tr_size gr_kinds gr_nodes gr_rowSets gr_firstStates gr_targetCounts gr_targets gr_stepScores gr_letterScores gr_size tx_letters tx_length va_scores va_knownEnds hi_begins hi_lengths hi_scores hi_taken hi_count de_states de_begins de_lengths de_length) H := by rw [eH]; exact hP
  have hS : va_S A s.heap H locs := by rw [eH, eL]; exact hS
  rw [← eL]
  suffices hgoal : W p l e rm_Gr_scoreLetters s m (List.toArray [.ref (ad 11), .int a1]) below meth c H locs 0 0 Q (F0 m 0 ls []) by rw [eH] at hgoal; exact hgoal
  clear eH eL
  refine lv_aload_n hx hb d_Gr_scoreLetters_0 rfl (lv_at hl 0 rfl) ?_
  refine va_get (D := (dC, dI)) (ci := 3) (v := .ref (ad 12)) (C := R_Gr) (T := F_Gr) (N := 11) hx hb hts iw_Gr hown hK hP 11 rfl rfl 2 (by decide) (hts _ m_134) (fun _ h9 => h9) rfl d_Gr_scoreLetters_1 ?_
  refine lv_iload_n hx hb d_Gr_scoreLetters_4 rfl (lv_at hl 1 rfl) ?_
  obtain ⟨hi1, hf⟩ := gdi hf
  refine va_iald hx hb hK hP 12 0 rfl rfl hi1 d_Gr_scoreLetters_5 ?_
  obtain ⟨r2, hc3, hf⟩ := ob1_inv hf
  refine xk_i (xrunSN (As := [.int (gr_kinds (Int32.toNatClampNeg a1))]) (rest := []) ⟨hx, hb, hml, hown, hts⟩ (c_Fa_lettersOf l dC dI ty ad H.size co_rows co_marks co_rowSets co_partners co_open co_count tr_kinds tr_lefts tr_rights tr_seconds tr_size gr_kinds gr_nodes gr_rowSets gr_firstStates gr_targetCounts gr_targets gr_stepScores gr_letterScores gr_size tx_letters tx_length va_scores va_knownEnds hi_begins hi_lengths hi_scores hi_taken hi_count de_states de_begins de_lengths de_length (gr_kinds (Int32.toNatClampNeg a1)) r2 hc3) z_Gr_121 ⟨⟨rfl, rfl⟩, by decide, by decide⟩ hK hP hD hN rfl hl.1 rfl (Nat.le_of_ble_eq_true rfl) d_Gr_scoreLetters_6 ⟨Nat.zero_le _, Nat.zero_le _⟩) hS hD rfl hA (fun H locs hP hD hS => ?_)
  refine W.eq (g2 := F0 m 9 ls [.int r2]) rfl ?_
  refine lv_if_ne (tgt := 13) hx hb d_Gr_scoreLetters_9 (by decide) (fun c4 => ?_) (fun c4 => ?_)
  · have hf := xif_f c4 hf
    refine lv_aload_n hx hb d_Gr_scoreLetters_13 rfl (lv_at hl 0 rfl) ?_
    refine va_get (D := (dC, dI)) (ci := 3) (v := .ref (ad 12)) (C := R_Gr) (T := F_Gr) (N := 11) hx hb hts iw_Gr hown hK hP 11 rfl rfl 2 (by decide) (hts _ m_134) (fun _ h9 => h9) rfl d_Gr_scoreLetters_14 ?_
    refine lv_iload_n hx hb d_Gr_scoreLetters_17 rfl (lv_at hl 1 rfl) ?_
    obtain ⟨hi5, hf⟩ := gdi hf
    refine va_iald hx hb hK hP 12 0 rfl rfl hi5 d_Gr_scoreLetters_18 ?_
    refine lv_iconst (v := 1) hx hb d_Gr_scoreLetters_19 (by decide) ?_
    have J28 : ∀ (t0_28 : Int32) (H : Heap) (locs : List Loc) (ls : Array Slot), va_P (dC, dI) classes (wX ty ad co_rows co_marks co_rowSets co_partners co_open co_count tr_kinds tr_lefts tr_rights tr_seconds tr_size gr_kinds gr_nodes gr_rowSets gr_firstStates gr_targetCounts gr_targets gr_stepScores gr_letterScores gr_size tx_letters tx_length va_scores va_knownEnds hi_begins hi_lengths hi_scores hi_taken hi_count de_states de_begins de_lengths de_length) H → va_D A (wX ty ad co_rows co_marks co_rowSets co_partners co_open co_count tr_kinds tr_lefts tr_rights tr_seconds tr_size gr_kinds gr_nodes gr_rowSets gr_firstStates gr_targetCounts gr_targets gr_stepScores gr_letterScores gr_size tx_letters tx_length va_scores va_knownEnds hi_begins hi_lengths hi_scores hi_taken hi_count de_states de_begins de_lengths de_length) → va_S A s.heap H locs → lv_has ls 5 [(0, .ref (ad 11)), (1, .int a1)] → f_Gr_scoreLetters_J28 co_rowSets tr_lefts tr_rights gr_kinds gr_nodes gr_rowSets gr_letterScores a1 t0_28 = some (n_gr_letterScores) → W p l e rm_Gr_scoreLetters s m (List.toArray [.ref (ad 11), .int a1]) below meth c H locs 0 0 Q (F0 m 28 ls [.int t0_28]) := by
      intro t0_28 H locs ls hP hD hS hl hf
      rw [f_Gr_scoreLetters_J28] at hf
      refine lv_istore_n (lv' := [(2, .int t0_28), (0, .ref (ad 11)), (1, .int a1)]) hx hb d_Gr_scoreLetters_28 rfl hl (by decide) rfl (fun ls hl => ?_)
      refine lv_iconst (v := 0) hx hb d_Gr_scoreLetters_29 (by decide) ?_
      refine lv_istore_n (lv' := [(3, .int (0 : Int32)), (2, .int t0_28), (0, .ref (ad 11)), (1, .int a1)]) hx hb d_Gr_scoreLetters_30 rfl hl (by decide) rfl (fun ls hl => ?_)
      have K31_81 : ∀ (x3_31 : Int32) (gr_letterScores_31 : (Nat → Int32)) (H : Heap) (locs : List Loc) (ls : Array Slot), va_P (dC, dI) classes (wX ty ad co_rows co_marks co_rowSets co_partners co_open co_count tr_kinds tr_lefts tr_rights tr_seconds tr_size gr_kinds gr_nodes gr_rowSets gr_firstStates gr_targetCounts gr_targets gr_stepScores gr_letterScores_31 gr_size tx_letters tx_length va_scores va_knownEnds hi_begins hi_lengths hi_scores hi_taken hi_count de_states de_begins de_lengths de_length) H → va_D A (wX ty ad co_rows co_marks co_rowSets co_partners co_open co_count tr_kinds tr_lefts tr_rights tr_seconds tr_size gr_kinds gr_nodes gr_rowSets gr_firstStates gr_targetCounts gr_targets gr_stepScores gr_letterScores_31 gr_size tx_letters tx_length va_scores va_knownEnds hi_begins hi_lengths hi_scores hi_taken hi_count de_states de_begins de_lengths de_length) → va_S A s.heap H locs → lv_has ls 5 [] → f_Gr_scoreLetters_K31_81 x3_31 gr_letterScores_31 = some (n_gr_letterScores) → W p l e rm_Gr_scoreLetters s m (List.toArray [.ref (ad 11), .int a1]) below meth c H locs 0 0 Q (F0 m 81 ls []) := by
        intro x3_31 gr_letterScores_31 H locs ls hP hD hS hl hf
        rw [f_Gr_scoreLetters_K31_81] at hf
        obtain rfl := os1 hf
        exact hret H locs _ _ d_Gr_scoreLetters_81 hP hS
      have L31 : ∀ (n31 : Nat), ∀ (x3_31 : Int32) (gr_letterScores_31 : (Nat → Int32)) (H : Heap) (locs : List Loc) (ls : Array Slot), va_P (dC, dI) classes (wX ty ad co_rows co_marks co_rowSets co_partners co_open co_count tr_kinds tr_lefts tr_rights tr_seconds tr_size gr_kinds gr_nodes gr_rowSets gr_firstStates gr_targetCounts gr_targets gr_stepScores gr_letterScores_31 gr_size tx_letters tx_length va_scores va_knownEnds hi_begins hi_lengths hi_scores hi_taken hi_count de_states de_begins de_lengths de_length) H → va_D A (wX ty ad co_rows co_marks co_rowSets co_partners co_open co_count tr_kinds tr_lefts tr_rights tr_seconds tr_size gr_kinds gr_nodes gr_rowSets gr_firstStates gr_targetCounts gr_targets gr_stepScores gr_letterScores_31 gr_size tx_letters tx_length va_scores va_knownEnds hi_begins hi_lengths hi_scores hi_taken hi_count de_states de_begins de_lengths de_length) → va_S A s.heap H locs → lv_has ls 5 [(0, .ref (ad 11)), (1, .int a1), (2, .int t0_28), (3, .int x3_31)] → f_Gr_scoreLetters_L31 co_rowSets tr_lefts tr_rights gr_kinds gr_nodes gr_rowSets a1 t0_28 (f_Gr_scoreLetters_K31_81) n31 x3_31 gr_letterScores_31 = some (n_gr_letterScores) → W p l e rm_Gr_scoreLetters s m (List.toArray [.ref (ad 11), .int a1]) below meth c H locs 0 0 Q (F0 m 31 ls []) := by
        intro n31
        induction n31 with
        | zero =>
          intro x3_31 gr_letterScores_31 H locs ls hP hD hS hl hf
          rw [f_Gr_scoreLetters_L31] at hf
          cases hf
        | succ n31 ih31 =>
          intro x3_31 gr_letterScores_31 H locs ls hP hD hS hl hf
          rw [f_Gr_scoreLetters_L31] at hf
          refine lv_iload_n hx hb d_Gr_scoreLetters_31 rfl (lv_at hl 3 rfl) ?_
          refine lv_iconst (v := 4) hx hb d_Gr_scoreLetters_32 (by decide) ?_
          refine lv_icmp_ge (tgt := 81) hx hb d_Gr_scoreLetters_33 (by decide) (fun c6 => ?_) (fun c6 => ?_)
          · have hf := xif_t c6 hf
            exact K31_81 x3_31 gr_letterScores_31 _ _ _ hP hD hS (lv_sub hl [] rfl) hf
          · have hf := xif_f c6 hf
            refine lv_iconst (v := 0) hx hb d_Gr_scoreLetters_36 (by decide) ?_
            refine lv_istore (lv' := [(4, .int (0 : Int32)), (0, .ref (ad 11)), (1, .int a1), (2, .int t0_28), (3, .int x3_31)]) hx hb d_Gr_scoreLetters_37 hl (by decide) rfl (fun ls hl => ?_)
            have K39_75 : ∀ (x4_39 : Int32) (gr_letterScores_39 : (Nat → Int32)) (H : Heap) (locs : List Loc) (ls : Array Slot), va_P (dC, dI) classes (wX ty ad co_rows co_marks co_rowSets co_partners co_open co_count tr_kinds tr_lefts tr_rights tr_seconds tr_size gr_kinds gr_nodes gr_rowSets gr_firstStates gr_targetCounts gr_targets gr_stepScores gr_letterScores_39 gr_size tx_letters tx_length va_scores va_knownEnds hi_begins hi_lengths hi_scores hi_taken hi_count de_states de_begins de_lengths de_length) H → va_D A (wX ty ad co_rows co_marks co_rowSets co_partners co_open co_count tr_kinds tr_lefts tr_rights tr_seconds tr_size gr_kinds gr_nodes gr_rowSets gr_firstStates gr_targetCounts gr_targets gr_stepScores gr_letterScores_39 gr_size tx_letters tx_length va_scores va_knownEnds hi_begins hi_lengths hi_scores hi_taken hi_count de_states de_begins de_lengths de_length) → va_S A s.heap H locs → lv_has ls 5 [(0, .ref (ad 11)), (1, .int a1), (2, .int t0_28), (3, .int x3_31)] → f_Gr_scoreLetters_K39_75 x3_31 (f_Gr_scoreLetters_L31 co_rowSets tr_lefts tr_rights gr_kinds gr_nodes gr_rowSets a1 t0_28 (f_Gr_scoreLetters_K31_81) n31) x4_39 gr_letterScores_39 = some (n_gr_letterScores) → W p l e rm_Gr_scoreLetters s m (List.toArray [.ref (ad 11), .int a1]) below meth c H locs 0 0 Q (F0 m 75 ls []) := by
              intro x4_39 gr_letterScores_39 H locs ls hP hD hS hl hf
              rw [f_Gr_scoreLetters_K39_75] at hf
              refine lv_iinc (v := (x3_31 + (1 : Int32))) (lv' := [(3, .int (x3_31 + (1 : Int32))), (0, .ref (ad 11)), (1, .int a1), (2, .int t0_28)]) hx hb d_Gr_scoreLetters_75 hl (k := 3) rfl rfl (by decide) rfl (fun ls hl => ?_)
              refine lv_goto (tgt := 31) hx hb d_Gr_scoreLetters_78 (by decide) ?_
              exact ih31 (x3_31 + (1 : Int32)) gr_letterScores_39 _ _ _ hP hD hS (lv_sub hl [1, 2, 3, 0] rfl) hf
            have L39 : ∀ (n39 : Nat), ∀ (x4_39 : Int32) (gr_letterScores_39 : (Nat → Int32)) (H : Heap) (locs : List Loc) (ls : Array Slot), va_P (dC, dI) classes (wX ty ad co_rows co_marks co_rowSets co_partners co_open co_count tr_kinds tr_lefts tr_rights tr_seconds tr_size gr_kinds gr_nodes gr_rowSets gr_firstStates gr_targetCounts gr_targets gr_stepScores gr_letterScores_39 gr_size tx_letters tx_length va_scores va_knownEnds hi_begins hi_lengths hi_scores hi_taken hi_count de_states de_begins de_lengths de_length) H → va_D A (wX ty ad co_rows co_marks co_rowSets co_partners co_open co_count tr_kinds tr_lefts tr_rights tr_seconds tr_size gr_kinds gr_nodes gr_rowSets gr_firstStates gr_targetCounts gr_targets gr_stepScores gr_letterScores_39 gr_size tx_letters tx_length va_scores va_knownEnds hi_begins hi_lengths hi_scores hi_taken hi_count de_states de_begins de_lengths de_length) → va_S A s.heap H locs → lv_has ls 5 [(0, .ref (ad 11)), (1, .int a1), (2, .int t0_28), (3, .int x3_31), (4, .int x4_39)] → f_Gr_scoreLetters_L39 co_rowSets tr_lefts tr_rights gr_kinds gr_nodes gr_rowSets a1 t0_28 x3_31 (f_Gr_scoreLetters_K39_75 x3_31 (f_Gr_scoreLetters_L31 co_rowSets tr_lefts tr_rights gr_kinds gr_nodes gr_rowSets a1 t0_28 (f_Gr_scoreLetters_K31_81) n31)) n39 x4_39 gr_letterScores_39 = some (n_gr_letterScores) → W p l e rm_Gr_scoreLetters s m (List.toArray [.ref (ad 11), .int a1]) below meth c H locs 0 0 Q (F0 m 39 ls []) := by
              intro n39
              induction n39 with
              | zero =>
                intro x4_39 gr_letterScores_39 H locs ls hP hD hS hl hf
                rw [f_Gr_scoreLetters_L39] at hf
                cases hf
              | succ n39 ih39 =>
                intro x4_39 gr_letterScores_39 H locs ls hP hD hS hl hf
                rw [f_Gr_scoreLetters_L39] at hf
                refine lv_iload hx hb d_Gr_scoreLetters_39 (lv_at hl 4 rfl) ?_
                refine lv_iload_n hx hb d_Gr_scoreLetters_41 rfl (lv_at hl 2 rfl) ?_
                refine lv_icmp_gt (tgt := 75) hx hb d_Gr_scoreLetters_42 (by decide) (fun c7 => ?_) (fun c7 => ?_)
                · have hf := xif_t c7 hf
                  exact K39_75 x4_39 gr_letterScores_39 _ _ _ hP hD hS (lv_sub hl [0, 1, 2, 3] rfl) hf
                · have hf := xif_f c7 hf
                  refine lv_aload_n hx hb d_Gr_scoreLetters_45 rfl (lv_at hl 0 rfl) ?_
                  refine va_get (D := (dC, dI)) (ci := 3) (v := .ref (ad 19)) (C := R_Gr) (T := F_Gr) (N := 11) hx hb hts iw_Gr hown hK hP 11 rfl rfl 9 (by decide) (hts _ m_141) (fun _ h9 => h9) rfl d_Gr_scoreLetters_46 ?_
                  refine lv_iload_n hx hb d_Gr_scoreLetters_49 rfl (lv_at hl 1 rfl) ?_
                  refine lv_bipush (v := 16) hx hb d_Gr_scoreLetters_50 (by decide) ?_
                  refine lv_imul hx hb d_Gr_scoreLetters_52 ?_
                  refine lv_iload_n hx hb d_Gr_scoreLetters_53 rfl (lv_at hl 3 rfl) ?_
                  refine lv_iconst (v := 4) hx hb d_Gr_scoreLetters_54 (by decide) ?_
                  refine lv_imul hx hb d_Gr_scoreLetters_55 ?_
                  refine lv_iadd hx hb d_Gr_scoreLetters_56 ?_
                  refine lv_iload hx hb d_Gr_scoreLetters_57 (lv_at hl 4 rfl) ?_
                  refine lv_iadd hx hb d_Gr_scoreLetters_59 ?_
                  refine lv_aload_n hx hb d_Gr_scoreLetters_60 rfl (lv_at hl 0 rfl) ?_
                  refine lv_iload_n hx hb d_Gr_scoreLetters_61 rfl (lv_at hl 1 rfl) ?_
                  refine lv_iload_n hx hb d_Gr_scoreLetters_62 rfl (lv_at hl 3 rfl) ?_
                  refine lv_iload hx hb d_Gr_scoreLetters_63 (lv_at hl 4 rfl) ?_
                  obtain ⟨r8, hc9, hf⟩ := ob1_inv hf
                  refine xk_i (xrunV (C := R_Gr) (As := [.int a1, .int x3_31, .int x4_39]) (rest := [.int (((a1 * (16 : Int32)) + (x3_31 * (4 : Int32))) + x4_39), .ref (ad 19)]) ⟨hx, hb, hml, hown, hts⟩ (c_Gr_scoreOfLetters l dC dI ty ad H.size co_rows co_marks co_rowSets co_partners co_open co_count tr_kinds tr_lefts tr_rights tr_seconds tr_size gr_kinds gr_nodes gr_rowSets gr_firstStates gr_targetCounts gr_targets gr_stepScores gr_letterScores_39 gr_size tx_letters tx_length va_scores va_knownEnds hi_begins hi_lengths hi_scores hi_taken hi_count de_states de_begins de_lengths de_length a1 x3_31 x4_39 r8 hc9) z_Gr_124 ⟨⟨rfl, rfl⟩, by decide, by decide⟩ hK hP hD hN (va_recv hK hP (ci := 3) (q0 := 11) rfl rfl) rfl hl.1 rfl (Nat.le_of_ble_eq_true rfl) d_Gr_scoreLetters_65 ⟨Nat.zero_le _, Nat.zero_le _⟩) hS hD rfl hA (fun H locs hP hD hS => ?_)
                  refine W.eq (g2 := F0 m 68 ls [.int r8, .int (((a1 * (16 : Int32)) + (x3_31 * (4 : Int32))) + x4_39), .ref (ad 19)]) rfl ?_
                  obtain ⟨hi10, hf⟩ := gdi hf
                  refine va_iast hx hb hK hP hD hS 19 0 rfl rfl hi10 d_Gr_scoreLetters_68 (fun H locs hP hD hS => ?_)
                  have hP : va_P (dC, dI) classes (wX ty ad co_rows co_marks co_rowSets co_partners co_open co_count tr_kinds tr_lefts tr_rights tr_seconds tr_size gr_kinds gr_nodes gr_rowSets gr_firstStates gr_targetCounts gr_targets gr_stepScores (upd gr_letterScores_39 (Int32.toNatClampNeg (((a1 * (16 : Int32)) + (x3_31 * (4 : Int32))) + x4_39)) r8) gr_size tx_letters tx_length va_scores va_knownEnds hi_begins hi_lengths hi_scores hi_taken hi_count de_states de_begins de_lengths de_length) H := hP
                  have hD : va_D A (wX ty ad co_rows co_marks co_rowSets co_partners co_open co_count tr_kinds tr_lefts tr_rights tr_seconds tr_size gr_kinds gr_nodes gr_rowSets gr_firstStates gr_targetCounts gr_targets gr_stepScores (upd gr_letterScores_39 (Int32.toNatClampNeg (((a1 * (16 : Int32)) + (x3_31 * (4 : Int32))) + x4_39)) r8) gr_size tx_letters tx_length va_scores va_knownEnds hi_begins hi_lengths hi_scores hi_taken hi_count de_states de_begins de_lengths de_length) := hD
                  refine lv_iinc (v := (x4_39 + (1 : Int32))) (lv' := [(4, .int (x4_39 + (1 : Int32))), (0, .ref (ad 11)), (1, .int a1), (2, .int t0_28), (3, .int x3_31)]) hx hb d_Gr_scoreLetters_69 hl (k := 4) rfl rfl (by decide) rfl (fun ls hl => ?_)
                  refine lv_goto (tgt := 39) hx hb d_Gr_scoreLetters_72 (by decide) ?_
                  exact ih39 (x4_39 + (1 : Int32)) (upd gr_letterScores_39 (Int32.toNatClampNeg (((a1 * (16 : Int32)) + (x3_31 * (4 : Int32))) + x4_39)) r8) _ _ _ hP hD hS (lv_sub hl [1, 2, 3, 4, 0] rfl) hf
            exact L39 1000 (0 : Int32) gr_letterScores_31 _ _ _ hP hD hS (lv_sub hl [1, 2, 3, 4, 0] rfl) hf
      exact L31 1000 (0 : Int32) gr_letterScores _ _ _ hP hD hS (lv_sub hl [2, 3, 1, 0] rfl) hf
    refine lv_icmp_ne (tgt := 27) hx hb d_Gr_scoreLetters_20 (by decide) (fun c11 => ?_) (fun c11 => ?_)
    · have hf := xif_f c11 hf
      refine lv_iconst (v := 0) hx hb d_Gr_scoreLetters_27 (by decide) ?_
      exact J28 (0 : Int32) _ _ _ hP hD hS (lv_sub hl [0, 1] rfl) hf
    · have hf := xif_t c11 hf
      refine lv_iconst (v := 3) hx hb d_Gr_scoreLetters_23 (by decide) ?_
      refine lv_goto (tgt := 28) hx hb d_Gr_scoreLetters_24 (by decide) ?_
      exact J28 (3 : Int32) _ _ _ hP hD hS (lv_sub hl [0, 1] rfl) hf
  · have hf := xif_t c4 hf
    obtain rfl := os1 hf
    exact hret H locs _ _ d_Gr_scoreLetters_12 hP hS
def f_Va_forget (va_knownEnds : Int32) : Option (Int32) := some ((0 : Int32))
set_option maxHeartbeats 4000000 in
set_option maxRecDepth 100000 in
theorem c_Va_forget (l : Launch) (dC : Nat → ClassId) (dI : Nat → Nat → Nat) (ty : Nat → ClassId) (ad : Nat → Nat) (sz : Nat) (co_rows : Int32) (co_marks : (Nat → Int32)) (co_rowSets : (Nat → Int32)) (co_partners : (Nat → Int32)) (co_open : (Nat → Int32)) (co_count : Int32) (tr_kinds : (Nat → Int32)) (tr_lefts : (Nat → Int32)) (tr_rights : (Nat → Int32)) (tr_seconds : (Nat → Int32)) (tr_size : Int32) (gr_kinds : (Nat → Int32)) (gr_nodes : (Nat → Int32)) (gr_rowSets : (Nat → Int32)) (gr_firstStates : (Nat → Int32)) (gr_targetCounts : (Nat → Int32)) (gr_targets : (Nat → Int32)) (gr_stepScores : (Nat → Int32)) (gr_letterScores : (Nat → Int32)) (gr_size : Int32) (tx_letters : (Nat → Int32)) (tx_length : Int32) (va_scores : (Nat → Int32)) (va_knownEnds : Int32) (hi_begins : (Nat → Int32)) (hi_lengths : (Nat → Int32)) (hi_scores : (Nat → Int32)) (hi_taken : (Nat → Int32)) (hi_count : Int32) (de_states : (Nat → Int32)) (de_begins : (Nat → Int32)) (de_lengths : (Nat → Int32)) (de_length : Int32)  (n_va_knownEnds : Int32) (hf : f_Va_forget va_knownEnds = some (n_va_knownEnds)) : Met l y_Va_forget (.code y_Va_forget prog_8_method_3_code 1 none :: gw) rm_Va_forget (xPre (dC, dI) classes (tys3 ty) (wX ty ad co_rows co_marks co_rowSets co_partners co_open co_count tr_kinds tr_lefts tr_rights tr_seconds tr_size gr_kinds gr_nodes gr_rowSets gr_firstStates gr_targetCounts gr_targets gr_stepScores gr_letterScores gr_size tx_letters tx_length va_scores va_knownEnds hi_begins hi_lengths hi_scores hi_taken hi_count de_states de_begins de_lengths de_length) sz [.ref (ad 22)]) (xQv (dC, dI) classes (wX ty ad co_rows co_marks co_rowSets co_partners co_open co_count tr_kinds tr_lefts tr_rights tr_seconds tr_size gr_kinds gr_nodes gr_rowSets gr_firstStates gr_targetCounts gr_targets gr_stepScores gr_letterScores gr_size tx_letters tx_length va_scores va_knownEnds hi_begins hi_lengths hi_scores hi_taken hi_count de_states de_begins de_lengths de_length) (wX ty ad co_rows co_marks co_rowSets co_partners co_open co_count tr_kinds tr_lefts tr_rights tr_seconds tr_size gr_kinds gr_nodes gr_rowSets gr_firstStates gr_targetCounts gr_targets gr_stepScores gr_letterScores gr_size tx_letters tx_length va_scores n_va_knownEnds hi_begins hi_lengths hi_scores hi_taken hi_count de_states de_begins de_lengths de_length) sz) 0 0 (va_A (wX ty ad co_rows co_marks co_rowSets co_partners co_open co_count tr_kinds tr_lefts tr_rights tr_seconds tr_size gr_kinds gr_nodes gr_rowSets gr_firstStates gr_targetCounts gr_targets gr_stepScores gr_letterScores gr_size tx_letters tx_length va_scores va_knownEnds hi_begins hi_lengths hi_scores hi_taken hi_count de_states de_begins de_lengths de_length) sz) := by
  refine xmet_v rfl (Nat.le_of_ble_eq_true rfl) ?_
  intro p e s m below meth c A ls Q hx hb hml hts hown hK hN hA hP hD hS hl hret
  replace hown : s.vm.findClass R_Va = some m.cls := hown
  have hl : lv_has ls 1 [(0, .ref (ad 22))] := hl
  rw [f_Va_forget] at hf
  obtain ⟨H, eH⟩ : ∃ H : Heap, H = s.heap := ⟨_, rfl⟩
  obtain ⟨locs, eL⟩ : ∃ L : List Loc, L = [] := ⟨_, rfl⟩
  have hP : va_P (dC, dI) classes (wX ty ad co_rows co_marks co_rowSets co_partners co_open co_count tr_kinds tr_lefts tr_rights tr_seconds tr_size gr_kinds gr_nodes gr_rowSets gr_firstStates gr_targetCounts gr_targets gr_stepScores gr_letterScores gr_size tx_letters tx_length va_scores va_knownEnds hi_begins hi_lengths hi_scores hi_taken hi_count de_states de_begins de_lengths de_length) H := by rw [eH]; exact hP
  have hS : va_S A s.heap H locs := by rw [eH, eL]; exact hS
  rw [← eL]
  suffices hgoal : W p l e rm_Va_forget s m (List.toArray [.ref (ad 22)]) below meth c H locs 0 0 Q (F0 m 0 ls []) by rw [eH] at hgoal; exact hgoal
  clear eH eL
  refine lv_aload_n hx hb d_Va_forget_0 rfl (lv_at hl 0 rfl) ?_
  refine lv_iconst (v := 0) hx hb d_Va_forget_1 (by decide) ?_
  refine va_put (D := (dC, dI)) (ci := 5) (v := .int (0 : Int32)) (ty := .int) (C := R_Va) (T := F_Va) (N := 4) hx hb hts iw_Va t_Va t_Va_ok n_Va hown hK hP hD hS 22 rfl rfl 3 (by decide) (hts _ m_188) (fun _ h9 => h9) rfl (by decide +kernel) rfl rfl (Nat.le_of_ble_eq_true rfl) d_Va_forget_2 (fun H locs hP hD hS => ?_)
  have hP : va_P (dC, dI) classes (wX ty ad co_rows co_marks co_rowSets co_partners co_open co_count tr_kinds tr_lefts tr_rights tr_seconds tr_size gr_kinds gr_nodes gr_rowSets gr_firstStates gr_targetCounts gr_targets gr_stepScores gr_letterScores gr_size tx_letters tx_length va_scores (0 : Int32) hi_begins hi_lengths hi_scores hi_taken hi_count de_states de_begins de_lengths de_length) H := hP
  have hD : va_D A (wX ty ad co_rows co_marks co_rowSets co_partners co_open co_count tr_kinds tr_lefts tr_rights tr_seconds tr_size gr_kinds gr_nodes gr_rowSets gr_firstStates gr_targetCounts gr_targets gr_stepScores gr_letterScores gr_size tx_letters tx_length va_scores (0 : Int32) hi_begins hi_lengths hi_scores hi_taken hi_count de_states de_begins de_lengths de_length) := hD
  obtain rfl := os1 hf
  exact hret H locs _ _ d_Va_forget_5 hP hS
def f_Gr_size (gr_size : Int32) : Option (Int32) := some (gr_size)
set_option maxHeartbeats 4000000 in
set_option maxRecDepth 100000 in
theorem c_Gr_size (l : Launch) (dC : Nat → ClassId) (dI : Nat → Nat → Nat) (ty : Nat → ClassId) (ad : Nat → Nat) (sz : Nat) (co_rows : Int32) (co_marks : (Nat → Int32)) (co_rowSets : (Nat → Int32)) (co_partners : (Nat → Int32)) (co_open : (Nat → Int32)) (co_count : Int32) (tr_kinds : (Nat → Int32)) (tr_lefts : (Nat → Int32)) (tr_rights : (Nat → Int32)) (tr_seconds : (Nat → Int32)) (tr_size : Int32) (gr_kinds : (Nat → Int32)) (gr_nodes : (Nat → Int32)) (gr_rowSets : (Nat → Int32)) (gr_firstStates : (Nat → Int32)) (gr_targetCounts : (Nat → Int32)) (gr_targets : (Nat → Int32)) (gr_stepScores : (Nat → Int32)) (gr_letterScores : (Nat → Int32)) (gr_size : Int32) (tx_letters : (Nat → Int32)) (tx_length : Int32) (va_scores : (Nat → Int32)) (va_knownEnds : Int32) (hi_begins : (Nat → Int32)) (hi_lengths : (Nat → Int32)) (hi_scores : (Nat → Int32)) (hi_taken : (Nat → Int32)) (hi_count : Int32) (de_states : (Nat → Int32)) (de_begins : (Nat → Int32)) (de_lengths : (Nat → Int32)) (de_length : Int32)  (r0 : Int32) (hf : f_Gr_size gr_size = some (r0)) : Met l y_Gr_size (.code y_Gr_size prog_4_method_2_code 1 (some .int) :: gw) rm_Gr_size (xPre (dC, dI) classes (tys3 ty) (wX ty ad co_rows co_marks co_rowSets co_partners co_open co_count tr_kinds tr_lefts tr_rights tr_seconds tr_size gr_kinds gr_nodes gr_rowSets gr_firstStates gr_targetCounts gr_targets gr_stepScores gr_letterScores gr_size tx_letters tx_length va_scores va_knownEnds hi_begins hi_lengths hi_scores hi_taken hi_count de_states de_begins de_lengths de_length) sz [.ref (ad 11)]) (xQi (dC, dI) classes (wX ty ad co_rows co_marks co_rowSets co_partners co_open co_count tr_kinds tr_lefts tr_rights tr_seconds tr_size gr_kinds gr_nodes gr_rowSets gr_firstStates gr_targetCounts gr_targets gr_stepScores gr_letterScores gr_size tx_letters tx_length va_scores va_knownEnds hi_begins hi_lengths hi_scores hi_taken hi_count de_states de_begins de_lengths de_length) (wX ty ad co_rows co_marks co_rowSets co_partners co_open co_count tr_kinds tr_lefts tr_rights tr_seconds tr_size gr_kinds gr_nodes gr_rowSets gr_firstStates gr_targetCounts gr_targets gr_stepScores gr_letterScores gr_size tx_letters tx_length va_scores va_knownEnds hi_begins hi_lengths hi_scores hi_taken hi_count de_states de_begins de_lengths de_length) sz r0) 0 0 (va_A (wX ty ad co_rows co_marks co_rowSets co_partners co_open co_count tr_kinds tr_lefts tr_rights tr_seconds tr_size gr_kinds gr_nodes gr_rowSets gr_firstStates gr_targetCounts gr_targets gr_stepScores gr_letterScores gr_size tx_letters tx_length va_scores va_knownEnds hi_begins hi_lengths hi_scores hi_taken hi_count de_states de_begins de_lengths de_length) sz) := by
  refine xmet_i rfl (Nat.le_of_ble_eq_true rfl) ?_
  intro p e s m below meth c A ls Q hx hb hml hts hown hK hN hA hP hD hS hl hret
  replace hown : s.vm.findClass R_Gr = some m.cls := hown
  have hl : lv_has ls 1 [(0, .ref (ad 11))] := hl
  rw [f_Gr_size] at hf
  obtain ⟨H, eH⟩ : ∃ H : Heap, H = s.heap := ⟨_, rfl⟩
  obtain ⟨locs, eL⟩ : ∃ L : List Loc, L = [] := ⟨_, rfl⟩
  have hP : va_P (dC, dI) classes (wX ty ad co_rows co_marks co_rowSets co_partners co_open co_count tr_kinds tr_lefts tr_rights tr_seconds tr_size gr_kinds gr_nodes gr_rowSets gr_firstStates gr_targetCounts gr_targets gr_stepScores gr_letterScores gr_size tx_letters tx_length va_scores va_knownEnds hi_begins hi_lengths hi_scores hi_taken hi_count de_states de_begins de_lengths de_length) H := by rw [eH]; exact hP
  have hS : va_S A s.heap H locs := by rw [eH, eL]; exact hS
  rw [← eL]
  suffices hgoal : W p l e rm_Gr_size s m (List.toArray [.ref (ad 11)]) below meth c H locs 0 0 Q (F0 m 0 ls []) by rw [eH] at hgoal; exact hgoal
  clear eH eL
  refine lv_aload_n hx hb d_Gr_size_0 rfl (lv_at hl 0 rfl) ?_
  refine va_get (D := (dC, dI)) (ci := 3) (v := .int gr_size) (C := R_Gr) (T := F_Gr) (N := 11) hx hb hts iw_Gr hown hK hP 11 rfl rfl 10 (by decide) (hts _ m_142) (fun _ h9 => h9) rfl d_Gr_size_1 ?_
  obtain rfl := os1 hf
  exact hret H locs _ _ _ d_Gr_size_4 rfl hP hS
def f_Gr_hasState (gr_size : Int32) (a1 : Int32) : Option (Int32) := if a1 < (0 : Int32) then (some ((0 : Int32))) else (if gr_size ≤ a1 then (some ((0 : Int32))) else (some ((1 : Int32))))
set_option maxHeartbeats 4000000 in
set_option maxRecDepth 100000 in
theorem c_Gr_hasState (l : Launch) (dC : Nat → ClassId) (dI : Nat → Nat → Nat) (ty : Nat → ClassId) (ad : Nat → Nat) (sz : Nat) (co_rows : Int32) (co_marks : (Nat → Int32)) (co_rowSets : (Nat → Int32)) (co_partners : (Nat → Int32)) (co_open : (Nat → Int32)) (co_count : Int32) (tr_kinds : (Nat → Int32)) (tr_lefts : (Nat → Int32)) (tr_rights : (Nat → Int32)) (tr_seconds : (Nat → Int32)) (tr_size : Int32) (gr_kinds : (Nat → Int32)) (gr_nodes : (Nat → Int32)) (gr_rowSets : (Nat → Int32)) (gr_firstStates : (Nat → Int32)) (gr_targetCounts : (Nat → Int32)) (gr_targets : (Nat → Int32)) (gr_stepScores : (Nat → Int32)) (gr_letterScores : (Nat → Int32)) (gr_size : Int32) (tx_letters : (Nat → Int32)) (tx_length : Int32) (va_scores : (Nat → Int32)) (va_knownEnds : Int32) (hi_begins : (Nat → Int32)) (hi_lengths : (Nat → Int32)) (hi_scores : (Nat → Int32)) (hi_taken : (Nat → Int32)) (hi_count : Int32) (de_states : (Nat → Int32)) (de_begins : (Nat → Int32)) (de_lengths : (Nat → Int32)) (de_length : Int32) (a1 : Int32) (r0 : Int32) (hf : f_Gr_hasState gr_size a1 = some (r0)) : Met l y_Gr_hasState (.code y_Gr_hasState prog_4_method_4_code 2 (some .boolean) :: gw) rm_Gr_hasState (xPre (dC, dI) classes (tys3 ty) (wX ty ad co_rows co_marks co_rowSets co_partners co_open co_count tr_kinds tr_lefts tr_rights tr_seconds tr_size gr_kinds gr_nodes gr_rowSets gr_firstStates gr_targetCounts gr_targets gr_stepScores gr_letterScores gr_size tx_letters tx_length va_scores va_knownEnds hi_begins hi_lengths hi_scores hi_taken hi_count de_states de_begins de_lengths de_length) sz [.ref (ad 11), .int a1]) (xQi (dC, dI) classes (wX ty ad co_rows co_marks co_rowSets co_partners co_open co_count tr_kinds tr_lefts tr_rights tr_seconds tr_size gr_kinds gr_nodes gr_rowSets gr_firstStates gr_targetCounts gr_targets gr_stepScores gr_letterScores gr_size tx_letters tx_length va_scores va_knownEnds hi_begins hi_lengths hi_scores hi_taken hi_count de_states de_begins de_lengths de_length) (wX ty ad co_rows co_marks co_rowSets co_partners co_open co_count tr_kinds tr_lefts tr_rights tr_seconds tr_size gr_kinds gr_nodes gr_rowSets gr_firstStates gr_targetCounts gr_targets gr_stepScores gr_letterScores gr_size tx_letters tx_length va_scores va_knownEnds hi_begins hi_lengths hi_scores hi_taken hi_count de_states de_begins de_lengths de_length) sz r0) 0 0 (va_A (wX ty ad co_rows co_marks co_rowSets co_partners co_open co_count tr_kinds tr_lefts tr_rights tr_seconds tr_size gr_kinds gr_nodes gr_rowSets gr_firstStates gr_targetCounts gr_targets gr_stepScores gr_letterScores gr_size tx_letters tx_length va_scores va_knownEnds hi_begins hi_lengths hi_scores hi_taken hi_count de_states de_begins de_lengths de_length) sz) := by
  refine xmet_z rfl (Nat.le_of_ble_eq_true rfl) ?_
  intro p e s m below meth c A ls Q hx hb hml hts hown hK hN hA hP hD hS hl hret
  replace hown : s.vm.findClass R_Gr = some m.cls := hown
  have hl : lv_has ls 2 [(0, .ref (ad 11)), (1, .int a1)] := hl
  rw [f_Gr_hasState] at hf
  obtain ⟨H, eH⟩ : ∃ H : Heap, H = s.heap := ⟨_, rfl⟩
  obtain ⟨locs, eL⟩ : ∃ L : List Loc, L = [] := ⟨_, rfl⟩
  have hP : va_P (dC, dI) classes (wX ty ad co_rows co_marks co_rowSets co_partners co_open co_count tr_kinds tr_lefts tr_rights tr_seconds tr_size gr_kinds gr_nodes gr_rowSets gr_firstStates gr_targetCounts gr_targets gr_stepScores gr_letterScores gr_size tx_letters tx_length va_scores va_knownEnds hi_begins hi_lengths hi_scores hi_taken hi_count de_states de_begins de_lengths de_length) H := by rw [eH]; exact hP
  have hS : va_S A s.heap H locs := by rw [eH, eL]; exact hS
  rw [← eL]
  suffices hgoal : W p l e rm_Gr_hasState s m (List.toArray [.ref (ad 11), .int a1]) below meth c H locs 0 0 Q (F0 m 0 ls []) by rw [eH] at hgoal; exact hgoal
  clear eH eL
  refine lv_iload_n hx hb d_Gr_hasState_0 rfl (lv_at hl 1 rfl) ?_
  refine lv_if_lt (tgt := 16) hx hb d_Gr_hasState_1 (by decide) (fun c1 => ?_) (fun c1 => ?_)
  · have hf := xif_t c1 hf
    refine lv_iconst (v := 0) hx hb d_Gr_hasState_16 (by decide) ?_
    obtain rfl := os1 hf
    exact hret H locs _ _ _ d_Gr_hasState_17 rfl rfl hP hS
  · have hf := xif_f c1 hf
    refine lv_iload_n hx hb d_Gr_hasState_4 rfl (lv_at hl 1 rfl) ?_
    refine lv_aload_n hx hb d_Gr_hasState_5 rfl (lv_at hl 0 rfl) ?_
    refine va_get (D := (dC, dI)) (ci := 3) (v := .int gr_size) (C := R_Gr) (T := F_Gr) (N := 11) hx hb hts iw_Gr hown hK hP 11 rfl rfl 10 (by decide) (hts _ m_142) (fun _ h9 => h9) rfl d_Gr_hasState_6 ?_
    refine lv_icmp_ge (tgt := 16) hx hb d_Gr_hasState_9 (by decide) (fun c2 => ?_) (fun c2 => ?_)
    · have hf := xif_t c2 hf
      refine lv_iconst (v := 0) hx hb d_Gr_hasState_16 (by decide) ?_
      obtain rfl := os1 hf
      exact hret H locs _ _ _ d_Gr_hasState_17 rfl rfl hP hS
    · have hf := xif_f c2 hf
      refine lv_iconst (v := 1) hx hb d_Gr_hasState_12 (by decide) ?_
      refine lv_goto (tgt := 17) hx hb d_Gr_hasState_13 (by decide) ?_
      obtain rfl := os1 hf
      exact hret H locs _ _ _ d_Gr_hasState_17 rfl rfl hP hS
def f_Gr_kindOf (gr_kinds : (Nat → Int32)) (a1 : Int32) : Option (Int32) := gd (xin a1 43) (some ((gr_kinds (Int32.toNatClampNeg a1))))
set_option maxHeartbeats 4000000 in
set_option maxRecDepth 100000 in
theorem c_Gr_kindOf (l : Launch) (dC : Nat → ClassId) (dI : Nat → Nat → Nat) (ty : Nat → ClassId) (ad : Nat → Nat) (sz : Nat) (co_rows : Int32) (co_marks : (Nat → Int32)) (co_rowSets : (Nat → Int32)) (co_partners : (Nat → Int32)) (co_open : (Nat → Int32)) (co_count : Int32) (tr_kinds : (Nat → Int32)) (tr_lefts : (Nat → Int32)) (tr_rights : (Nat → Int32)) (tr_seconds : (Nat → Int32)) (tr_size : Int32) (gr_kinds : (Nat → Int32)) (gr_nodes : (Nat → Int32)) (gr_rowSets : (Nat → Int32)) (gr_firstStates : (Nat → Int32)) (gr_targetCounts : (Nat → Int32)) (gr_targets : (Nat → Int32)) (gr_stepScores : (Nat → Int32)) (gr_letterScores : (Nat → Int32)) (gr_size : Int32) (tx_letters : (Nat → Int32)) (tx_length : Int32) (va_scores : (Nat → Int32)) (va_knownEnds : Int32) (hi_begins : (Nat → Int32)) (hi_lengths : (Nat → Int32)) (hi_scores : (Nat → Int32)) (hi_taken : (Nat → Int32)) (hi_count : Int32) (de_states : (Nat → Int32)) (de_begins : (Nat → Int32)) (de_lengths : (Nat → Int32)) (de_length : Int32) (a1 : Int32) (r0 : Int32) (hf : f_Gr_kindOf gr_kinds a1 = some (r0)) : Met l y_Gr_kindOf (.code y_Gr_kindOf prog_4_method_5_code 2 (some .int) :: gw) rm_Gr_kindOf (xPre (dC, dI) classes (tys3 ty) (wX ty ad co_rows co_marks co_rowSets co_partners co_open co_count tr_kinds tr_lefts tr_rights tr_seconds tr_size gr_kinds gr_nodes gr_rowSets gr_firstStates gr_targetCounts gr_targets gr_stepScores gr_letterScores gr_size tx_letters tx_length va_scores va_knownEnds hi_begins hi_lengths hi_scores hi_taken hi_count de_states de_begins de_lengths de_length) sz [.ref (ad 11), .int a1]) (xQi (dC, dI) classes (wX ty ad co_rows co_marks co_rowSets co_partners co_open co_count tr_kinds tr_lefts tr_rights tr_seconds tr_size gr_kinds gr_nodes gr_rowSets gr_firstStates gr_targetCounts gr_targets gr_stepScores gr_letterScores gr_size tx_letters tx_length va_scores va_knownEnds hi_begins hi_lengths hi_scores hi_taken hi_count de_states de_begins de_lengths de_length) (wX ty ad co_rows co_marks co_rowSets co_partners co_open co_count tr_kinds tr_lefts tr_rights tr_seconds tr_size gr_kinds gr_nodes gr_rowSets gr_firstStates gr_targetCounts gr_targets gr_stepScores gr_letterScores gr_size tx_letters tx_length va_scores va_knownEnds hi_begins hi_lengths hi_scores hi_taken hi_count de_states de_begins de_lengths de_length) sz r0) 0 0 (va_A (wX ty ad co_rows co_marks co_rowSets co_partners co_open co_count tr_kinds tr_lefts tr_rights tr_seconds tr_size gr_kinds gr_nodes gr_rowSets gr_firstStates gr_targetCounts gr_targets gr_stepScores gr_letterScores gr_size tx_letters tx_length va_scores va_knownEnds hi_begins hi_lengths hi_scores hi_taken hi_count de_states de_begins de_lengths de_length) sz) := by
  refine xmet_i rfl (Nat.le_of_ble_eq_true rfl) ?_
  intro p e s m below meth c A ls Q hx hb hml hts hown hK hN hA hP hD hS hl hret
  replace hown : s.vm.findClass R_Gr = some m.cls := hown
  have hl : lv_has ls 2 [(0, .ref (ad 11)), (1, .int a1)] := hl
  rw [f_Gr_kindOf] at hf
  obtain ⟨H, eH⟩ : ∃ H : Heap, H = s.heap := ⟨_, rfl⟩
  obtain ⟨locs, eL⟩ : ∃ L : List Loc, L = [] := ⟨_, rfl⟩
  have hP : va_P (dC, dI) classes (wX ty ad co_rows co_marks co_rowSets co_partners co_open co_count tr_kinds tr_lefts tr_rights tr_seconds tr_size gr_kinds gr_nodes gr_rowSets gr_firstStates gr_targetCounts gr_targets gr_stepScores gr_letterScores gr_size tx_letters tx_length va_scores va_knownEnds hi_begins hi_lengths hi_scores hi_taken hi_count de_states de_begins de_lengths de_length) H := by rw [eH]; exact hP
  have hS : va_S A s.heap H locs := by rw [eH, eL]; exact hS
  rw [← eL]
  suffices hgoal : W p l e rm_Gr_kindOf s m (List.toArray [.ref (ad 11), .int a1]) below meth c H locs 0 0 Q (F0 m 0 ls []) by rw [eH] at hgoal; exact hgoal
  clear eH eL
  refine lv_aload_n hx hb d_Gr_kindOf_0 rfl (lv_at hl 0 rfl) ?_
  refine va_get (D := (dC, dI)) (ci := 3) (v := .ref (ad 12)) (C := R_Gr) (T := F_Gr) (N := 11) hx hb hts iw_Gr hown hK hP 11 rfl rfl 2 (by decide) (hts _ m_134) (fun _ h9 => h9) rfl d_Gr_kindOf_1 ?_
  refine lv_iload_n hx hb d_Gr_kindOf_4 rfl (lv_at hl 1 rfl) ?_
  obtain ⟨hi1, hf⟩ := gdi hf
  refine va_iald hx hb hK hP 12 0 rfl rfl hi1 d_Gr_kindOf_5 ?_
  obtain rfl := os1 hf
  exact hret H locs _ _ _ d_Gr_kindOf_6 rfl hP hS
