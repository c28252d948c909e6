/-! pure functions and contracts of Fa_node, Gr_hasTarget, Fa_target, Gr_stepScore, Fa_step, Gr_letterScore, Fa_emits, Tx_room, Tx_append, Tx_length, Fa_feed, Tx_empty (written by wip/gen) -/
def f_Fa_node (gr_nodes : (Nat → Int32)) (gr_size : Int32) (a1 : Int32) : Option (Int32) := ob1 (f_Gr_hasState gr_size a1) (fun r1 => if r1 = (0 : Int32) then (some ((-1000000 : Int32))) else (ob1 (f_Gr_nodeOf gr_nodes a1) (fun r4 => some (r4))))
set_option maxHeartbeats 4000000 in
set_option maxRecDepth 100000 in
theorem c_Fa_node (l : Launch) (dC : Nat → ClassId) (dI : Nat → Nat → Nat) (ty : Nat → ClassId) (ad : Nat → Nat) (ta : Nat → Nat) (sz : Nat) (co_rows : Int32) (co_marks : (Nat → Int32)) (co_rowSets : (Nat → Int32)) (co_partners : (Nat → Int32)) (co_open : (Nat → Int32)) (co_count : Int32) (tr_kinds : (Nat → Int32)) (tr_lefts : (Nat → Int32)) (tr_rights : (Nat → Int32)) (tr_seconds : (Nat → Int32)) (tr_size : Int32) (gr_kinds : (Nat → Int32)) (gr_nodes : (Nat → Int32)) (gr_rowSets : (Nat → Int32)) (gr_firstStates : (Nat → Int32)) (gr_targetCounts : (Nat → Int32)) (gr_targets : (Nat → Int32)) (gr_stepScores : (Nat → Int32)) (gr_letterScores : (Nat → Int32)) (gr_size : Int32) (tx_letters : (Nat → Int32)) (tx_length : Int32) (va_scores : (Nat → Int32)) (va_knownEnds : Int32) (hi_begins : (Nat → Int32)) (hi_lengths : (Nat → Int32)) (hi_scores : (Nat → Int32)) (hi_taken : (Nat → Int32)) (hi_count : Int32) (de_states : (Nat → Int32)) (de_begins : (Nat → Int32)) (de_lengths : (Nat → Int32)) (de_length : Int32) (a1 : Int32) (r0 : Int32) (hf : f_Fa_node gr_nodes gr_size a1 = some (r0)) : Met l y_Fa_node (.code y_Fa_node prog_1_method_6_code 2 (some .int) :: gw) rm_Fa_node (xPre ta (dC, dI) classes (tys3 ty) (wX ty ad co_rows co_marks co_rowSets co_partners co_open co_count tr_kinds tr_lefts tr_rights tr_seconds tr_size gr_kinds gr_nodes gr_rowSets gr_firstStates gr_targetCounts gr_targets gr_stepScores gr_letterScores gr_size tx_letters tx_length va_scores va_knownEnds hi_begins hi_lengths hi_scores hi_taken hi_count de_states de_begins de_lengths de_length) sz [.ref (ad 0), .int a1]) (xQi (dC, dI) classes (wX ty ad co_rows co_marks co_rowSets co_partners co_open co_count tr_kinds tr_lefts tr_rights tr_seconds tr_size gr_kinds gr_nodes gr_rowSets gr_firstStates gr_targetCounts gr_targets gr_stepScores gr_letterScores gr_size tx_letters tx_length va_scores va_knownEnds hi_begins hi_lengths hi_scores hi_taken hi_count de_states de_begins de_lengths de_length) (wX ty ad co_rows co_marks co_rowSets co_partners co_open co_count tr_kinds tr_lefts tr_rights tr_seconds tr_size gr_kinds gr_nodes gr_rowSets gr_firstStates gr_targetCounts gr_targets gr_stepScores gr_letterScores gr_size tx_letters tx_length va_scores va_knownEnds hi_begins hi_lengths hi_scores hi_taken hi_count de_states de_begins de_lengths de_length) sz r0) 0 0 (va_A (wX ty ad co_rows co_marks co_rowSets co_partners co_open co_count tr_kinds tr_lefts tr_rights tr_seconds tr_size gr_kinds gr_nodes gr_rowSets gr_firstStates gr_targetCounts gr_targets gr_stepScores gr_letterScores gr_size tx_letters tx_length va_scores va_knownEnds hi_begins hi_lengths hi_scores hi_taken hi_count de_states de_begins de_lengths de_length) sz) := by
  refine xmet_i rfl (Nat.le_of_ble_eq_true rfl) ?_
  intro p e s m below meth c A ls Q hx hb hml hts hown hK hN hA hP hD hS hl hret
  replace hown : s.vm.findClass R_Fa = some m.cls := hown
  have hl : lv_has ls 2 [(0, .ref (ad 0)), (1, .int a1)] := hl
  rw [f_Fa_node] at hf
  obtain ⟨H, eH⟩ : ∃ H : Heap, H = s.heap := ⟨_, rfl⟩
  obtain ⟨locs, eL⟩ : ∃ L : List Loc, L = [] := ⟨_, rfl⟩
  have hP : va_P (dC, dI) classes (wX ty ad co_rows co_marks co_rowSets co_partners co_open co_count tr_kinds tr_lefts tr_rights tr_seconds tr_size gr_kinds gr_nodes gr_rowSets gr_firstStates gr_targetCounts gr_targets gr_stepScores gr_letterScores gr_size tx_letters tx_length va_scores va_knownEnds hi_begins hi_lengths hi_scores hi_taken hi_count de_states de_begins de_lengths de_length) H := by rw [eH]; exact hP
  have hS : va_S A s.heap H locs := by rw [eH, eL]; exact hS
  rw [← eL]
  suffices hgoal : W p l e rm_Fa_node s m (List.toArray [.ref (ad 0), .int a1]) below meth c H locs 0 0 Q (F0 m 0 ls []) by rw [eH] at hgoal; exact hgoal
  clear eH eL
  refine lv_aload_n hx hb d_Fa_node_0 rfl (lv_at hl 0 rfl) ?_
  refine va_get (D := (dC, dI)) (ci := 0) (v := .ref (ad 11)) (C := R_Fa) (T := F_Fa) (N := 7) hx hb hts iw_Fa hown hK hP 0 rfl rfl 2 (by decide) (hts _ m_242) (fun _ h9 => h9) rfl d_Fa_node_1 ?_
  refine lv_iload_n hx hb d_Fa_node_4 rfl (lv_at hl 1 rfl) ?_
  obtain ⟨r1, hc2, hf⟩ := ob1_inv hf
  refine xk_i (xrunV (C := R_Gr) (As := [.int a1]) (rest := []) ⟨hx, hb, hml, hown, hts⟩ (c_Gr_hasState l dC dI ty ad ta H.size co_rows co_marks co_rowSets co_partners co_open co_count tr_kinds tr_lefts tr_rights tr_seconds tr_size gr_kinds gr_nodes gr_rowSets gr_firstStates gr_targetCounts gr_targets gr_stepScores gr_letterScores gr_size tx_letters tx_length va_scores va_knownEnds hi_begins hi_lengths hi_scores hi_taken hi_count de_states de_begins de_lengths de_length a1 r1 hc2) z_Fa_111 ⟨⟨rfl, rfl⟩, by decide, by decide⟩ hK hP hD hN hS hA (va_recv hK hP (ci := 3) (q0 := 11) rfl rfl) rfl hl.1 rfl (Nat.le_of_ble_eq_true rfl) d_Fa_node_5 ⟨Nat.zero_le _, Nat.zero_le _⟩) hS hD rfl hA (fun H locs hP hD hS => ?_)
  refine W.eq (g2 := F0 m 8 ls [.int r1]) rfl ?_
  refine lv_if_eq (tgt := 22) hx hb d_Fa_node_8 (by decide) (fun c3 => ?_) (fun c3 => ?_)
  · have hf := xif_t c3 hf
    refine lv_ldc (v := -1000000) hx hb hown (hts _ m_308) d_Fa_node_22 ?_
    obtain rfl := os1 hf
    exact hret H locs _ _ _ d_Fa_node_24 rfl hP hS
  · have hf := xif_f c3 hf
    refine lv_aload_n hx hb d_Fa_node_11 rfl (lv_at hl 0 rfl) ?_
    refine va_get (D := (dC, dI)) (ci := 0) (v := .ref (ad 11)) (C := R_Fa) (T := F_Fa) (N := 7) hx hb hts iw_Fa hown hK hP 0 rfl rfl 2 (by decide) (hts _ m_242) (fun _ h9 => h9) rfl d_Fa_node_12 ?_
    refine lv_iload_n hx hb d_Fa_node_15 rfl (lv_at hl 1 rfl) ?_
    obtain ⟨r4, hc5, hf⟩ := ob1_inv hf
    refine xk_i (xrunV (C := R_Gr) (As := [.int a1]) (rest := []) ⟨hx, hb, hml, hown, hts⟩ (c_Gr_nodeOf l dC dI ty ad ta H.size co_rows co_marks co_rowSets co_partners co_open co_count tr_kinds tr_lefts tr_rights tr_seconds tr_size gr_kinds gr_nodes gr_rowSets gr_firstStates gr_targetCounts gr_targets gr_stepScores gr_letterScores gr_size tx_letters tx_length va_scores va_knownEnds hi_begins hi_lengths hi_scores hi_taken hi_count de_states de_begins de_lengths de_length a1 r4 hc5) z_Fa_119 ⟨⟨rfl, rfl⟩, by decide, by decide⟩ hK hP hD hN hS hA (va_recv hK hP (ci := 3) (q0 := 11) rfl rfl) rfl hl.1 rfl (Nat.le_of_ble_eq_true rfl) d_Fa_node_16 ⟨Nat.zero_le _, Nat.zero_le _⟩) hS hD rfl hA (fun H locs hP hD hS => ?_)
    refine W.eq (g2 := F0 m 19 ls [.int r4]) rfl ?_
    refine lv_goto (tgt := 24) hx hb d_Fa_node_19 (by decide) ?_
    obtain rfl := os1 hf
    exact hret H locs _ _ _ d_Fa_node_24 rfl hP hS
def f_Gr_hasTarget (gr_targetCounts : (Nat → Int32)) (gr_size : Int32) (a1 : Int32) (a2 : Int32) : Option (Int32) := ob1 (f_Gr_hasState gr_size a1) (fun r1 => if r1 = (0 : Int32) then (some ((0 : Int32))) else (if a2 < (0 : Int32) then (some ((0 : Int32))) else (gd (xin a1 43) (if (gr_targetCounts (Int32.toNatClampNeg a1)) ≤ a2 then (some ((0 : Int32))) else (some ((1 : Int32)))))))
set_option maxHeartbeats 4000000 in
set_option maxRecDepth 100000 in
theorem c_Gr_hasTarget (l : Launch) (dC : Nat → ClassId) (dI : Nat → Nat → Nat) (ty : Nat → ClassId) (ad : Nat → Nat) (ta : Nat → Nat) (sz : Nat) (co_rows : Int32) (co_marks : (Nat → Int32)) (co_rowSets : (Nat → Int32)) (co_partners : (Nat → Int32)) (co_open : (Nat → Int32)) (co_count : Int32) (tr_kinds : (Nat → Int32)) (tr_lefts : (Nat → Int32)) (tr_rights : (Nat → Int32)) (tr_seconds : (Nat → Int32)) (tr_size : Int32) (gr_kinds : (Nat → Int32)) (gr_nodes : (Nat → Int32)) (gr_rowSets : (Nat → Int32)) (gr_firstStates : (Nat → Int32)) (gr_targetCounts : (Nat → Int32)) (gr_targets : (Nat → Int32)) (gr_stepScores : (Nat → Int32)) (gr_letterScores : (Nat → Int32)) (gr_size : Int32) (tx_letters : (Nat → Int32)) (tx_length : Int32) (va_scores : (Nat → Int32)) (va_knownEnds : Int32) (hi_begins : (Nat → Int32)) (hi_lengths : (Nat → Int32)) (hi_scores : (Nat → Int32)) (hi_taken : (Nat → Int32)) (hi_count : Int32) (de_states : (Nat → Int32)) (de_begins : (Nat → Int32)) (de_lengths : (Nat → Int32)) (de_length : Int32) (a1 : Int32) (a2 : Int32) (r0 : Int32) (hf : f_Gr_hasTarget gr_targetCounts gr_size a1 a2 = some (r0)) : Met l y_Gr_hasTarget (.code y_Gr_hasTarget prog_4_method_7_code 3 (some .boolean) :: gw) rm_Gr_hasTarget (xPre ta (dC, dI) classes (tys3 ty) (wX ty ad co_rows co_marks co_rowSets co_partners co_open co_count tr_kinds tr_lefts tr_rights tr_seconds tr_size gr_kinds gr_nodes gr_rowSets gr_firstStates gr_targetCounts gr_targets gr_stepScores gr_letterScores gr_size tx_letters tx_length va_scores va_knownEnds hi_begins hi_lengths hi_scores hi_taken hi_count de_states de_begins de_lengths de_length) sz [.ref (ad 11), .int a1, .int a2]) (xQi (dC, dI) classes (wX ty ad co_rows co_marks co_rowSets co_partners co_open co_count tr_kinds tr_lefts tr_rights tr_seconds tr_size gr_kinds gr_nodes gr_rowSets gr_firstStates gr_targetCounts gr_targets gr_stepScores gr_letterScores gr_size tx_letters tx_length va_scores va_knownEnds hi_begins hi_lengths hi_scores hi_taken hi_count de_states de_begins de_lengths de_length) (wX ty ad co_rows co_marks co_rowSets co_partners co_open co_count tr_kinds tr_lefts tr_rights tr_seconds tr_size gr_kinds gr_nodes gr_rowSets gr_firstStates gr_targetCounts gr_targets gr_stepScores gr_letterScores gr_size tx_letters tx_length va_scores va_knownEnds hi_begins hi_lengths hi_scores hi_taken hi_count de_states de_begins de_lengths de_length) sz r0) 0 0 (va_A (wX ty ad co_rows co_marks co_rowSets co_partners co_open co_count tr_kinds tr_lefts tr_rights tr_seconds tr_size gr_kinds gr_nodes gr_rowSets gr_firstStates gr_targetCounts gr_targets gr_stepScores gr_letterScores gr_size tx_letters tx_length va_scores va_knownEnds hi_begins hi_lengths hi_scores hi_taken hi_count de_states de_begins de_lengths de_length) sz) := by
  refine xmet_z rfl (Nat.le_of_ble_eq_true rfl) ?_
  intro p e s m below meth c A ls Q hx hb hml hts hown hK hN hA hP hD hS hl hret
  replace hown : s.vm.findClass R_Gr = some m.cls := hown
  have hl : lv_has ls 3 [(0, .ref (ad 11)), (1, .int a1), (2, .int a2)] := hl
  rw [f_Gr_hasTarget] at hf
  obtain ⟨H, eH⟩ : ∃ H : Heap, H = s.heap := ⟨_, rfl⟩
  obtain ⟨locs, eL⟩ : ∃ L : List Loc, L = [] := ⟨_, rfl⟩
  have hP : va_P (dC, dI) classes (wX ty ad co_rows co_marks co_rowSets co_partners co_open co_count tr_kinds tr_lefts tr_rights tr_seconds tr_size gr_kinds gr_nodes gr_rowSets gr_firstStates gr_targetCounts gr_targets gr_stepScores gr_letterScores gr_size tx_letters tx_length va_scores va_knownEnds hi_begins hi_lengths hi_scores hi_taken hi_count de_states de_begins de_lengths de_length) H := by rw [eH]; exact hP
  have hS : va_S A s.heap H locs := by rw [eH, eL]; exact hS
  rw [← eL]
  suffices hgoal : W p l e rm_Gr_hasTarget s m (List.toArray [.ref (ad 11), .int a1, .int a2]) below meth c H locs 0 0 Q (F0 m 0 ls []) by rw [eH] at hgoal; exact hgoal
  clear eH eL
  refine lv_aload_n hx hb d_Gr_hasTarget_0 rfl (lv_at hl 0 rfl) ?_
  refine lv_iload_n hx hb d_Gr_hasTarget_1 rfl (lv_at hl 1 rfl) ?_
  obtain ⟨r1, hc2, hf⟩ := ob1_inv hf
  refine xk_i (xrunV (C := R_Gr) (As := [.int a1]) (rest := []) ⟨hx, hb, hml, hown, hts⟩ (c_Gr_hasState l dC dI ty ad ta H.size co_rows co_marks co_rowSets co_partners co_open co_count tr_kinds tr_lefts tr_rights tr_seconds tr_size gr_kinds gr_nodes gr_rowSets gr_firstStates gr_targetCounts gr_targets gr_stepScores gr_letterScores gr_size tx_letters tx_length va_scores va_knownEnds hi_begins hi_lengths hi_scores hi_taken hi_count de_states de_begins de_lengths de_length a1 r1 hc2) z_Gr_48 ⟨⟨rfl, rfl⟩, by decide, by decide⟩ hK hP hD hN hS hA (va_recv hK hP (ci := 3) (q0 := 11) rfl rfl) rfl hl.1 rfl (Nat.le_of_ble_eq_true rfl) d_Gr_hasTarget_2 ⟨Nat.zero_le _, Nat.zero_le _⟩) hS hD rfl hA (fun H locs hP hD hS => ?_)
  refine W.eq (g2 := F0 m 5 ls [.int r1]) rfl ?_
  refine lv_if_eq (tgt := 26) hx hb d_Gr_hasTarget_5 (by decide) (fun c3 => ?_) (fun c3 => ?_)
  · have hf := xif_t c3 hf
    refine lv_iconst (v := 0) hx hb d_Gr_hasTarget_26 (by decide) ?_
    obtain rfl := os1 hf
    exact hret H locs _ _ _ d_Gr_hasTarget_27 rfl rfl hP hS
  · have hf := xif_f c3 hf
    refine lv_iload_n hx hb d_Gr_hasTarget_8 rfl (lv_at hl 2 rfl) ?_
    refine lv_if_lt (tgt := 26) hx hb d_Gr_hasTarget_9 (by decide) (fun c4 => ?_) (fun c4 => ?_)
    · have hf := xif_t c4 hf
      refine lv_iconst (v := 0) hx hb d_Gr_hasTarget_26 (by decide) ?_
      obtain rfl := os1 hf
      exact hret H locs _ _ _ d_Gr_hasTarget_27 rfl rfl hP hS
    · have hf := xif_f c4 hf
      refine lv_iload_n hx hb d_Gr_hasTarget_12 rfl (lv_at hl 2 rfl) ?_
      refine lv_aload_n hx hb d_Gr_hasTarget_13 rfl (lv_at hl 0 rfl) ?_
      refine va_get (D := (dC, dI)) (ci := 3) (v := .ref (ad 16)) (C := R_Gr) (T := F_Gr) (N := 11) hx hb hts iw_Gr hown hK hP 11 rfl rfl 6 (by decide) (hts _ m_138) (fun _ h9 => h9) rfl d_Gr_hasTarget_14 ?_
      refine lv_iload_n hx hb d_Gr_hasTarget_17 rfl (lv_at hl 1 rfl) ?_
      obtain ⟨hi5, hf⟩ := gdi hf
      refine va_iald hx hb hK hP 16 0 rfl rfl hi5 d_Gr_hasTarget_18 ?_
      refine lv_icmp_ge (tgt := 26) hx hb d_Gr_hasTarget_19 (by decide) (fun c6 => ?_) (fun c6 => ?_)
      · have hf := xif_t c6 hf
        refine lv_iconst (v := 0) hx hb d_Gr_hasTarget_26 (by decide) ?_
        obtain rfl := os1 hf
        exact hret H locs _ _ _ d_Gr_hasTarget_27 rfl rfl hP hS
      · have hf := xif_f c6 hf
        refine lv_iconst (v := 1) hx hb d_Gr_hasTarget_22 (by decide) ?_
        refine lv_goto (tgt := 27) hx hb d_Gr_hasTarget_23 (by decide) ?_
        obtain rfl := os1 hf
        exact hret H locs _ _ _ d_Gr_hasTarget_27 rfl rfl hP hS
def f_Fa_target (gr_targetCounts : (Nat → Int32)) (gr_targets : (Nat → Int32)) (gr_size : Int32) (a1 : Int32) (a2 : Int32) : Option (Int32) := ob1 (f_Gr_hasTarget gr_targetCounts gr_size a1 a2) (fun r1 => if r1 = (0 : Int32) then (some ((-1000000 : Int32))) else (ob1 (f_Gr_targetOf gr_targets a1 a2) (fun r4 => some (r4))))
set_option maxHeartbeats 4000000 in
set_option maxRecDepth 100000 in
theorem c_Fa_target (l : Launch) (dC : Nat → ClassId) (dI : Nat → Nat → Nat) (ty : Nat → ClassId) (ad : Nat → Nat) (ta : Nat → Nat) (sz : Nat) (co_rows : Int32) (co_marks : (Nat → Int32)) (co_rowSets : (Nat → Int32)) (co_partners : (Nat → Int32)) (co_open : (Nat → Int32)) (co_count : Int32) (tr_kinds : (Nat → Int32)) (tr_lefts : (Nat → Int32)) (tr_rights : (Nat → Int32)) (tr_seconds : (Nat → Int32)) (tr_size : Int32) (gr_kinds : (Nat → Int32)) (gr_nodes : (Nat → Int32)) (gr_rowSets : (Nat → Int32)) (gr_firstStates : (Nat → Int32)) (gr_targetCounts : (Nat → Int32)) (gr_targets : (Nat → Int32)) (gr_stepScores : (Nat → Int32)) (gr_letterScores : (Nat → Int32)) (gr_size : Int32) (tx_letters : (Nat → Int32)) (tx_length : Int32) (va_scores : (Nat → Int32)) (va_knownEnds : Int32) (hi_begins : (Nat → Int32)) (hi_lengths : (Nat → Int32)) (hi_scores : (Nat → Int32)) (hi_taken : (Nat → Int32)) (hi_count : Int32) (de_states : (Nat → Int32)) (de_begins : (Nat → Int32)) (de_lengths : (Nat → Int32)) (de_length : Int32) (a1 : Int32) (a2 : Int32) (r0 : Int32) (hf : f_Fa_target gr_targetCounts gr_targets gr_size a1 a2 = some (r0)) : Met l y_Fa_target (.code y_Fa_target prog_1_method_7_code 3 (some .int) :: gw) rm_Fa_target (xPre ta (dC, dI) classes (tys3 ty) (wX ty ad co_rows co_marks co_rowSets co_partners co_open co_count tr_kinds tr_lefts tr_rights tr_seconds tr_size gr_kinds gr_nodes gr_rowSets gr_firstStates gr_targetCounts gr_targets gr_stepScores gr_letterScores gr_size tx_letters tx_length va_scores va_knownEnds hi_begins hi_lengths hi_scores hi_taken hi_count de_states de_begins de_lengths de_length) sz [.ref (ad 0), .int a1, .int a2]) (xQi (dC, dI) classes (wX ty ad co_rows co_marks co_rowSets co_partners co_open co_count tr_kinds tr_lefts tr_rights tr_seconds tr_size gr_kinds gr_nodes gr_rowSets gr_firstStates gr_targetCounts gr_targets gr_stepScores gr_letterScores gr_size tx_letters tx_length va_scores va_knownEnds hi_begins hi_lengths hi_scores hi_taken hi_count de_states de_begins de_lengths de_length) (wX ty ad co_rows co_marks co_rowSets co_partners co_open co_count tr_kinds tr_lefts tr_rights tr_seconds tr_size gr_kinds gr_nodes gr_rowSets gr_firstStates gr_targetCounts gr_targets gr_stepScores gr_letterScores gr_size tx_letters tx_length va_scores va_knownEnds hi_begins hi_lengths hi_scores hi_taken hi_count de_states de_begins de_lengths de_length) sz r0) 0 0 (va_A (wX ty ad co_rows co_marks co_rowSets co_partners co_open co_count tr_kinds tr_lefts tr_rights tr_seconds tr_size gr_kinds gr_nodes gr_rowSets gr_firstStates gr_targetCounts gr_targets gr_stepScores gr_letterScores gr_size tx_letters tx_length va_scores va_knownEnds hi_begins hi_lengths hi_scores hi_taken hi_count de_states de_begins de_lengths de_length) sz) := by
  refine xmet_i rfl (Nat.le_of_ble_eq_true rfl) ?_
  intro p e s m below meth c A ls Q hx hb hml hts hown hK hN hA hP hD hS hl hret
  replace hown : s.vm.findClass R_Fa = some m.cls := hown
  have hl : lv_has ls 3 [(0, .ref (ad 0)), (1, .int a1), (2, .int a2)] := hl
  rw [f_Fa_target] at hf
  obtain ⟨H, eH⟩ : ∃ H : Heap, H = s.heap := ⟨_, rfl⟩
  obtain ⟨locs, eL⟩ : ∃ L : List Loc, L = [] := ⟨_, rfl⟩
  have hP : va_P (dC, dI) classes (wX ty ad co_rows co_marks co_rowSets co_partners co_open co_count tr_kinds tr_lefts tr_rights tr_seconds tr_size gr_kinds gr_nodes gr_rowSets gr_firstStates gr_targetCounts gr_targets gr_stepScores gr_letterScores gr_size tx_letters tx_length va_scores va_knownEnds hi_begins hi_lengths hi_scores hi_taken hi_count de_states de_begins de_lengths de_length) H := by rw [eH]; exact hP
  have hS : va_S A s.heap H locs := by rw [eH, eL]; exact hS
  rw [← eL]
  suffices hgoal : W p l e rm_Fa_target s m (List.toArray [.ref (ad 0), .int a1, .int a2]) below meth c H locs 0 0 Q (F0 m 0 ls []) by rw [eH] at hgoal; exact hgoal
  clear eH eL
  refine lv_aload_n hx hb d_Fa_target_0 rfl (lv_at hl 0 rfl) ?_
  refine va_get (D := (dC, dI)) (ci := 0) (v := .ref (ad 11)) (C := R_Fa) (T := F_Fa) (N := 7) hx hb hts iw_Fa hown hK hP 0 rfl rfl 2 (by decide) (hts _ m_242) (fun _ h9 => h9) rfl d_Fa_target_1 ?_
  refine lv_iload_n hx hb d_Fa_target_4 rfl (lv_at hl 1 rfl) ?_
  refine lv_iload_n hx hb d_Fa_target_5 rfl (lv_at hl 2 rfl) ?_
  obtain ⟨r1, hc2, hf⟩ := ob1_inv hf
  refine xk_i (xrunV (C := R_Gr) (As := [.int a1, .int a2]) (rest := []) ⟨hx, hb, hml, hown, hts⟩ (c_Gr_hasTarget l dC dI ty ad ta H.size co_rows co_marks co_rowSets co_partners co_open co_count tr_kinds tr_lefts tr_rights tr_seconds tr_size gr_kinds gr_nodes gr_rowSets gr_firstStates gr_targetCounts gr_targets gr_stepScores gr_letterScores gr_size tx_letters tx_length va_scores va_knownEnds hi_begins hi_lengths hi_scores hi_taken hi_count de_states de_begins de_lengths de_length a1 a2 r1 hc2) z_Fa_122 ⟨⟨rfl, rfl⟩, by decide, by decide⟩ hK hP hD hN hS hA (va_recv hK hP (ci := 3) (q0 := 11) rfl rfl) rfl hl.1 rfl (Nat.le_of_ble_eq_true rfl) d_Fa_target_6 ⟨Nat.zero_le _, Nat.zero_le _⟩) hS hD rfl hA (fun H locs hP hD hS => ?_)
  refine W.eq (g2 := F0 m 9 ls [.int r1]) rfl ?_
  refine lv_if_eq (tgt := 24) hx hb d_Fa_target_9 (by decide) (fun c3 => ?_) (fun c3 => ?_)
  · have hf := xif_t c3 hf
    refine lv_ldc (v := -1000000) hx hb hown (hts _ m_308) d_Fa_target_24 ?_
    obtain rfl := os1 hf
    exact hret H locs _ _ _ d_Fa_target_26 rfl hP hS
  · have hf := xif_f c3 hf
    refine lv_aload_n hx hb d_Fa_target_12 rfl (lv_at hl 0 rfl) ?_
    refine va_get (D := (dC, dI)) (ci := 0) (v := .ref (ad 11)) (C := R_Fa) (T := F_Fa) (N := 7) hx hb hts iw_Fa hown hK hP 0 rfl rfl 2 (by decide) (hts _ m_242) (fun _ h9 => h9) rfl d_Fa_target_13 ?_
    refine lv_iload_n hx hb d_Fa_target_16 rfl (lv_at hl 1 rfl) ?_
    refine lv_iload_n hx hb d_Fa_target_17 rfl (lv_at hl 2 rfl) ?_
    obtain ⟨r4, hc5, hf⟩ := ob1_inv hf
    refine xk_i (xrunV (C := R_Gr) (As := [.int a1, .int a2]) (rest := []) ⟨hx, hb, hml, hown, hts⟩ (c_Gr_targetOf l dC dI ty ad ta H.size co_rows co_marks co_rowSets co_partners co_open co_count tr_kinds tr_lefts tr_rights tr_seconds tr_size gr_kinds gr_nodes gr_rowSets gr_firstStates gr_targetCounts gr_targets gr_stepScores gr_letterScores gr_size tx_letters tx_length va_scores va_knownEnds hi_begins hi_lengths hi_scores hi_taken hi_count de_states de_begins de_lengths de_length a1 a2 r4 hc5) z_Fa_126 ⟨⟨rfl, rfl⟩, by decide, by decide⟩ hK hP hD hN hS hA (va_recv hK hP (ci := 3) (q0 := 11) rfl rfl) rfl hl.1 rfl (Nat.le_of_ble_eq_true rfl) d_Fa_target_18 ⟨Nat.zero_le _, Nat.zero_le _⟩) hS hD rfl hA (fun H locs hP hD hS => ?_)
    refine W.eq (g2 := F0 m 21 ls [.int r4]) rfl ?_
    refine lv_goto (tgt := 26) hx hb d_Fa_target_21 (by decide) ?_
    obtain rfl := os1 hf
    exact hret H locs _ _ _ d_Fa_target_26 rfl hP hS
def f_Gr_stepScore (gr_stepScores : (Nat → Int32)) (a1 : Int32) (a2 : Int32) : Option (Int32) := gd (xin ((a1 * (6 : Int32)) + a2) 258) (some ((gr_stepScores (Int32.toNatClampNeg ((a1 * (6 : Int32)) + a2)))))
set_option maxHeartbeats 4000000 in
set_option maxRecDepth 100000 in
theorem c_Gr_stepScore (l : Launch) (dC : Nat → ClassId) (dI : Nat → Nat → Nat) (ty : Nat → ClassId) (ad : Nat → Nat) (ta : Nat → Nat) (sz : Nat) (co_rows : Int32) (co_marks : (Nat → Int32)) (co_rowSets : (Nat → Int32)) (co_partners : (Nat → Int32)) (co_open : (Nat → Int32)) (co_count : Int32) (tr_kinds : (Nat → Int32)) (tr_lefts : (Nat → Int32)) (tr_rights : (Nat → Int32)) (tr_seconds : (Nat → Int32)) (tr_size : Int32) (gr_kinds : (Nat → Int32)) (gr_nodes : (Nat → Int32)) (gr_rowSets : (Nat → Int32)) (gr_firstStates : (Nat → Int32)) (gr_targetCounts : (Nat → Int32)) (gr_targets : (Nat → Int32)) (gr_stepScores : (Nat → Int32)) (gr_letterScores : (Nat → Int32)) (gr_size : Int32) (tx_letters : (Nat → Int32)) (tx_length : Int32) (va_scores : (Nat → Int32)) (va_knownEnds : Int32) (hi_begins : (Nat → Int32)) (hi_lengths : (Nat → Int32)) (hi_scores : (Nat → Int32)) (hi_taken : (Nat → Int32)) (hi_count : Int32) (de_states : (Nat → Int32)) (de_begins : (Nat → Int32)) (de_lengths : (Nat → Int32)) (de_length : Int32) (a1 : Int32) (a2 : Int32) (r0 : Int32) (hf : f_Gr_stepScore gr_stepScores a1 a2 = some (r0)) : Met l y_Gr_stepScore (.code y_Gr_stepScore prog_4_method_10_code 3 (some .int) :: gw) rm_Gr_stepScore (xPre ta (dC, dI) classes (tys3 ty) (wX ty ad co_rows co_marks co_rowSets co_partners co_open co_count tr_kinds tr_lefts tr_rights tr_seconds tr_size gr_kinds gr_nodes gr_rowSets gr_firstStates gr_targetCounts gr_targets gr_stepScores gr_letterScores gr_size tx_letters tx_length va_scores va_knownEnds hi_begins hi_lengths hi_scores hi_taken hi_count de_states de_begins de_lengths de_length) sz [.ref (ad 11), .int a1, .int a2]) (xQi (dC, dI) classes (wX ty ad co_rows co_marks co_rowSets co_partners co_open co_count tr_kinds tr_lefts tr_rights tr_seconds tr_size gr_kinds gr_nodes gr_rowSets gr_firstStates gr_targetCounts gr_targets gr_stepScores gr_letterScores gr_size tx_letters tx_length va_scores va_knownEnds hi_begins hi_lengths hi_scores hi_taken hi_count de_states de_begins de_lengths de_length) (wX ty ad co_rows co_marks co_rowSets co_partners co_open co_count tr_kinds tr_lefts tr_rights tr_seconds tr_size gr_kinds gr_nodes gr_rowSets gr_firstStates gr_targetCounts gr_targets gr_stepScores gr_letterScores gr_size tx_letters tx_length va_scores va_knownEnds hi_begins hi_lengths hi_scores hi_taken hi_count de_states de_begins de_lengths de_length) sz r0) 0 0 (va_A (wX ty ad co_rows co_marks co_rowSets co_partners co_open co_count tr_kinds tr_lefts tr_rights tr_seconds tr_size gr_kinds gr_nodes gr_rowSets gr_firstStates gr_targetCounts gr_targets gr_stepScores gr_letterScores gr_size tx_letters tx_length va_scores va_knownEnds hi_begins hi_lengths hi_scores hi_taken hi_count de_states de_begins de_lengths de_length) sz) := by
  refine xmet_i rfl (Nat.le_of_ble_eq_true rfl) ?_
  intro p e s m below meth c A ls Q hx hb hml hts hown hK hN hA hP hD hS hl hret
  replace hown : s.vm.findClass R_Gr = some m.cls := hown
  have hl : lv_has ls 3 [(0, .ref (ad 11)), (1, .int a1), (2, .int a2)] := hl
  rw [f_Gr_stepScore] at hf
  obtain ⟨H, eH⟩ : ∃ H : Heap, H = s.heap := ⟨_, rfl⟩
  obtain ⟨locs, eL⟩ : ∃ L : List Loc, L = [] := ⟨_, rfl⟩
  have hP : va_P (dC, dI) classes (wX ty ad co_rows co_marks co_rowSets co_partners co_open co_count tr_kinds tr_lefts tr_rights tr_seconds tr_size gr_kinds gr_nodes gr_rowSets gr_firstStates gr_targetCounts gr_targets gr_stepScores gr_letterScores gr_size tx_letters tx_length va_scores va_knownEnds hi_begins hi_lengths hi_scores hi_taken hi_count de_states de_begins de_lengths de_length) H := by rw [eH]; exact hP
  have hS : va_S A s.heap H locs := by rw [eH, eL]; exact hS
  rw [← eL]
  suffices hgoal : W p l e rm_Gr_stepScore s m (List.toArray [.ref (ad 11), .int a1, .int a2]) below meth c H locs 0 0 Q (F0 m 0 ls []) by rw [eH] at hgoal; exact hgoal
  clear eH eL
  refine lv_aload_n hx hb d_Gr_stepScore_0 rfl (lv_at hl 0 rfl) ?_
  refine va_get (D := (dC, dI)) (ci := 3) (v := .ref (ad 18)) (C := R_Gr) (T := F_Gr) (N := 11) hx hb hts iw_Gr hown hK hP 11 rfl rfl 8 (by decide) (hts _ m_140) (fun _ h9 => h9) rfl d_Gr_stepScore_1 ?_
  refine lv_iload_n hx hb d_Gr_stepScore_4 rfl (lv_at hl 1 rfl) ?_
  refine lv_bipush (v := 6) hx hb d_Gr_stepScore_5 (by decide) ?_
  refine lv_imul hx hb d_Gr_stepScore_7 ?_
  refine lv_iload_n hx hb d_Gr_stepScore_8 rfl (lv_at hl 2 rfl) ?_
  refine lv_iadd hx hb d_Gr_stepScore_9 ?_
  obtain ⟨hi1, hf⟩ := gdi hf
  refine va_iald hx hb hK hP 18 0 rfl rfl hi1 d_Gr_stepScore_10 ?_
  obtain rfl := os1 hf
  exact hret H locs _ _ _ d_Gr_stepScore_11 rfl hP hS
def f_Fa_step (gr_targetCounts : (Nat → Int32)) (gr_stepScores : (Nat → Int32)) (gr_size : Int32) (a1 : Int32) (a2 : Int32) : Option (Int32) := ob1 (f_Gr_hasTarget gr_targetCounts gr_size a1 a2) (fun r1 => if r1 = (0 : Int32) then (some ((-1000000 : Int32))) else (ob1 (f_Gr_stepScore gr_stepScores a1 a2) (fun r4 => some (r4))))
set_option maxHeartbeats 4000000 in
set_option maxRecDepth 100000 in
theorem c_Fa_step (l : Launch) (dC : Nat → ClassId) (dI : Nat → Nat → Nat) (ty : Nat → ClassId) (ad : Nat → Nat) (ta : Nat → Nat) (sz : Nat) (co_rows : Int32) (co_marks : (Nat → Int32)) (co_rowSets : (Nat → Int32)) (co_partners : (Nat → Int32)) (co_open : (Nat → Int32)) (co_count : Int32) (tr_kinds : (Nat → Int32)) (tr_lefts : (Nat → Int32)) (tr_rights : (Nat → Int32)) (tr_seconds : (Nat → Int32)) (tr_size : Int32) (gr_kinds : (Nat → Int32)) (gr_nodes : (Nat → Int32)) (gr_rowSets : (Nat → Int32)) (gr_firstStates : (Nat → Int32)) (gr_targetCounts : (Nat → Int32)) (gr_targets : (Nat → Int32)) (gr_stepScores : (Nat → Int32)) (gr_letterScores : (Nat → Int32)) (gr_size : Int32) (tx_letters : (Nat → Int32)) (tx_length : Int32) (va_scores : (Nat → Int32)) (va_knownEnds : Int32) (hi_begins : (Nat → Int32)) (hi_lengths : (Nat → Int32)) (hi_scores : (Nat → Int32)) (hi_taken : (Nat → Int32)) (hi_count : Int32) (de_states : (Nat → Int32)) (de_begins : (Nat → Int32)) (de_lengths : (Nat → Int32)) (de_length : Int32) (a1 : Int32) (a2 : Int32) (r0 : Int32) (hf : f_Fa_step gr_targetCounts gr_stepScores gr_size a1 a2 = some (r0)) : Met l y_Fa_step (.code y_Fa_step prog_1_method_8_code 3 (some .int) :: gw) rm_Fa_step (xPre ta (dC, dI) classes (tys3 ty) (wX ty ad co_rows co_marks co_rowSets co_partners co_open co_count tr_kinds tr_lefts tr_rights tr_seconds tr_size gr_kinds gr_nodes gr_rowSets gr_firstStates gr_targetCounts gr_targets gr_stepScores gr_letterScores gr_size tx_letters tx_length va_scores va_knownEnds hi_begins hi_lengths hi_scores hi_taken hi_count de_states de_begins de_lengths de_length) sz [.ref (ad 0), .int a1, .int a2]) (xQi (dC, dI) classes (wX ty ad co_rows co_marks co_rowSets co_partners co_open co_count tr_kinds tr_lefts tr_rights tr_seconds tr_size gr_kinds gr_nodes gr_rowSets gr_firstStates gr_targetCounts gr_targets gr_stepScores gr_letterScores gr_size tx_letters tx_length va_scores va_knownEnds hi_begins hi_lengths hi_scores hi_taken hi_count de_states de_begins de_lengths de_length) (wX ty ad co_rows co_marks co_rowSets co_partners co_open co_count tr_kinds tr_lefts tr_rights tr_seconds tr_size gr_kinds gr_nodes gr_rowSets gr_firstStates gr_targetCounts gr_targets gr_stepScores gr_letterScores gr_size tx_letters tx_length va_scores va_knownEnds hi_begins hi_lengths hi_scores hi_taken hi_count de_states de_begins de_lengths de_length) sz r0) 0 0 (va_A (wX ty ad co_rows co_marks co_rowSets co_partners co_open co_count tr_kinds tr_lefts tr_rights tr_seconds tr_size gr_kinds gr_nodes gr_rowSets gr_firstStates gr_targetCounts gr_targets gr_stepScores gr_letterScores gr_size tx_letters tx_length va_scores va_knownEnds hi_begins hi_lengths hi_scores hi_taken hi_count de_states de_begins de_lengths de_length) sz) := by
  refine xmet_i rfl (Nat.le_of_ble_eq_true rfl) ?_
  intro p e s m below meth c A ls Q hx hb hml hts hown hK hN hA hP hD hS hl hret
  replace hown : s.vm.findClass R_Fa = some m.cls := hown
  have hl : lv_has ls 3 [(0, .ref (ad 0)), (1, .int a1), (2, .int a2)] := hl
  rw [f_Fa_step] at hf
  obtain ⟨H, eH⟩ : ∃ H : Heap, H = s.heap := ⟨_, rfl⟩
  obtain ⟨locs, eL⟩ : ∃ L : List Loc, L = [] := ⟨_, rfl⟩
  have hP : va_P (dC, dI) classes (wX ty ad co_rows co_marks co_rowSets co_partners co_open co_count tr_kinds tr_lefts tr_rights tr_seconds tr_size gr_kinds gr_nodes gr_rowSets gr_firstStates gr_targetCounts gr_targets gr_stepScores gr_letterScores gr_size tx_letters tx_length va_scores va_knownEnds hi_begins hi_lengths hi_scores hi_taken hi_count de_states de_begins de_lengths de_length) H := by rw [eH]; exact hP
  have hS : va_S A s.heap H locs := by rw [eH, eL]; exact hS
  rw [← eL]
  suffices hgoal : W p l e rm_Fa_step s m (List.toArray [.ref (ad 0), .int a1, .int a2]) below meth c H locs 0 0 Q (F0 m 0 ls []) by rw [eH] at hgoal; exact hgoal
  clear eH eL
  refine lv_aload_n hx hb d_Fa_step_0 rfl (lv_at hl 0 rfl) ?_
  refine va_get (D := (dC, dI)) (ci := 0) (v := .ref (ad 11)) (C := R_Fa) (T := F_Fa) (N := 7) hx hb hts iw_Fa hown hK hP 0 rfl rfl 2 (by decide) (hts _ m_242) (fun _ h9 => h9) rfl d_Fa_step_1 ?_
  refine lv_iload_n hx hb d_Fa_step_4 rfl (lv_at hl 1 rfl) ?_
  refine lv_iload_n hx hb d_Fa_step_5 rfl (lv_at hl 2 rfl) ?_
  obtain ⟨r1, hc2, hf⟩ := ob1_inv hf
  refine xk_i (xrunV (C := R_Gr) (As := [.int a1, .int a2]) (rest := []) ⟨hx, hb, hml, hown, hts⟩ (c_Gr_hasTarget l dC dI ty ad ta H.size co_rows co_marks co_rowSets co_partners co_open co_count tr_kinds tr_lefts tr_rights tr_seconds tr_size gr_kinds gr_nodes gr_rowSets gr_firstStates gr_targetCounts gr_targets gr_stepScores gr_letterScores gr_size tx_letters tx_length va_scores va_knownEnds hi_begins hi_lengths hi_scores hi_taken hi_count de_states de_begins de_lengths de_length a1 a2 r1 hc2) z_Fa_122 ⟨⟨rfl, rfl⟩, by decide, by decide⟩ hK hP hD hN hS hA (va_recv hK hP (ci := 3) (q0 := 11) rfl rfl) rfl hl.1 rfl (Nat.le_of_ble_eq_true rfl) d_Fa_step_6 ⟨Nat.zero_le _, Nat.zero_le _⟩) hS hD rfl hA (fun H locs hP hD hS => ?_)
  refine W.eq (g2 := F0 m 9 ls [.int r1]) rfl ?_
  refine lv_if_eq (tgt := 24) hx hb d_Fa_step_9 (by decide) (fun c3 => ?_) (fun c3 => ?_)
  · have hf := xif_t c3 hf
    refine lv_ldc (v := -1000000) hx hb hown (hts _ m_308) d_Fa_step_24 ?_
    obtain rfl := os1 hf
    exact hret H locs _ _ _ d_Fa_step_26 rfl hP hS
  · have hf := xif_f c3 hf
    refine lv_aload_n hx hb d_Fa_step_12 rfl (lv_at hl 0 rfl) ?_
    refine va_get (D := (dC, dI)) (ci := 0) (v := .ref (ad 11)) (C := R_Fa) (T := F_Fa) (N := 7) hx hb hts iw_Fa hown hK hP 0 rfl rfl 2 (by decide) (hts _ m_242) (fun _ h9 => h9) rfl d_Fa_step_13 ?_
    refine lv_iload_n hx hb d_Fa_step_16 rfl (lv_at hl 1 rfl) ?_
    refine lv_iload_n hx hb d_Fa_step_17 rfl (lv_at hl 2 rfl) ?_
    obtain ⟨r4, hc5, hf⟩ := ob1_inv hf
    refine xk_i (xrunV (C := R_Gr) (As := [.int a1, .int a2]) (rest := []) ⟨hx, hb, hml, hown, hts⟩ (c_Gr_stepScore l dC dI ty ad ta H.size co_rows co_marks co_rowSets co_partners co_open co_count tr_kinds tr_lefts tr_rights tr_seconds tr_size gr_kinds gr_nodes gr_rowSets gr_firstStates gr_targetCounts gr_targets gr_stepScores gr_letterScores gr_size tx_letters tx_length va_scores va_knownEnds hi_begins hi_lengths hi_scores hi_taken hi_count de_states de_begins de_lengths de_length a1 a2 r4 hc5) z_Fa_129 ⟨⟨rfl, rfl⟩, by decide, by decide⟩ hK hP hD hN hS hA (va_recv hK hP (ci := 3) (q0 := 11) rfl rfl) rfl hl.1 rfl (Nat.le_of_ble_eq_true rfl) d_Fa_step_18 ⟨Nat.zero_le _, Nat.zero_le _⟩) hS hD rfl hA (fun H locs hP hD hS => ?_)
    refine W.eq (g2 := F0 m 21 ls [.int r4]) rfl ?_
    refine lv_goto (tgt := 26) hx hb d_Fa_step_21 (by decide) ?_
    obtain rfl := os1 hf
    exact hret H locs _ _ _ d_Fa_step_26 rfl hP hS
def f_Gr_letterScore (gr_letterScores : (Nat → Int32)) (a1 : Int32) (a2 : Int32) (a3 : Int32) : Option (Int32) := gd (xin (((a1 * (16 : Int32)) + (a2 * (4 : Int32))) + a3) 688) (some ((gr_letterScores (Int32.toNatClampNeg (((a1 * (16 : Int32)) + (a2 * (4 : Int32))) + a3)))))
set_option maxHeartbeats 4000000 in
set_option maxRecDepth 100000 in
theorem c_Gr_letterScore (l : Launch) (dC : Nat → ClassId) (dI : Nat → Nat → Nat) (ty : Nat → ClassId) (ad : Nat → Nat) (ta : Nat → Nat) (sz : Nat) (co_rows : Int32) (co_marks : (Nat → Int32)) (co_rowSets : (Nat → Int32)) (co_partners : (Nat → Int32)) (co_open : (Nat → Int32)) (co_count : Int32) (tr_kinds : (Nat → Int32)) (tr_lefts : (Nat → Int32)) (tr_rights : (Nat → Int32)) (tr_seconds : (Nat → Int32)) (tr_size : Int32) (gr_kinds : (Nat → Int32)) (gr_nodes : (Nat → Int32)) (gr_rowSets : (Nat → Int32)) (gr_firstStates : (Nat → Int32)) (gr_targetCounts : (Nat → Int32)) (gr_targets : (Nat → Int32)) (gr_stepScores : (Nat → Int32)) (gr_letterScores : (Nat → Int32)) (gr_size : Int32) (tx_letters : (Nat → Int32)) (tx_length : Int32) (va_scores : (Nat → Int32)) (va_knownEnds : Int32) (hi_begins : (Nat → Int32)) (hi_lengths : (Nat → Int32)) (hi_scores : (Nat → Int32)) (hi_taken : (Nat → Int32)) (hi_count : Int32) (de_states : (Nat → Int32)) (de_begins : (Nat → Int32)) (de_lengths : (Nat → Int32)) (de_length : Int32) (a1 : Int32) (a2 : Int32) (a3 : Int32) (r0 : Int32) (hf : f_Gr_letterScore gr_letterScores a1 a2 a3 = some (r0)) : Met l y_Gr_letterScore (.code y_Gr_letterScore prog_4_method_11_code 4 (some .int) :: gw) rm_Gr_letterScore (xPre ta (dC, dI) classes (tys3 ty) (wX ty ad co_rows co_marks co_rowSets co_partners co_open co_count tr_kinds tr_lefts tr_rights tr_seconds tr_size gr_kinds gr_nodes gr_rowSets gr_firstStates gr_targetCounts gr_targets gr_stepScores gr_letterScores gr_size tx_letters tx_length va_scores va_knownEnds hi_begins hi_lengths hi_scores hi_taken hi_count de_states de_begins de_lengths de_length) sz [.ref (ad 11), .int a1, .int a2, .int a3]) (xQi (dC, dI) classes (wX ty ad co_rows co_marks co_rowSets co_partners co_open co_count tr_kinds tr_lefts tr_rights tr_seconds tr_size gr_kinds gr_nodes gr_rowSets gr_firstStates gr_targetCounts gr_targets gr_stepScores gr_letterScores gr_size tx_letters tx_length va_scores va_knownEnds hi_begins hi_lengths hi_scores hi_taken hi_count de_states de_begins de_lengths de_length) (wX ty ad co_rows co_marks co_rowSets co_partners co_open co_count tr_kinds tr_lefts tr_rights tr_seconds tr_size gr_kinds gr_nodes gr_rowSets gr_firstStates gr_targetCounts gr_targets gr_stepScores gr_letterScores gr_size tx_letters tx_length va_scores va_knownEnds hi_begins hi_lengths hi_scores hi_taken hi_count de_states de_begins de_lengths de_length) sz r0) 0 0 (va_A (wX ty ad co_rows co_marks co_rowSets co_partners co_open co_count tr_kinds tr_lefts tr_rights tr_seconds tr_size gr_kinds gr_nodes gr_rowSets gr_firstStates gr_targetCounts gr_targets gr_stepScores gr_letterScores gr_size tx_letters tx_length va_scores va_knownEnds hi_begins hi_lengths hi_scores hi_taken hi_count de_states de_begins de_lengths de_length) sz) := by
  refine xmet_i rfl (Nat.le_of_ble_eq_true rfl) ?_
  intro p e s m below meth c A ls Q hx hb hml hts hown hK hN hA hP hD hS hl hret
  replace hown : s.vm.findClass R_Gr = some m.cls := hown
  have hl : lv_has ls 4 [(0, .ref (ad 11)), (1, .int a1), (2, .int a2), (3, .int a3)] := hl
  rw [f_Gr_letterScore] at hf
  obtain ⟨H, eH⟩ : ∃ H : Heap, H = s.heap := ⟨_, rfl⟩
  obtain ⟨locs, eL⟩ : ∃ L : List Loc, L = [] := ⟨_, rfl⟩
  have hP : va_P (dC, dI) classes (wX ty ad co_rows co_marks co_rowSets co_partners co_open co_count tr_kinds tr_lefts tr_rights tr_seconds tr_size gr_kinds gr_nodes gr_rowSets gr_firstStates gr_targetCounts gr_targets gr_stepScores gr_letterScores gr_size tx_letters tx_length va_scores va_knownEnds hi_begins hi_lengths hi_scores hi_taken hi_count de_states de_begins de_lengths de_length) H := by rw [eH]; exact hP
  have hS : va_S A s.heap H locs := by rw [eH, eL]; exact hS
  rw [← eL]
  suffices hgoal : W p l e rm_Gr_letterScore s m (List.toArray [.ref (ad 11), .int a1, .int a2, .int a3]) below meth c H locs 0 0 Q (F0 m 0 ls []) by rw [eH] at hgoal; exact hgoal
  clear eH eL
  refine lv_aload_n hx hb d_Gr_letterScore_0 rfl (lv_at hl 0 rfl) ?_
  refine va_get (D := (dC, dI)) (ci := 3) (v := .ref (ad 19)) (C := R_Gr) (T := F_Gr) (N := 11) hx hb hts iw_Gr hown hK hP 11 rfl rfl 9 (by decide) (hts _ m_141) (fun _ h9 => h9) rfl d_Gr_letterScore_1 ?_
  refine lv_iload_n hx hb d_Gr_letterScore_4 rfl (lv_at hl 1 rfl) ?_
  refine lv_bipush (v := 16) hx hb d_Gr_letterScore_5 (by decide) ?_
  refine lv_imul hx hb d_Gr_letterScore_7 ?_
  refine lv_iload_n hx hb d_Gr_letterScore_8 rfl (lv_at hl 2 rfl) ?_
  refine lv_iconst (v := 4) hx hb d_Gr_letterScore_9 (by decide) ?_
  refine lv_imul hx hb d_Gr_letterScore_10 ?_
  refine lv_iadd hx hb d_Gr_letterScore_11 ?_
  refine lv_iload_n hx hb d_Gr_letterScore_12 rfl (lv_at hl 3 rfl) ?_
  refine lv_iadd hx hb d_Gr_letterScore_13 ?_
  obtain ⟨hi1, hf⟩ := gdi hf
  refine va_iald hx hb hK hP 19 0 rfl rfl hi1 d_Gr_letterScore_14 ?_
  obtain rfl := os1 hf
  exact hret H locs _ _ _ d_Gr_letterScore_15 rfl hP hS
def f_Fa_emits (gr_kinds : (Nat → Int32)) (gr_letterScores : (Nat → Int32)) (gr_size : Int32) (a1 : Int32) (a2 : Int32) (a3 : Int32) : Option (Int32) := ob1 (f_Gr_hasState gr_size a1) (fun r1 => if r1 = (0 : Int32) then (some ((-1000000 : Int32))) else (ob1 (f_Fa_isLetter a2) (fun r4 => if r4 = (0 : Int32) then (some ((-1000000 : Int32))) else (ob1 (f_Gr_kindOf gr_kinds a1) (fun r7 => if r7 = (1 : Int32) then (ob1 (f_Fa_isLetter a3) (fun r15 => if r15 = (0 : Int32) then (some ((-1000000 : Int32))) else (ob1 (f_Gr_letterScore gr_letterScores a1 a2 a3) (fun r18 => some (r18))))) else (ob1 (f_Fa_lettersOf r7) (fun r10 => if r10 ≤ (0 : Int32) then (some ((-1000000 : Int32))) else (ob1 (f_Gr_letterScore gr_letterScores a1 a2 (0 : Int32)) (fun r13 => some (r13))))))))))
set_option maxHeartbeats 4000000 in
set_option maxRecDepth 100000 in
theorem c_Fa_emits (l : Launch) (dC : Nat → ClassId) (dI : Nat → Nat → Nat) (ty : Nat → ClassId) (ad : Nat → Nat) (ta : Nat → Nat) (sz : Nat) (co_rows : Int32) (co_marks : (Nat → Int32)) (co_rowSets : (Nat → Int32)) (co_partners : (Nat → Int32)) (co_open : (Nat → Int32)) (co_count : Int32) (tr_kinds : (Nat → Int32)) (tr_lefts : (Nat → Int32)) (tr_rights : (Nat → Int32)) (tr_seconds : (Nat → Int32)) (tr_size : Int32) (gr_kinds : (Nat → Int32)) (gr_nodes : (Nat → Int32)) (gr_rowSets : (Nat → Int32)) (gr_firstStates : (Nat → Int32)) (gr_targetCounts : (Nat → Int32)) (gr_targets : (Nat → Int32)) (gr_stepScores : (Nat → Int32)) (gr_letterScores : (Nat → Int32)) (gr_size : Int32) (tx_letters : (Nat → Int32)) (tx_length : Int32) (va_scores : (Nat → Int32)) (va_knownEnds : Int32) (hi_begins : (Nat → Int32)) (hi_lengths : (Nat → Int32)) (hi_scores : (Nat → Int32)) (hi_taken : (Nat → Int32)) (hi_count : Int32) (de_states : (Nat → Int32)) (de_begins : (Nat → Int32)) (de_lengths : (Nat → Int32)) (de_length : Int32) (a1 : Int32) (a2 : Int32) (a3 : Int32) (r0 : Int32) (hf : f_Fa_emits gr_kinds gr_letterScores gr_size a1 a2 a3 = some (r0)) : Met l y_Fa_emits (.code y_Fa_emits prog_1_method_9_code 5 (some .int) :: gw) rm_Fa_emits (xPre ta (dC, dI) classes (tys3 ty) (wX ty ad co_rows co_marks co_rowSets co_partners co_open co_count tr_kinds tr_lefts tr_rights tr_seconds tr_size gr_kinds gr_nodes gr_rowSets gr_firstStates gr_targetCounts gr_targets gr_stepScores gr_letterScores gr_size tx_letters tx_length va_scores va_knownEnds hi_begins hi_lengths hi_scores hi_taken hi_count de_states de_begins de_lengths de_length) sz [.ref (ad 0), .int a1, .int a2, .int a3]) (xQi (dC, dI) classes (wX ty ad co_rows co_marks co_rowSets co_partners co_open co_count tr_kinds tr_lefts tr_rights tr_seconds tr_size gr_kinds gr_nodes gr_rowSets gr_firstStates gr_targetCounts gr_targets gr_stepScores gr_letterScores gr_size tx_letters tx_length va_scores va_knownEnds hi_begins hi_lengths hi_scores hi_taken hi_count de_states de_begins de_lengths de_length) (wX ty ad co_rows co_marks co_rowSets co_partners co_open co_count tr_kinds tr_lefts tr_rights tr_seconds tr_size gr_kinds gr_nodes gr_rowSets gr_firstStates gr_targetCounts gr_targets gr_stepScores gr_letterScores gr_size tx_letters tx_length va_scores va_knownEnds hi_begins hi_lengths hi_scores hi_taken hi_count de_states de_begins de_lengths de_length) sz r0) 0 0 (va_A (wX ty ad co_rows co_marks co_rowSets co_partners co_open co_count tr_kinds tr_lefts tr_rights tr_seconds tr_size gr_kinds gr_nodes gr_rowSets gr_firstStates gr_targetCounts gr_targets gr_stepScores gr_letterScores gr_size tx_letters tx_length va_scores va_knownEnds hi_begins hi_lengths hi_scores hi_taken hi_count de_states de_begins de_lengths de_length) sz) := by
  refine xmet_i rfl (Nat.le_of_ble_eq_true rfl) ?_
  intro p e s m below meth c A ls Q hx hb hml hts hown hK hN hA hP hD hS hl hret
  replace hown : s.vm.findClass R_Fa = some m.cls := hown
  have hl : lv_has ls 5 [(0, .ref (ad 0)), (1, .int a1), (2, .int a2), (3, .int a3)] := hl
  rw [f_Fa_emits] at hf
  obtain ⟨H, eH⟩ : ∃ H : Heap, H = s.heap := ⟨_, rfl⟩
  obtain ⟨locs, eL⟩ : ∃ L : List Loc, L = [] := ⟨_, rfl⟩
  have hP : va_P (dC, dI) classes (wX ty ad co_rows co_marks co_rowSets co_partners co_open co_count tr_kinds tr_lefts tr_rights tr_seconds tr_size gr_kinds gr_nodes gr_rowSets gr_firstStates gr_targetCounts gr_targets gr_stepScores gr_letterScores gr_size tx_letters tx_length va_scores va_knownEnds hi_begins hi_lengths hi_scores hi_taken hi_count de_states de_begins de_lengths de_length) H := by rw [eH]; exact hP
  have hS : va_S A s.heap H locs := by rw [eH, eL]; exact hS
  rw [← eL]
  suffices hgoal : W p l e rm_Fa_emits s m (List.toArray [.ref (ad 0), .int a1, .int a2, .int a3]) below meth c H locs 0 0 Q (F0 m 0 ls []) by rw [eH] at hgoal; exact hgoal
  clear eH eL
  refine lv_aload_n hx hb d_Fa_emits_0 rfl (lv_at hl 0 rfl) ?_
  refine va_get (D := (dC, dI)) (ci := 0) (v := .ref (ad 11)) (C := R_Fa) (T := F_Fa) (N := 7) hx hb hts iw_Fa hown hK hP 0 rfl rfl 2 (by decide) (hts _ m_242) (fun _ h9 => h9) rfl d_Fa_emits_1 ?_
  refine lv_iload_n hx hb d_Fa_emits_4 rfl (lv_at hl 1 rfl) ?_
  obtain ⟨r1, hc2, hf⟩ := ob1_inv hf
  refine xk_i (xrunV (C := R_Gr) (As := [.int a1]) (rest := []) ⟨hx, hb, hml, hown, hts⟩ (c_Gr_hasState l dC dI ty ad ta H.size co_rows co_marks co_rowSets co_partners co_open co_count tr_kinds tr_lefts tr_rights tr_seconds tr_size gr_kinds gr_nodes gr_rowSets gr_firstStates gr_targetCounts gr_targets gr_stepScores gr_letterScores gr_size tx_letters tx_length va_scores va_knownEnds hi_begins hi_lengths hi_scores hi_taken hi_count de_states de_begins de_lengths de_length a1 r1 hc2) z_Fa_111 ⟨⟨rfl, rfl⟩, by decide, by decide⟩ hK hP hD hN hS hA (va_recv hK hP (ci := 3) (q0 := 11) rfl rfl) rfl hl.1 rfl (Nat.le_of_ble_eq_true rfl) d_Fa_emits_5 ⟨Nat.zero_le _, Nat.zero_le _⟩) hS hD rfl hA (fun H locs hP hD hS => ?_)
  refine W.eq (g2 := F0 m 8 ls [.int r1]) rfl ?_
  refine lv_if_eq (tgt := 18) hx hb d_Fa_emits_8 (by decide) (fun c3 => ?_) (fun c3 => ?_)
  · have hf := xif_t c3 hf
    refine lv_ldc (v := -1000000) hx hb hown (hts _ m_308) d_Fa_emits_18 ?_
    obtain rfl := os1 hf
    exact hret H locs _ _ _ d_Fa_emits_20 rfl hP hS
  · have hf := xif_f c3 hf
    refine lv_iload_n hx hb d_Fa_emits_11 rfl (lv_at hl 2 rfl) ?_
    obtain ⟨r4, hc5, hf⟩ := ob1_inv hf
    refine xk_i (xrunS (As := [.int a2]) (rest := []) ⟨hx, hb, hml, hown, hts⟩ (c_Fa_isLetter l dC dI ty ad ta H.size co_rows co_marks co_rowSets co_partners co_open co_count tr_kinds tr_lefts tr_rights tr_seconds tr_size gr_kinds gr_nodes gr_rowSets gr_firstStates gr_targetCounts gr_targets gr_stepScores gr_letterScores gr_size tx_letters tx_length va_scores va_knownEnds hi_begins hi_lengths hi_scores hi_taken hi_count de_states de_begins de_lengths de_length a2 r4 hc5) z_Fa_132 ⟨⟨rfl, rfl⟩, by decide, by decide⟩ hK hP hD hN hS hA rfl hl.1 rfl (Nat.le_of_ble_eq_true rfl) d_Fa_emits_12 ⟨Nat.zero_le _, Nat.zero_le _⟩) hS hD rfl hA (fun H locs hP hD hS => ?_)
    refine W.eq (g2 := F0 m 15 ls [.int r4]) rfl ?_
    refine lv_if_ne (tgt := 21) hx hb d_Fa_emits_15 (by decide) (fun c6 => ?_) (fun c6 => ?_)
    · have hf := xif_f c6 hf
      refine lv_aload_n hx hb d_Fa_emits_21 rfl (lv_at hl 0 rfl) ?_
      refine va_get (D := (dC, dI)) (ci := 0) (v := .ref (ad 11)) (C := R_Fa) (T := F_Fa) (N := 7) hx hb hts iw_Fa hown hK hP 0 rfl rfl 2 (by decide) (hts _ m_242) (fun _ h9 => h9) rfl d_Fa_emits_22 ?_
      refine lv_iload_n hx hb d_Fa_emits_25 rfl (lv_at hl 1 rfl) ?_
      obtain ⟨r7, hc8, hf⟩ := ob1_inv hf
      refine xk_i (xrunV (C := R_Gr) (As := [.int a1]) (rest := []) ⟨hx, hb, hml, hown, hts⟩ (c_Gr_kindOf l dC dI ty ad ta H.size co_rows co_marks co_rowSets co_partners co_open co_count tr_kinds tr_lefts tr_rights tr_seconds tr_size gr_kinds gr_nodes gr_rowSets gr_firstStates gr_targetCounts gr_targets gr_stepScores gr_letterScores gr_size tx_letters tx_length va_scores va_knownEnds hi_begins hi_lengths hi_scores hi_taken hi_count de_states de_begins de_lengths de_length a1 r7 hc8) z_Fa_115 ⟨⟨rfl, rfl⟩, by decide, by decide⟩ hK hP hD hN hS hA (va_recv hK hP (ci := 3) (q0 := 11) rfl rfl) rfl hl.1 rfl (Nat.le_of_ble_eq_true rfl) d_Fa_emits_26 ⟨Nat.zero_le _, Nat.zero_le _⟩) hS hD rfl hA (fun H locs hP hD hS => ?_)
      refine W.eq (g2 := F0 m 29 ls [.int r7]) rfl ?_
      refine lv_istore (lv' := [(4, .int r7), (0, .ref (ad 0)), (1, .int a1), (2, .int a2), (3, .int a3)]) hx hb d_Fa_emits_29 hl (by decide) rfl (fun ls hl => ?_)
      refine lv_iload hx hb d_Fa_emits_31 (lv_at hl 0 rfl) ?_
      refine lv_iconst (v := 1) hx hb d_Fa_emits_33 (by decide) ?_
      refine lv_icmp_ne (tgt := 60) hx hb d_Fa_emits_34 (by decide) (fun c9 => ?_) (fun c9 => ?_)
      · have hf := xif_f c9 hf
        refine lv_iload hx hb d_Fa_emits_60 (lv_at hl 0 rfl) ?_
        obtain ⟨r10, hc11, hf⟩ := ob1_inv hf
        refine xk_i (xrunS (As := [.int r7]) (rest := []) ⟨hx, hb, hml, hown, hts⟩ (c_Fa_lettersOf l dC dI ty ad ta H.size co_rows co_marks co_rowSets co_partners co_open co_count tr_kinds tr_lefts tr_rights tr_seconds tr_size gr_kinds gr_nodes gr_rowSets gr_firstStates gr_targetCounts gr_targets gr_stepScores gr_letterScores gr_size tx_letters tx_length va_scores va_knownEnds hi_begins hi_lengths hi_scores hi_taken hi_count de_states de_begins de_lengths de_length r7 r10 hc11) z_Fa_139 ⟨⟨rfl, rfl⟩, by decide, by decide⟩ hK hP hD hN hS hA rfl hl.1 rfl (Nat.le_of_ble_eq_true rfl) d_Fa_emits_62 ⟨Nat.zero_le _, Nat.zero_le _⟩) hS hD rfl hA (fun H locs hP hD hS => ?_)
        refine W.eq (g2 := F0 m 65 ls [.int r10]) rfl ?_
        refine lv_if_le (tgt := 81) hx hb d_Fa_emits_65 (by decide) (fun c12 => ?_) (fun c12 => ?_)
        · have hf := xif_t c12 hf
          refine lv_ldc (v := -1000000) hx hb hown (hts _ m_308) d_Fa_emits_81 ?_
          obtain rfl := os1 hf
          exact hret H locs _ _ _ d_Fa_emits_83 rfl hP hS
        · have hf := xif_f c12 hf
          refine lv_aload_n hx hb d_Fa_emits_68 rfl (lv_at hl 1 rfl) ?_
          refine va_get (D := (dC, dI)) (ci := 0) (v := .ref (ad 11)) (C := R_Fa) (T := F_Fa) (N := 7) hx hb hts iw_Fa hown hK hP 0 rfl rfl 2 (by decide) (hts _ m_242) (fun _ h9 => h9) rfl d_Fa_emits_69 ?_
          refine lv_iload_n hx hb d_Fa_emits_72 rfl (lv_at hl 2 rfl) ?_
          refine lv_iload_n hx hb d_Fa_emits_73 rfl (lv_at hl 3 rfl) ?_
          refine lv_iconst (v := 0) hx hb d_Fa_emits_74 (by decide) ?_
          obtain ⟨r13, hc14, hf⟩ := ob1_inv hf
          refine xk_i (xrunV (C := R_Gr) (As := [.int a1, .int a2, .int (0 : Int32)]) (rest := []) ⟨hx, hb, hml, hown, hts⟩ (c_Gr_letterScore l dC dI ty ad ta H.size co_rows co_marks co_rowSets co_partners co_open co_count tr_kinds tr_lefts tr_rights tr_seconds tr_size gr_kinds gr_nodes gr_rowSets gr_firstStates gr_targetCounts gr_targets gr_stepScores gr_letterScores gr_size tx_letters tx_length va_scores va_knownEnds hi_begins hi_lengths hi_scores hi_taken hi_count de_states de_begins de_lengths de_length a1 a2 (0 : Int32) r13 hc14) z_Fa_135 ⟨⟨rfl, rfl⟩, by decide, by decide⟩ hK hP hD hN hS hA (va_recv hK hP (ci := 3) (q0 := 11) rfl rfl) rfl hl.1 rfl (Nat.le_of_ble_eq_true rfl) d_Fa_emits_75 ⟨Nat.zero_le _, Nat.zero_le _⟩) hS hD rfl hA (fun H locs hP hD hS => ?_)
          refine W.eq (g2 := F0 m 78 ls [.int r13]) rfl ?_
          refine lv_goto (tgt := 83) hx hb d_Fa_emits_78 (by decide) ?_
          obtain rfl := os1 hf
          exact hret H locs _ _ _ d_Fa_emits_83 rfl hP hS
      · have hf := xif_t c9 hf
        refine lv_iload_n hx hb d_Fa_emits_37 rfl (lv_at hl 4 rfl) ?_
        obtain ⟨r15, hc16, hf⟩ := ob1_inv hf
        refine xk_i (xrunS (As := [.int a3]) (rest := []) ⟨hx, hb, hml, hown, hts⟩ (c_Fa_isLetter l dC dI ty ad ta H.size co_rows co_marks co_rowSets co_partners co_open co_count tr_kinds tr_lefts tr_rights tr_seconds tr_size gr_kinds gr_nodes gr_rowSets gr_firstStates gr_targetCounts gr_targets gr_stepScores gr_letterScores gr_size tx_letters tx_length va_scores va_knownEnds hi_begins hi_lengths hi_scores hi_taken hi_count de_states de_begins de_lengths de_length a3 r15 hc16) z_Fa_132 ⟨⟨rfl, rfl⟩, by decide, by decide⟩ hK hP hD hN hS hA rfl hl.1 rfl (Nat.le_of_ble_eq_true rfl) d_Fa_emits_38 ⟨Nat.zero_le _, Nat.zero_le _⟩) hS hD rfl hA (fun H locs hP hD hS => ?_)
        refine W.eq (g2 := F0 m 41 ls [.int r15]) rfl ?_
        refine lv_if_eq (tgt := 57) hx hb d_Fa_emits_41 (by decide) (fun c17 => ?_) (fun c17 => ?_)
        · have hf := xif_t c17 hf
          refine lv_ldc (v := -1000000) hx hb hown (hts _ m_308) d_Fa_emits_57 ?_
          obtain rfl := os1 hf
          exact hret H locs _ _ _ d_Fa_emits_59 rfl hP hS
        · have hf := xif_f c17 hf
          refine lv_aload_n hx hb d_Fa_emits_44 rfl (lv_at hl 1 rfl) ?_
          refine va_get (D := (dC, dI)) (ci := 0) (v := .ref (ad 11)) (C := R_Fa) (T := F_Fa) (N := 7) hx hb hts iw_Fa hown hK hP 0 rfl rfl 2 (by decide) (hts _ m_242) (fun _ h9 => h9) rfl d_Fa_emits_45 ?_
          refine lv_iload_n hx hb d_Fa_emits_48 rfl (lv_at hl 2 rfl) ?_
          refine lv_iload_n hx hb d_Fa_emits_49 rfl (lv_at hl 3 rfl) ?_
          refine lv_iload_n hx hb d_Fa_emits_50 rfl (lv_at hl 4 rfl) ?_
          obtain ⟨r18, hc19, hf⟩ := ob1_inv hf
          refine xk_i (xrunV (C := R_Gr) (As := [.int a1, .int a2, .int a3]) (rest := []) ⟨hx, hb, hml, hown, hts⟩ (c_Gr_letterScore l dC dI ty ad ta H.size co_rows co_marks co_rowSets co_partners co_open co_count tr_kinds tr_lefts tr_rights tr_seconds tr_size gr_kinds gr_nodes gr_rowSets gr_firstStates gr_targetCounts gr_targets gr_stepScores gr_letterScores gr_size tx_letters tx_length va_scores va_knownEnds hi_begins hi_lengths hi_scores hi_taken hi_count de_states de_begins de_lengths de_length a1 a2 a3 r18 hc19) z_Fa_135 ⟨⟨rfl, rfl⟩, by decide, by decide⟩ hK hP hD hN hS hA (va_recv hK hP (ci := 3) (q0 := 11) rfl rfl) rfl hl.1 rfl (Nat.le_of_ble_eq_true rfl) d_Fa_emits_51 ⟨Nat.zero_le _, Nat.zero_le _⟩) hS hD rfl hA (fun H locs hP hD hS => ?_)
          refine W.eq (g2 := F0 m 54 ls [.int r18]) rfl ?_
          refine lv_goto (tgt := 59) hx hb d_Fa_emits_54 (by decide) ?_
          obtain rfl := os1 hf
          exact hret H locs _ _ _ d_Fa_emits_59 rfl hP hS
    · have hf := xif_t c6 hf
      refine lv_ldc (v := -1000000) hx hb hown (hts _ m_308) d_Fa_emits_18 ?_
      obtain rfl := os1 hf
      exact hret H locs _ _ _ d_Fa_emits_20 rfl hP hS
def f_Tx_room (tx_length : Int32) : Option (Int32) := some (((24 : Int32) - tx_length))
set_option maxHeartbeats 4000000 in
set_option maxRecDepth 100000 in
theorem c_Tx_room (l : Launch) (dC : Nat → ClassId) (dI : Nat → Nat → Nat) (ty : Nat → ClassId) (ad : Nat → Nat) (ta : Nat → Nat) (sz : Nat) (co_rows : Int32) (co_marks : (Nat → Int32)) (co_rowSets : (Nat → Int32)) (co_partners : (Nat → Int32)) (co_open : (Nat → Int32)) (co_count : Int32) (tr_kinds : (Nat → Int32)) (tr_lefts : (Nat → Int32)) (tr_rights : (Nat → Int32)) (tr_seconds : (Nat → Int32)) (tr_size : Int32) (gr_kinds : (Nat → Int32)) (gr_nodes : (Nat → Int32)) (gr_rowSets : (Nat → Int32)) (gr_firstStates : (Nat → Int32)) (gr_targetCounts : (Nat → Int32)) (gr_targets : (Nat → Int32)) (gr_stepScores : (Nat → Int32)) (gr_letterScores : (Nat → Int32)) (gr_size : Int32) (tx_letters : (Nat → Int32)) (tx_length : Int32) (va_scores : (Nat → Int32)) (va_knownEnds : Int32) (hi_begins : (Nat → Int32)) (hi_lengths : (Nat → Int32)) (hi_scores : (Nat → Int32)) (hi_taken : (Nat → Int32)) (hi_count : Int32) (de_states : (Nat → Int32)) (de_begins : (Nat → Int32)) (de_lengths : (Nat → Int32)) (de_length : Int32)  (r0 : Int32) (hf : f_Tx_room tx_length = some (r0)) : Met l y_Tx_room (.code y_Tx_room prog_6_method_3_code 1 (some .int) :: gw) rm_Tx_room (xPre ta (dC, dI) classes (tys3 ty) (wX ty ad co_rows co_marks co_rowSets co_partners co_open co_count tr_kinds tr_lefts tr_rights tr_seconds tr_size gr_kinds gr_nodes gr_rowSets gr_firstStates gr_targetCounts gr_targets gr_stepScores gr_letterScores gr_size tx_letters tx_length va_scores va_knownEnds hi_begins hi_lengths hi_scores hi_taken hi_count de_states de_begins de_lengths de_length) sz [.ref (ad 20)]) (xQi (dC, dI) classes (wX ty ad co_rows co_marks co_rowSets co_partners co_open co_count tr_kinds tr_lefts tr_rights tr_seconds tr_size gr_kinds gr_nodes gr_rowSets gr_firstStates gr_targetCounts gr_targets gr_stepScores gr_letterScores gr_size tx_letters tx_length va_scores va_knownEnds hi_begins hi_lengths hi_scores hi_taken hi_count de_states de_begins de_lengths de_length) (wX ty ad co_rows co_marks co_rowSets co_partners co_open co_count tr_kinds tr_lefts tr_rights tr_seconds tr_size gr_kinds gr_nodes gr_rowSets gr_firstStates gr_targetCounts gr_targets gr_stepScores gr_letterScores gr_size tx_letters tx_length va_scores va_knownEnds hi_begins hi_lengths hi_scores hi_taken hi_count de_states de_begins de_lengths de_length) sz r0) 0 0 (va_A (wX ty ad co_rows co_marks co_rowSets co_partners co_open co_count tr_kinds tr_lefts tr_rights tr_seconds tr_size gr_kinds gr_nodes gr_rowSets gr_firstStates gr_targetCounts gr_targets gr_stepScores gr_letterScores gr_size tx_letters tx_length va_scores va_knownEnds hi_begins hi_lengths hi_scores hi_taken hi_count de_states de_begins de_lengths de_length) sz) := by
  refine xmet_i rfl (Nat.le_of_ble_eq_true rfl) ?_
  intro p e s m below meth c A ls Q hx hb hml hts hown hK hN hA hP hD hS hl hret
  replace hown : s.vm.findClass R_Tx = some m.cls := hown
  have hl : lv_has ls 1 [(0, .ref (ad 20))] := hl
  rw [f_Tx_room] at hf
  obtain ⟨H, eH⟩ : ∃ H : Heap, H = s.heap := ⟨_, rfl⟩
  obtain ⟨locs, eL⟩ : ∃ L : List Loc, L = [] := ⟨_, rfl⟩
  have hP : va_P (dC, dI) classes (wX ty ad co_rows co_marks co_rowSets co_partners co_open co_count tr_kinds tr_lefts tr_rights tr_seconds tr_size gr_kinds gr_nodes gr_rowSets gr_firstStates gr_targetCounts gr_targets gr_stepScores gr_letterScores gr_size tx_letters tx_length va_scores va_knownEnds hi_begins hi_lengths hi_scores hi_taken hi_count de_states de_begins de_lengths de_length) H := by rw [eH]; exact hP
  have hS : va_S A s.heap H locs := by rw [eH, eL]; exact hS
  rw [← eL]
  suffices hgoal : W p l e rm_Tx_room s m (List.toArray [.ref (ad 20)]) below meth c H locs 0 0 Q (F0 m 0 ls []) by rw [eH] at hgoal; exact hgoal
  clear eH eL
  refine lv_bipush (v := 24) hx hb d_Tx_room_0 (by decide) ?_
  refine lv_aload_n hx hb d_Tx_room_2 rfl (lv_at hl 0 rfl) ?_
  refine va_get (D := (dC, dI)) (ci := 4) (v := .int tx_length) (C := R_Tx) (T := F_Tx) (N := 2) hx hb hts iw_Tx hown hK hP 20 rfl rfl 1 (by decide) (hts _ m_173) (fun _ h9 => h9) rfl d_Tx_room_3 ?_
  refine lv_isub hx hb d_Tx_room_6 ?_
  obtain rfl := os1 hf
  exact hret H locs _ _ _ d_Tx_room_7 rfl hP hS
def f_Tx_append_K2_39  (x3_2 : Int32) (tx_letters_2 : (Nat → Int32)) (tx_length_2 : Int32) : Option ((Nat → Int32) × Int32) := some (tx_letters_2, tx_length_2)
def f_Tx_append_L2 (a1 : Int32) (a2 : Int32) (k2_39 : (Int32 → (Nat → Int32) → Int32 → Option ((Nat → Int32) × Int32))) : Nat → Int32 → (Nat → Int32) → Int32 → Option ((Nat → Int32) × Int32)
  | 0, _, _, _ => none
  | n2 + 1, x3_2, tx_letters_2, tx_length_2 => if a2 ≤ x3_2 then (k2_39 x3_2 tx_letters_2 tx_length_2) else (gd (xin tx_length_2 24) ((f_Tx_append_L2 a1 a2 k2_39 n2) (x3_2 + (1 : Int32)) (upd tx_letters_2 (Int32.toNatClampNeg tx_length_2) ((ushr32 a1 ((2 : Int32) * x3_2)) &&& (3 : Int32))) (tx_length_2 + (1 : Int32))))
def f_Tx_append (tx_letters : (Nat → Int32)) (tx_length : Int32) (a1 : Int32) (a2 : Int32) : Option ((Nat → Int32) × Int32) := f_Tx_append_L2 a1 a2 (f_Tx_append_K2_39) 1000 (0 : Int32) tx_letters tx_length
set_option maxHeartbeats 4000000 in
set_option maxRecDepth 100000 in
theorem c_Tx_append (l : Launch) (dC : Nat → ClassId) (dI : Nat → Nat → Nat) (ty : Nat → ClassId) (ad : Nat → Nat) (ta : Nat → Nat) (sz : Nat) (co_rows : Int32) (co_marks : (Nat → Int32)) (co_rowSets : (Nat → Int32)) (co_partners : (Nat → Int32)) (co_open : (Nat → Int32)) (co_count : Int32) (tr_kinds : (Nat → Int32)) (tr_lefts : (Nat → Int32)) (tr_rights : (Nat → Int32)) (tr_seconds : (Nat → Int32)) (tr_size : Int32) (gr_kinds : (Nat → Int32)) (gr_nodes : (Nat → Int32)) (gr_rowSets : (Nat → Int32)) (gr_firstStates : (Nat → Int32)) (gr_targetCounts : (Nat → Int32)) (gr_targets : (Nat → Int32)) (gr_stepScores : (Nat → Int32)) (gr_letterScores : (Nat → Int32)) (gr_size : Int32) (tx_letters : (Nat → Int32)) (tx_length : Int32) (va_scores : (Nat → Int32)) (va_knownEnds : Int32) (hi_begins : (Nat → Int32)) (hi_lengths : (Nat → Int32)) (hi_scores : (Nat → Int32)) (hi_taken : (Nat → Int32)) (hi_count : Int32) (de_states : (Nat → Int32)) (de_begins : (Nat → Int32)) (de_lengths : (Nat → Int32)) (de_length : Int32) (a1 : Int32) (a2 : Int32) (n_tx_letters : (Nat → Int32)) (n_tx_length : Int32) (hf : f_Tx_append tx_letters tx_length a1 a2 = some (n_tx_letters, n_tx_length)) : Met l y_Tx_append (.code y_Tx_append prog_6_method_6_code 4 none :: gw) rm_Tx_append (xPre ta (dC, dI) classes (tys3 ty) (wX ty ad co_rows co_marks co_rowSets co_partners co_open co_count tr_kinds tr_lefts tr_rights tr_seconds tr_size gr_kinds gr_nodes gr_rowSets gr_firstStates gr_targetCounts gr_targets gr_stepScores gr_letterScores gr_size tx_letters tx_length va_scores va_knownEnds hi_begins hi_lengths hi_scores hi_taken hi_count de_states de_begins de_lengths de_length) sz [.ref (ad 20), .int a1, .int a2]) (xQv (dC, dI) classes (wX ty ad co_rows co_marks co_rowSets co_partners co_open co_count tr_kinds tr_lefts tr_rights tr_seconds tr_size gr_kinds gr_nodes gr_rowSets gr_firstStates gr_targetCounts gr_targets gr_stepScores gr_letterScores gr_size tx_letters tx_length va_scores va_knownEnds hi_begins hi_lengths hi_scores hi_taken hi_count de_states de_begins de_lengths de_length) (wX ty ad co_rows co_marks co_rowSets co_partners co_open co_count tr_kinds tr_lefts tr_rights tr_seconds tr_size gr_kinds gr_nodes gr_rowSets gr_firstStates gr_targetCounts gr_targets gr_stepScores gr_letterScores gr_size n_tx_letters n_tx_length va_scores va_knownEnds hi_begins hi_lengths hi_scores hi_taken hi_count de_states de_begins de_lengths de_length) sz) 0 0 (va_A (wX ty ad co_rows co_marks co_rowSets co_partners co_open co_count tr_kinds tr_lefts tr_rights tr_seconds tr_size gr_kinds gr_nodes gr_rowSets gr_firstStates gr_targetCounts gr_targets gr_stepScores gr_letterScores gr_size tx_letters tx_length va_scores va_knownEnds hi_begins hi_lengths hi_scores hi_taken hi_count de_states de_begins de_lengths de_length) sz) := by
  refine xmet_v rfl (Nat.le_of_ble_eq_true rfl) ?_
  intro p e s m below meth c A ls Q hx hb hml hts hown hK hN hA hP hD hS hl hret
  replace hown : s.vm.findClass R_Tx = some m.cls := hown
  have hl : lv_has ls 4 [(0, .ref (ad 20)), (1, .int a1), (2, .int a2)] := hl
  rw [f_Tx_append] at hf
  obtain ⟨H, eH⟩ : ∃ H : Heap, H = s.heap := ⟨_, rfl⟩
  obtain ⟨locs, eL⟩ : ∃ L : List Loc, L = [] := ⟨_, rfl⟩
  have hP : va_P (dC, dI) classes (wX ty ad co_rows co_marks co_rowSets co_partners co_open co_count tr_kinds tr_lefts tr_rights tr_seconds tr_size gr_kinds gr_nodes gr_rowSets gr_firstStates gr_targetCounts gr_targets gr_stepScores gr_letterScores gr_size tx_letters tx_length va_scores va_knownEnds hi_begins hi_lengths hi_scores hi_taken hi_count de_states de_begins de_lengths de_length) H := by rw [eH]; exact hP
  have hS : va_S A s.heap H locs := by rw [eH, eL]; exact hS
  rw [← eL]
  suffices hgoal : W p l e rm_Tx_append s m (List.toArray [.ref (ad 20), .int a1, .int a2]) below meth c H locs 0 0 Q (F0 m 0 ls []) by rw [eH] at hgoal; exact hgoal
  clear eH eL
  refine lv_iconst (v := 0) hx hb d_Tx_append_0 (by decide) ?_
  refine lv_istore_n (lv' := [(3, .int (0 : Int32)), (0, .ref (ad 20)), (1, .int a1), (2, .int a2)]) hx hb d_Tx_append_1 rfl hl (by decide) rfl (fun ls hl => ?_)
  have K2_39 : ∀ (x3_2 : Int32) (tx_letters_2 : (Nat → Int32)) (tx_length_2 : Int32) (H : Heap) (locs : List Loc) (ls : Array Slot), va_P (dC, dI) classes (wX ty ad co_rows co_marks co_rowSets co_partners co_open co_count tr_kinds tr_lefts tr_rights tr_seconds tr_size gr_kinds gr_nodes gr_rowSets gr_firstStates gr_targetCounts gr_targets gr_stepScores gr_letterScores gr_size tx_letters_2 tx_length_2 va_scores va_knownEnds hi_begins hi_lengths hi_scores hi_taken hi_count de_states de_begins de_lengths de_length) H → va_D A (wX ty ad co_rows co_marks co_rowSets co_partners co_open co_count tr_kinds tr_lefts tr_rights tr_seconds tr_size gr_kinds gr_nodes gr_rowSets gr_firstStates gr_targetCounts gr_targets gr_stepScores gr_letterScores gr_size tx_letters_2 tx_length_2 va_scores va_knownEnds hi_begins hi_lengths hi_scores hi_taken hi_count de_states de_begins de_lengths de_length) → va_S A s.heap H locs → lv_has ls 4 [] → f_Tx_append_K2_39 x3_2 tx_letters_2 tx_length_2 = some (n_tx_letters, n_tx_length) → W p l e rm_Tx_append s m (List.toArray [.ref (ad 20), .int a1, .int a2]) below meth c H locs 0 0 Q (F0 m 39 ls []) := by
    intro x3_2 tx_letters_2 tx_length_2 H locs ls hP hD hS hl hf
    rw [f_Tx_append_K2_39] at hf
    obtain ⟨rfl, rfl⟩ := os2 hf
    exact hret H locs _ _ d_Tx_append_39 hP hS
  have L2 : ∀ (n2 : Nat), ∀ (x3_2 : Int32) (tx_letters_2 : (Nat → Int32)) (tx_length_2 : Int32) (H : Heap) (locs : List Loc) (ls : Array Slot), va_P (dC, dI) classes (wX ty ad co_rows co_marks co_rowSets co_partners co_open co_count tr_kinds tr_lefts tr_rights tr_seconds tr_size gr_kinds gr_nodes gr_rowSets gr_firstStates gr_targetCounts gr_targets gr_stepScores gr_letterScores gr_size tx_letters_2 tx_length_2 va_scores va_knownEnds hi_begins hi_lengths hi_scores hi_taken hi_count de_states de_begins de_lengths de_length) H → va_D A (wX ty ad co_rows co_marks co_rowSets co_partners co_open co_count tr_kinds tr_lefts tr_rights tr_seconds tr_size gr_kinds gr_nodes gr_rowSets gr_firstStates gr_targetCounts gr_targets gr_stepScores gr_letterScores gr_size tx_letters_2 tx_length_2 va_scores va_knownEnds hi_begins hi_lengths hi_scores hi_taken hi_count de_states de_begins de_lengths de_length) → va_S A s.heap H locs → lv_has ls 4 [(0, .ref (ad 20)), (1, .int a1), (2, .int a2), (3, .int x3_2)] → f_Tx_append_L2 a1 a2 (f_Tx_append_K2_39) n2 x3_2 tx_letters_2 tx_length_2 = some (n_tx_letters, n_tx_length) → W p l e rm_Tx_append s m (List.toArray [.ref (ad 20), .int a1, .int a2]) below meth c H locs 0 0 Q (F0 m 2 ls []) := by
    intro n2
    induction n2 with
    | zero =>
      intro x3_2 tx_letters_2 tx_length_2 H locs ls hP hD hS hl hf
      rw [f_Tx_append_L2] at hf
      cases hf
    | succ n2 ih2 =>
      intro x3_2 tx_letters_2 tx_length_2 H locs ls hP hD hS hl hf
      rw [f_Tx_append_L2] at hf
      refine lv_iload_n hx hb d_Tx_append_2 rfl (lv_at hl 3 rfl) ?_
      refine lv_iload_n hx hb d_Tx_append_3 rfl (lv_at hl 2 rfl) ?_
      refine lv_icmp_ge (tgt := 39) hx hb d_Tx_append_4 (by decide) (fun c1 => ?_) (fun c1 => ?_)
      · have hf := xif_t c1 hf
        exact K2_39 x3_2 tx_letters_2 tx_length_2 _ _ _ hP hD hS (lv_sub hl [] rfl) hf
      · have hf := xif_f c1 hf
        refine lv_aload_n hx hb d_Tx_append_7 rfl (lv_at hl 0 rfl) ?_
        refine va_get (D := (dC, dI)) (ci := 4) (v := .ref (ad 21)) (C := R_Tx) (T := F_Tx) (N := 2) hx hb hts iw_Tx hown hK hP 20 rfl rfl 0 (by decide) (hts _ m_172) (fun _ h9 => h9) rfl d_Tx_append_8 ?_
        refine lv_aload_n hx hb d_Tx_append_11 rfl (lv_at hl 0 rfl) ?_
        refine va_get (D := (dC, dI)) (ci := 4) (v := .int tx_length_2) (C := R_Tx) (T := F_Tx) (N := 2) hx hb hts iw_Tx hown hK hP 20 rfl rfl 1 (by decide) (hts _ m_173) (fun _ h9 => h9) rfl d_Tx_append_12 ?_
        refine lv_iload_n hx hb d_Tx_append_15 rfl (lv_at hl 1 rfl) ?_
        refine lv_iconst (v := 2) hx hb d_Tx_append_16 (by decide) ?_
        refine lv_iload_n hx hb d_Tx_append_17 rfl (lv_at hl 3 rfl) ?_
        refine lv_imul hx hb d_Tx_append_18 ?_
        refine lv_iushr (v := (ushr32 a1 ((2 : Int32) * x3_2))) hx hb d_Tx_append_19 rfl ?_
        refine lv_iconst (v := 3) hx hb d_Tx_append_20 (by decide) ?_
        refine lv_iand hx hb d_Tx_append_21 ?_
        obtain ⟨hi2, hf⟩ := gdi hf
        refine va_iast hx hb hK hP hD hS 21 0 rfl rfl hi2 d_Tx_append_22 (fun H locs hP hD hS => ?_)
        have hP : va_P (dC, dI) classes (wX ty ad co_rows co_marks co_rowSets co_partners co_open co_count tr_kinds tr_lefts tr_rights tr_seconds tr_size gr_kinds gr_nodes gr_rowSets gr_firstStates gr_targetCounts gr_targets gr_stepScores gr_letterScores gr_size (upd tx_letters_2 (Int32.toNatClampNeg tx_length_2) ((ushr32 a1 ((2 : Int32) * x3_2)) &&& (3 : Int32))) tx_length_2 va_scores va_knownEnds hi_begins hi_lengths hi_scores hi_taken hi_count de_states de_begins de_lengths de_length) H := hP
        have hD : va_D A (wX ty ad co_rows co_marks co_rowSets co_partners co_open co_count tr_kinds tr_lefts tr_rights tr_seconds tr_size gr_kinds gr_nodes gr_rowSets gr_firstStates gr_targetCounts gr_targets gr_stepScores gr_letterScores gr_size (upd tx_letters_2 (Int32.toNatClampNeg tx_length_2) ((ushr32 a1 ((2 : Int32) * x3_2)) &&& (3 : Int32))) tx_length_2 va_scores va_knownEnds hi_begins hi_lengths hi_scores hi_taken hi_count de_states de_begins de_lengths de_length) := hD
        refine lv_aload_n hx hb d_Tx_append_23 rfl (lv_at hl 0 rfl) ?_
        refine lv_dup hx hb d_Tx_append_24 rfl ?_
        refine va_get (D := (dC, dI)) (ci := 4) (v := .int tx_length_2) (C := R_Tx) (T := F_Tx) (N := 2) hx hb hts iw_Tx hown hK hP 20 rfl rfl 1 (by decide) (hts _ m_173) (fun _ h9 => h9) rfl d_Tx_append_25 ?_
        refine lv_iconst (v := 1) hx hb d_Tx_append_28 (by decide) ?_
        refine lv_iadd hx hb d_Tx_append_29 ?_
        refine va_put (D := (dC, dI)) (ci := 4) (v := .int (tx_length_2 + (1 : Int32))) (ty := .int) (C := R_Tx) (T := F_Tx) (N := 2) hx hb hts iw_Tx t_Tx t_Tx_ok n_Tx hown hK hP hD hS 20 rfl rfl 1 (by decide) (hts _ m_173) (fun _ h9 => h9) rfl (by decide +kernel) rfl rfl (Nat.le_of_ble_eq_true rfl) d_Tx_append_30 (fun H locs hP hD hS => ?_)
        have hP : va_P (dC, dI) classes (wX ty ad co_rows co_marks co_rowSets co_partners co_open co_count tr_kinds tr_lefts tr_rights tr_seconds tr_size gr_kinds gr_nodes gr_rowSets gr_firstStates gr_targetCounts gr_targets gr_stepScores gr_letterScores gr_size (upd tx_letters_2 (Int32.toNatClampNeg tx_length_2) ((ushr32 a1 ((2 : Int32) * x3_2)) &&& (3 : Int32))) (tx_length_2 + (1 : Int32)) va_scores va_knownEnds hi_begins hi_lengths hi_scores hi_taken hi_count de_states de_begins de_lengths de_length) H := hP
        have hD : va_D A (wX ty ad co_rows co_marks co_rowSets co_partners co_open co_count tr_kinds tr_lefts tr_rights tr_seconds tr_size gr_kinds gr_nodes gr_rowSets gr_firstStates gr_targetCounts gr_targets gr_stepScores gr_letterScores gr_size (upd tx_letters_2 (Int32.toNatClampNeg tx_length_2) ((ushr32 a1 ((2 : Int32) * x3_2)) &&& (3 : Int32))) (tx_length_2 + (1 : Int32)) va_scores va_knownEnds hi_begins hi_lengths hi_scores hi_taken hi_count de_states de_begins de_lengths de_length) := hD
        refine lv_iinc (v := (x3_2 + (1 : Int32))) (lv' := [(3, .int (x3_2 + (1 : Int32))), (0, .ref (ad 20)), (1, .int a1), (2, .int a2)]) hx hb d_Tx_append_33 hl (k := 3) rfl rfl (by decide) rfl (fun ls hl => ?_)
        refine lv_goto (tgt := 2) hx hb d_Tx_append_36 (by decide) ?_
        exact ih2 (x3_2 + (1 : Int32)) (upd tx_letters_2 (Int32.toNatClampNeg tx_length_2) ((ushr32 a1 ((2 : Int32) * x3_2)) &&& (3 : Int32))) (tx_length_2 + (1 : Int32)) _ _ _ hP hD hS (lv_sub hl [1, 2, 3, 0] rfl) hf
  exact L2 1000 (0 : Int32) tx_letters tx_length _ _ _ hP hD hS (lv_sub hl [1, 2, 3, 0] rfl) hf
def f_Tx_length (tx_length : Int32) : Option (Int32) := some (tx_length)
set_option maxHeartbeats 4000000 in
set_option maxRecDepth 100000 in
theorem c_Tx_length (l : Launch) (dC : Nat → ClassId) (dI : Nat → Nat → Nat) (ty : Nat → ClassId) (ad : Nat → Nat) (ta : Nat → Nat) (sz : Nat) (co_rows : Int32) (co_marks : (Nat → Int32)) (co_rowSets : (Nat → Int32)) (co_partners : (Nat → Int32)) (co_open : (Nat → Int32)) (co_count : Int32) (tr_kinds : (Nat → Int32)) (tr_lefts : (Nat → Int32)) (tr_rights : (Nat → Int32)) (tr_seconds : (Nat → Int32)) (tr_size : Int32) (gr_kinds : (Nat → Int32)) (gr_nodes : (Nat → Int32)) (gr_rowSets : (Nat → Int32)) (gr_firstStates : (Nat → Int32)) (gr_targetCounts : (Nat → Int32)) (gr_targets : (Nat → Int32)) (gr_stepScores : (Nat → Int32)) (gr_letterScores : (Nat → Int32)) (gr_size : Int32) (tx_letters : (Nat → Int32)) (tx_length : Int32) (va_scores : (Nat → Int32)) (va_knownEnds : Int32) (hi_begins : (Nat → Int32)) (hi_lengths : (Nat → Int32)) (hi_scores : (Nat → Int32)) (hi_taken : (Nat → Int32)) (hi_count : Int32) (de_states : (Nat → Int32)) (de_begins : (Nat → Int32)) (de_lengths : (Nat → Int32)) (de_length : Int32)  (r0 : Int32) (hf : f_Tx_length tx_length = some (r0)) : Met l y_Tx_length (.code y_Tx_length prog_6_method_2_code 1 (some .int) :: gw) rm_Tx_length (xPre ta (dC, dI) classes (tys3 ty) (wX ty ad co_rows co_marks co_rowSets co_partners co_open co_count tr_kinds tr_lefts tr_rights tr_seconds tr_size gr_kinds gr_nodes gr_rowSets gr_firstStates gr_targetCounts gr_targets gr_stepScores gr_letterScores gr_size tx_letters tx_length va_scores va_knownEnds hi_begins hi_lengths hi_scores hi_taken hi_count de_states de_begins de_lengths de_length) sz [.ref (ad 20)]) (xQi (dC, dI) classes (wX ty ad co_rows co_marks co_rowSets co_partners co_open co_count tr_kinds tr_lefts tr_rights tr_seconds tr_size gr_kinds gr_nodes gr_rowSets gr_firstStates gr_targetCounts gr_targets gr_stepScores gr_letterScores gr_size tx_letters tx_length va_scores va_knownEnds hi_begins hi_lengths hi_scores hi_taken hi_count de_states de_begins de_lengths de_length) (wX ty ad co_rows co_marks co_rowSets co_partners co_open co_count tr_kinds tr_lefts tr_rights tr_seconds tr_size gr_kinds gr_nodes gr_rowSets gr_firstStates gr_targetCounts gr_targets gr_stepScores gr_letterScores gr_size tx_letters tx_length va_scores va_knownEnds hi_begins hi_lengths hi_scores hi_taken hi_count de_states de_begins de_lengths de_length) sz r0) 0 0 (va_A (wX ty ad co_rows co_marks co_rowSets co_partners co_open co_count tr_kinds tr_lefts tr_rights tr_seconds tr_size gr_kinds gr_nodes gr_rowSets gr_firstStates gr_targetCounts gr_targets gr_stepScores gr_letterScores gr_size tx_letters tx_length va_scores va_knownEnds hi_begins hi_lengths hi_scores hi_taken hi_count de_states de_begins de_lengths de_length) sz) := by
  refine xmet_i rfl (Nat.le_of_ble_eq_true rfl) ?_
  intro p e s m below meth c A ls Q hx hb hml hts hown hK hN hA hP hD hS hl hret
  replace hown : s.vm.findClass R_Tx = some m.cls := hown
  have hl : lv_has ls 1 [(0, .ref (ad 20))] := hl
  rw [f_Tx_length] at hf
  obtain ⟨H, eH⟩ : ∃ H : Heap, H = s.heap := ⟨_, rfl⟩
  obtain ⟨locs, eL⟩ : ∃ L : List Loc, L = [] := ⟨_, rfl⟩
  have hP : va_P (dC, dI) classes (wX ty ad co_rows co_marks co_rowSets co_partners co_open co_count tr_kinds tr_lefts tr_rights tr_seconds tr_size gr_kinds gr_nodes gr_rowSets gr_firstStates gr_targetCounts gr_targets gr_stepScores gr_letterScores gr_size tx_letters tx_length va_scores va_knownEnds hi_begins hi_lengths hi_scores hi_taken hi_count de_states de_begins de_lengths de_length) H := by rw [eH]; exact hP
  have hS : va_S A s.heap H locs := by rw [eH, eL]; exact hS
  rw [← eL]
  suffices hgoal : W p l e rm_Tx_length s m (List.toArray [.ref (ad 20)]) below meth c H locs 0 0 Q (F0 m 0 ls []) by rw [eH] at hgoal; exact hgoal
  clear eH eL
  refine lv_aload_n hx hb d_Tx_length_0 rfl (lv_at hl 0 rfl) ?_
  refine va_get (D := (dC, dI)) (ci := 4) (v := .int tx_length) (C := R_Tx) (T := F_Tx) (N := 2) hx hb hts iw_Tx hown hK hP 20 rfl rfl 1 (by decide) (hts _ m_173) (fun _ h9 => h9) rfl d_Tx_length_1 ?_
  obtain rfl := os1 hf
  exact hret H locs _ _ _ d_Tx_length_4 rfl hP hS
def f_Fa_feed (tx_letters : (Nat → Int32)) (tx_length : Int32) (hi_count : Int32) (a1 : Int32) (a2 : Int32) : Option (Int32 × (Nat → Int32) × Int32 × Int32) := if a2 < (1 : Int32) then (some ((-1000000 : Int32), tx_letters, tx_length, hi_count)) else (if (12 : Int32) < a2 then (some ((-1000000 : Int32), tx_letters, tx_length, hi_count)) else (ob1 (f_Tx_room tx_length) (fun r3 => if a2 ≤ r3 then (ob2 (f_Tx_append tx_letters tx_length a1 a2) (fun w6 w7 => ob1 (f_Hi_forget hi_count) (fun w9 => ob1 (f_Tx_length w7) (fun r11 => some (r11, w6, w7, w9))))) else (some ((-1000000 : Int32), tx_letters, tx_length, hi_count)))))
set_option maxHeartbeats 4000000 in
set_option maxRecDepth 100000 in
theorem c_Fa_feed (l : Launch) (dC : Nat → ClassId) (dI : Nat → Nat → Nat) (ty : Nat → ClassId) (ad : Nat → Nat) (ta : Nat → Nat) (sz : Nat) (co_rows : Int32) (co_marks : (Nat → Int32)) (co_rowSets : (Nat → Int32)) (co_partners : (Nat → Int32)) (co_open : (Nat → Int32)) (co_count : Int32) (tr_kinds : (Nat → Int32)) (tr_lefts : (Nat → Int32)) (tr_rights : (Nat → Int32)) (tr_seconds : (Nat → Int32)) (tr_size : Int32) (gr_kinds : (Nat → Int32)) (gr_nodes : (Nat → Int32)) (gr_rowSets : (Nat → Int32)) (gr_firstStates : (Nat → Int32)) (gr_targetCounts : (Nat → Int32)) (gr_targets : (Nat → Int32)) (gr_stepScores : (Nat → Int32)) (gr_letterScores : (Nat → Int32)) (gr_size : Int32) (tx_letters : (Nat → Int32)) (tx_length : Int32) (va_scores : (Nat → Int32)) (va_knownEnds : Int32) (hi_begins : (Nat → Int32)) (hi_lengths : (Nat → Int32)) (hi_scores : (Nat → Int32)) (hi_taken : (Nat → Int32)) (hi_count : Int32) (de_states : (Nat → Int32)) (de_begins : (Nat → Int32)) (de_lengths : (Nat → Int32)) (de_length : Int32) (a1 : Int32) (a2 : Int32) (r0 : Int32) (n_tx_letters : (Nat → Int32)) (n_tx_length : Int32) (n_hi_count : Int32) (hf : f_Fa_feed tx_letters tx_length hi_count a1 a2 = some (r0, n_tx_letters, n_tx_length, n_hi_count)) : Met l y_Fa_feed (.code y_Fa_feed prog_1_method_10_code 3 (some .int) :: gw) rm_Fa_feed (xPre ta (dC, dI) classes (tys3 ty) (wX ty ad co_rows co_marks co_rowSets co_partners co_open co_count tr_kinds tr_lefts tr_rights tr_seconds tr_size gr_kinds gr_nodes gr_rowSets gr_firstStates gr_targetCounts gr_targets gr_stepScores gr_letterScores gr_size tx_letters tx_length va_scores va_knownEnds hi_begins hi_lengths hi_scores hi_taken hi_count de_states de_begins de_lengths de_length) sz [.ref (ad 0), .int a1, .int a2]) (xQi (dC, dI) classes (wX ty ad co_rows co_marks co_rowSets co_partners co_open co_count tr_kinds tr_lefts tr_rights tr_seconds tr_size gr_kinds gr_nodes gr_rowSets gr_firstStates gr_targetCounts gr_targets gr_stepScores gr_letterScores gr_size tx_letters tx_length va_scores va_knownEnds hi_begins hi_lengths hi_scores hi_taken hi_count de_states de_begins de_lengths de_length) (wX ty ad co_rows co_marks co_rowSets co_partners co_open co_count tr_kinds tr_lefts tr_rights tr_seconds tr_size gr_kinds gr_nodes gr_rowSets gr_firstStates gr_targetCounts gr_targets gr_stepScores gr_letterScores gr_size n_tx_letters n_tx_length va_scores va_knownEnds hi_begins hi_lengths hi_scores hi_taken n_hi_count de_states de_begins de_lengths de_length) sz r0) 0 0 (va_A (wX ty ad co_rows co_marks co_rowSets co_partners co_open co_count tr_kinds tr_lefts tr_rights tr_seconds tr_size gr_kinds gr_nodes gr_rowSets gr_firstStates gr_targetCounts gr_targets gr_stepScores gr_letterScores gr_size tx_letters tx_length va_scores va_knownEnds hi_begins hi_lengths hi_scores hi_taken hi_count de_states de_begins de_lengths de_length) sz) := by
  refine xmet_i rfl (Nat.le_of_ble_eq_true rfl) ?_
  intro p e s m below meth c A ls Q hx hb hml hts hown hK hN hA hP hD hS hl hret
  replace hown : s.vm.findClass R_Fa = some m.cls := hown
  have hl : lv_has ls 3 [(0, .ref (ad 0)), (1, .int a1), (2, .int a2)] := hl
  rw [f_Fa_feed] at hf
  obtain ⟨H, eH⟩ : ∃ H : Heap, H = s.heap := ⟨_, rfl⟩
  obtain ⟨locs, eL⟩ : ∃ L : List Loc, L = [] := ⟨_, rfl⟩
  have hP : va_P (dC, dI) classes (wX ty ad co_rows co_marks co_rowSets co_partners co_open co_count tr_kinds tr_lefts tr_rights tr_seconds tr_size gr_kinds gr_nodes gr_rowSets gr_firstStates gr_targetCounts gr_targets gr_stepScores gr_letterScores gr_size tx_letters tx_length va_scores va_knownEnds hi_begins hi_lengths hi_scores hi_taken hi_count de_states de_begins de_lengths de_length) H := by rw [eH]; exact hP
  have hS : va_S A s.heap H locs := by rw [eH, eL]; exact hS
  rw [← eL]
  suffices hgoal : W p l e rm_Fa_feed s m (List.toArray [.ref (ad 0), .int a1, .int a2]) below meth c H locs 0 0 Q (F0 m 0 ls []) by rw [eH] at hgoal; exact hgoal
  clear eH eL
  refine lv_iload_n hx hb d_Fa_feed_0 rfl (lv_at hl 2 rfl) ?_
  refine lv_iconst (v := 1) hx hb d_Fa_feed_1 (by decide) ?_
  refine lv_icmp_lt (tgt := 22) hx hb d_Fa_feed_2 (by decide) (fun c1 => ?_) (fun c1 => ?_)
  · have hf := xif_t c1 hf
    refine lv_ldc (v := -1000000) hx hb hown (hts _ m_308) d_Fa_feed_22 ?_
    obtain ⟨rfl, rfl, rfl, rfl⟩ := os4 hf
    exact hret H locs _ _ _ d_Fa_feed_24 rfl hP hS
  · have hf := xif_f c1 hf
    refine lv_iload_n hx hb d_Fa_feed_5 rfl (lv_at hl 2 rfl) ?_
    refine lv_bipush (v := 12) hx hb d_Fa_feed_6 (by decide) ?_
    refine lv_icmp_gt (tgt := 22) hx hb d_Fa_feed_8 (by decide) (fun c2 => ?_) (fun c2 => ?_)
    · have hf := xif_t c2 hf
      refine lv_ldc (v := -1000000) hx hb hown (hts _ m_308) d_Fa_feed_22 ?_
      obtain ⟨rfl, rfl, rfl, rfl⟩ := os4 hf
      exact hret H locs _ _ _ d_Fa_feed_24 rfl hP hS
    · have hf := xif_f c2 hf
      refine lv_iload_n hx hb d_Fa_feed_11 rfl (lv_at hl 2 rfl) ?_
      refine lv_aload_n hx hb d_Fa_feed_12 rfl (lv_at hl 0 rfl) ?_
      refine va_get (D := (dC, dI)) (ci := 0) (v := .ref (ad 20)) (C := R_Fa) (T := F_Fa) (N := 7) hx hb hts iw_Fa hown hK hP 0 rfl rfl 3 (by decide) (hts _ m_243) (fun _ h9 => h9) rfl d_Fa_feed_13 ?_
      obtain ⟨r3, hc4, hf⟩ := ob1_inv hf
      refine xk_i (xrunV (C := R_Tx) (As := []) (rest := [.int a2]) ⟨hx, hb, hml, hown, hts⟩ (c_Tx_room l dC dI ty ad ta H.size co_rows co_marks co_rowSets co_partners co_open co_count tr_kinds tr_lefts tr_rights tr_seconds tr_size gr_kinds gr_nodes gr_rowSets gr_firstStates gr_targetCounts gr_targets gr_stepScores gr_letterScores gr_size tx_letters tx_length va_scores va_knownEnds hi_begins hi_lengths hi_scores hi_taken hi_count de_states de_begins de_lengths de_length  r3 hc4) z_Fa_142 ⟨⟨rfl, rfl⟩, by decide, by decide⟩ hK hP hD hN hS hA (va_recv hK hP (ci := 4) (q0 := 20) rfl rfl) rfl hl.1 rfl (Nat.le_of_ble_eq_true rfl) d_Fa_feed_16 ⟨Nat.zero_le _, Nat.zero_le _⟩) hS hD rfl hA (fun H locs hP hD hS => ?_)
      refine W.eq (g2 := F0 m 19 ls [.int r3, .int a2]) rfl ?_
      refine lv_icmp_le (tgt := 25) hx hb d_Fa_feed_19 (by decide) (fun c5 => ?_) (fun c5 => ?_)
      · have hf := xif_t c5 hf
        refine lv_aload_n hx hb d_Fa_feed_25 rfl (lv_at hl 0 rfl) ?_
        refine va_get (D := (dC, dI)) (ci := 0) (v := .ref (ad 20)) (C := R_Fa) (T := F_Fa) (N := 7) hx hb hts iw_Fa hown hK hP 0 rfl rfl 3 (by decide) (hts _ m_243) (fun _ h9 => h9) rfl d_Fa_feed_26 ?_
        refine lv_iload_n hx hb d_Fa_feed_29 rfl (lv_at hl 1 rfl) ?_
        refine lv_iload_n hx hb d_Fa_feed_30 rfl (lv_at hl 2 rfl) ?_
        obtain ⟨w6, w7, hc8, hf⟩ := ob2_inv hf
        refine xk_v (xrunV (C := R_Tx) (As := [.int a1, .int a2]) (rest := []) ⟨hx, hb, hml, hown, hts⟩ (c_Tx_append l dC dI ty ad ta H.size co_rows co_marks co_rowSets co_partners co_open co_count tr_kinds tr_lefts tr_rights tr_seconds tr_size gr_kinds gr_nodes gr_rowSets gr_firstStates gr_targetCounts gr_targets gr_stepScores gr_letterScores gr_size tx_letters tx_length va_scores va_knownEnds hi_begins hi_lengths hi_scores hi_taken hi_count de_states de_begins de_lengths de_length a1 a2 w6 w7 hc8) z_Fa_145 ⟨⟨rfl, rfl⟩, by decide, by decide⟩ hK hP hD hN hS hA (va_recv hK hP (ci := 4) (q0 := 20) rfl rfl) rfl hl.1 rfl (Nat.le_of_ble_eq_true rfl) d_Fa_feed_31 ⟨Nat.zero_le _, Nat.zero_le _⟩) hS hD rfl hA (fun H locs hP hD hS => ?_)
        refine W.eq (g2 := F0 m 34 ls []) rfl ?_
        refine lv_aload_n hx hb d_Fa_feed_34 rfl (lv_at hl 0 rfl) ?_
        refine va_get (D := (dC, dI)) (ci := 0) (v := .ref (ad 24)) (C := R_Fa) (T := F_Fa) (N := 7) hx hb hts iw_Fa hown hK hP 0 rfl rfl 5 (by decide) (hts _ m_245) (fun _ h9 => h9) rfl d_Fa_feed_35 ?_
        obtain ⟨w9, hc10, hf⟩ := ob1_inv hf
        refine xk_v (xrunV (C := R_Hi) (As := []) (rest := []) ⟨hx, hb, hml, hown, hts⟩ (c_Hi_forget l dC dI ty ad ta H.size co_rows co_marks co_rowSets co_partners co_open co_count tr_kinds tr_lefts tr_rights tr_seconds tr_size gr_kinds gr_nodes gr_rowSets gr_firstStates gr_targetCounts gr_targets gr_stepScores gr_letterScores gr_size w6 w7 va_scores va_knownEnds hi_begins hi_lengths hi_scores hi_taken hi_count de_states de_begins de_lengths de_length  w9 hc10) z_Fa_106 ⟨⟨rfl, rfl⟩, by decide, by decide⟩ hK hP hD hN hS hA (va_recv hK hP (ci := 6) (q0 := 24) rfl rfl) rfl hl.1 rfl (Nat.le_of_ble_eq_true rfl) d_Fa_feed_38 ⟨Nat.zero_le _, Nat.zero_le _⟩) hS hD rfl hA (fun H locs hP hD hS => ?_)
        refine W.eq (g2 := F0 m 41 ls []) rfl ?_
        refine lv_aload_n hx hb d_Fa_feed_41 rfl (lv_at hl 0 rfl) ?_
        refine va_get (D := (dC, dI)) (ci := 0) (v := .ref (ad 20)) (C := R_Fa) (T := F_Fa) (N := 7) hx hb hts iw_Fa hown hK hP 0 rfl rfl 3 (by decide) (hts _ m_243) (fun _ h9 => h9) rfl d_Fa_feed_42 ?_
        obtain ⟨r11, hc12, hf⟩ := ob1_inv hf
        refine xk_i (xrunV (C := R_Tx) (As := []) (rest := []) ⟨hx, hb, hml, hown, hts⟩ (c_Tx_length l dC dI ty ad ta H.size co_rows co_marks co_rowSets co_partners co_open co_count tr_kinds tr_lefts tr_rights tr_seconds tr_size gr_kinds gr_nodes gr_rowSets gr_firstStates gr_targetCounts gr_targets gr_stepScores gr_letterScores gr_size w6 w7 va_scores va_knownEnds hi_begins hi_lengths hi_scores hi_taken w9 de_states de_begins de_lengths de_length  r11 hc12) z_Fa_149 ⟨⟨rfl, rfl⟩, by decide, by decide⟩ hK hP hD hN hS hA (va_recv hK hP (ci := 4) (q0 := 20) rfl rfl) rfl hl.1 rfl (Nat.le_of_ble_eq_true rfl) d_Fa_feed_45 ⟨Nat.zero_le _, Nat.zero_le _⟩) hS hD rfl hA (fun H locs hP hD hS => ?_)
        refine W.eq (g2 := F0 m 48 ls [.int r11]) rfl ?_
        obtain ⟨rfl, rfl, rfl, rfl⟩ := os4 hf
        exact hret H locs _ _ _ d_Fa_feed_48 rfl hP hS
      · have hf := xif_f c5 hf
        refine lv_ldc (v := -1000000) hx hb hown (hts _ m_308) d_Fa_feed_22 ?_
        obtain ⟨rfl, rfl, rfl, rfl⟩ := os4 hf
        exact hret H locs _ _ _ d_Fa_feed_24 rfl hP hS
def f_Tx_empty (tx_length : Int32) : Option (Int32) := some ((0 : Int32))
set_option maxHeartbeats 4000000 in
set_option maxRecDepth 100000 in
theorem c_Tx_empty (l : Launch) (dC : Nat → ClassId) (dI : Nat → Nat → Nat) (ty : Nat → ClassId) (ad : Nat → Nat) (ta : Nat → Nat) (sz : Nat) (co_rows : Int32) (co_marks : (Nat → Int32)) (co_rowSets : (Nat → Int32)) (co_partners : (Nat → Int32)) (co_open : (Nat → Int32)) (co_count : Int32) (tr_kinds : (Nat → Int32)) (tr_lefts : (Nat → Int32)) (tr_rights : (Nat → Int32)) (tr_seconds : (Nat → Int32)) (tr_size : Int32) (gr_kinds : (Nat → Int32)) (gr_nodes : (Nat → Int32)) (gr_rowSets : (Nat → Int32)) (gr_firstStates : (Nat → Int32)) (gr_targetCounts : (Nat → Int32)) (gr_targets : (Nat → Int32)) (gr_stepScores : (Nat → Int32)) (gr_letterScores : (Nat → Int32)) (gr_size : Int32) (tx_letters : (Nat → Int32)) (tx_length : Int32) (va_scores : (Nat → Int32)) (va_knownEnds : Int32) (hi_begins : (Nat → Int32)) (hi_lengths : (Nat → Int32)) (hi_scores : (Nat → Int32)) (hi_taken : (Nat → Int32)) (hi_count : Int32) (de_states : (Nat → Int32)) (de_begins : (Nat → Int32)) (de_lengths : (Nat → Int32)) (de_length : Int32)  (n_tx_length : Int32) (hf : f_Tx_empty tx_length = some (n_tx_length)) : Met l y_Tx_empty (.code y_Tx_empty prog_6_method_7_code 1 none :: gw) rm_Tx_empty (xPre ta (dC, dI) classes (tys3 ty) (wX ty ad co_rows co_marks co_rowSets co_partners co_open co_count tr_kinds tr_lefts tr_rights tr_seconds tr_size gr_kinds gr_nodes gr_rowSets gr_firstStates gr_targetCounts gr_targets gr_stepScores gr_letterScores gr_size tx_letters tx_length va_scores va_knownEnds hi_begins hi_lengths hi_scores hi_taken hi_count de_states de_begins de_lengths de_length) sz [.ref (ad 20)]) (xQv (dC, dI) classes (wX ty ad co_rows co_marks co_rowSets co_partners co_open co_count tr_kinds tr_lefts tr_rights tr_seconds tr_size gr_kinds gr_nodes gr_rowSets gr_firstStates gr_targetCounts gr_targets gr_stepScores gr_letterScores gr_size tx_letters tx_length va_scores va_knownEnds hi_begins hi_lengths hi_scores hi_taken hi_count de_states de_begins de_lengths de_length) (wX ty ad co_rows co_marks co_rowSets co_partners co_open co_count tr_kinds tr_lefts tr_rights tr_seconds tr_size gr_kinds gr_nodes gr_rowSets gr_firstStates gr_targetCounts gr_targets gr_stepScores gr_letterScores gr_size tx_letters n_tx_length va_scores va_knownEnds hi_begins hi_lengths hi_scores hi_taken hi_count de_states de_begins de_lengths de_length) sz) 0 0 (va_A (wX ty ad co_rows co_marks co_rowSets co_partners co_open co_count tr_kinds tr_lefts tr_rights tr_seconds tr_size gr_kinds gr_nodes gr_rowSets gr_firstStates gr_targetCounts gr_targets gr_stepScores gr_letterScores gr_size tx_letters tx_length va_scores va_knownEnds hi_begins hi_lengths hi_scores hi_taken hi_count de_states de_begins de_lengths de_length) sz) := by
  refine xmet_v rfl (Nat.le_of_ble_eq_true rfl) ?_
  intro p e s m below meth c A ls Q hx hb hml hts hown hK hN hA hP hD hS hl hret
  replace hown : s.vm.findClass R_Tx = some m.cls := hown
  have hl : lv_has ls 1 [(0, .ref (ad 20))] := hl
  rw [f_Tx_empty] at hf
  obtain ⟨H, eH⟩ : ∃ H : Heap, H = s.heap := ⟨_, rfl⟩
  obtain ⟨locs, eL⟩ : ∃ L : List Loc, L = [] := ⟨_, rfl⟩
  have hP : va_P (dC, dI) classes (wX ty ad co_rows co_marks co_rowSets co_partners co_open co_count tr_kinds tr_lefts tr_rights tr_seconds tr_size gr_kinds gr_nodes gr_rowSets gr_firstStates gr_targetCounts gr_targets gr_stepScores gr_letterScores gr_size tx_letters tx_length va_scores va_knownEnds hi_begins hi_lengths hi_scores hi_taken hi_count de_states de_begins de_lengths de_length) H := by rw [eH]; exact hP
  have hS : va_S A s.heap H locs := by rw [eH, eL]; exact hS
  rw [← eL]
  suffices hgoal : W p l e rm_Tx_empty s m (List.toArray [.ref (ad 20)]) below meth c H locs 0 0 Q (F0 m 0 ls []) by rw [eH] at hgoal; exact hgoal
  clear eH eL
  refine lv_aload_n hx hb d_Tx_empty_0 rfl (lv_at hl 0 rfl) ?_
  refine lv_iconst (v := 0) hx hb d_Tx_empty_1 (by decide) ?_
  refine va_put (D := (dC, dI)) (ci := 4) (v := .int (0 : Int32)) (ty := .int) (C := R_Tx) (T := F_Tx) (N := 2) hx hb hts iw_Tx t_Tx t_Tx_ok n_Tx hown hK hP hD hS 20 rfl rfl 1 (by decide) (hts _ m_173) (fun _ h9 => h9) rfl (by decide +kernel) rfl rfl (Nat.le_of_ble_eq_true rfl) d_Tx_empty_2 (fun H locs hP hD hS => ?_)
  have hP : va_P (dC, dI) classes (wX ty ad co_rows co_marks co_rowSets co_partners co_open co_count tr_kinds tr_lefts tr_rights tr_seconds tr_size gr_kinds gr_nodes gr_rowSets gr_firstStates gr_targetCounts gr_targets gr_stepScores gr_letterScores gr_size tx_letters (0 : Int32) va_scores va_knownEnds hi_begins hi_lengths hi_scores hi_taken hi_count de_states de_begins de_lengths de_length) H := hP
  have hD : va_D A (wX ty ad co_rows co_marks co_rowSets co_partners co_open co_count tr_kinds tr_lefts tr_rights tr_seconds tr_size gr_kinds gr_nodes gr_rowSets gr_firstStates gr_targetCounts gr_targets gr_stepScores gr_letterScores gr_size tx_letters (0 : Int32) va_scores va_knownEnds hi_begins hi_lengths hi_scores hi_taken hi_count de_states de_begins de_lengths de_length) := hD
  obtain rfl := os1 hf
  exact hret H locs _ _ d_Tx_empty_5 hP hS
