/-! pure functions and contracts of Fa_erase, Tx_hasPart, Va_place, Gr_targetCount, Va_of, Va_throughTarget, Tx_letter, Va_emitted, Va_greatestOfTargets (written by wip/gen) -/
def f_Fa_erase (tx_length : Int32) (va_knownEnds : Int32) (hi_count : Int32) : Option (Int32 × Int32 × Int32) := ob1 (f_Tx_empty tx_length) (fun w1 => ob1 (f_Va_forget va_knownEnds) (fun w3 => ob1 (f_Hi_forget hi_count) (fun w5 => some (w1, w3, w5))))
set_option maxHeartbeats 4000000 in
set_option maxRecDepth 100000 in
theorem c_Fa_erase (l : Launch) (dC : Nat → ClassId) (dI : Nat → Nat → Nat) (ty : Nat → ClassId) (ad : Nat → Nat) (ta : Nat → Nat) (sz : Nat) (co_rows : Int32) (co_marks : (Nat → Int32)) (co_rowSets : (Nat → Int32)) (co_partners : (Nat → Int32)) (co_open : (Nat → Int32)) (co_count : Int32) (tr_kinds : (Nat → Int32)) (tr_lefts : (Nat → Int32)) (tr_rights : (Nat → Int32)) (tr_seconds : (Nat → Int32)) (tr_size : Int32) (gr_kinds : (Nat → Int32)) (gr_nodes : (Nat → Int32)) (gr_rowSets : (Nat → Int32)) (gr_firstStates : (Nat → Int32)) (gr_targetCounts : (Nat → Int32)) (gr_targets : (Nat → Int32)) (gr_stepScores : (Nat → Int32)) (gr_letterScores : (Nat → Int32)) (gr_size : Int32) (tx_letters : (Nat → Int32)) (tx_length : Int32) (va_scores : (Nat → Int32)) (va_knownEnds : Int32) (hi_begins : (Nat → Int32)) (hi_lengths : (Nat → Int32)) (hi_scores : (Nat → Int32)) (hi_taken : (Nat → Int32)) (hi_count : Int32) (de_states : (Nat → Int32)) (de_begins : (Nat → Int32)) (de_lengths : (Nat → Int32)) (de_length : Int32)  (n_tx_length : Int32) (n_va_knownEnds : Int32) (n_hi_count : Int32) (hf : f_Fa_erase tx_length va_knownEnds hi_count = some (n_tx_length, n_va_knownEnds, n_hi_count)) : Met l y_Fa_erase (.code y_Fa_erase prog_1_method_11_code 1 none :: gw) rm_Fa_erase (xPre ta (dC, dI) classes (tys3 ty) (wX ty ad co_rows co_marks co_rowSets co_partners co_open co_count tr_kinds tr_lefts tr_rights tr_seconds tr_size gr_kinds gr_nodes gr_rowSets gr_firstStates gr_targetCounts gr_targets gr_stepScores gr_letterScores gr_size tx_letters tx_length va_scores va_knownEnds hi_begins hi_lengths hi_scores hi_taken hi_count de_states de_begins de_lengths de_length) sz [.ref (ad 0)]) (xQv (dC, dI) classes (wX ty ad co_rows co_marks co_rowSets co_partners co_open co_count tr_kinds tr_lefts tr_rights tr_seconds tr_size gr_kinds gr_nodes gr_rowSets gr_firstStates gr_targetCounts gr_targets gr_stepScores gr_letterScores gr_size tx_letters tx_length va_scores va_knownEnds hi_begins hi_lengths hi_scores hi_taken hi_count de_states de_begins de_lengths de_length) (wX ty ad co_rows co_marks co_rowSets co_partners co_open co_count tr_kinds tr_lefts tr_rights tr_seconds tr_size gr_kinds gr_nodes gr_rowSets gr_firstStates gr_targetCounts gr_targets gr_stepScores gr_letterScores gr_size tx_letters n_tx_length va_scores n_va_knownEnds hi_begins hi_lengths hi_scores hi_taken n_hi_count de_states de_begins de_lengths de_length) sz) 0 0 (va_A (wX ty ad co_rows co_marks co_rowSets co_partners co_open co_count tr_kinds tr_lefts tr_rights tr_seconds tr_size gr_kinds gr_nodes gr_rowSets gr_firstStates gr_targetCounts gr_targets gr_stepScores gr_letterScores gr_size tx_letters tx_length va_scores va_knownEnds hi_begins hi_lengths hi_scores hi_taken hi_count de_states de_begins de_lengths de_length) sz) := by
  refine xmet_v rfl (Nat.le_of_ble_eq_true rfl) ?_
  intro p e s m below meth c A ls Q hx hb hml hts hown hK hN hA hP hD hS hl hret
  replace hown : s.vm.findClass R_Fa = some m.cls := hown
  have hl : lv_has ls 1 [(0, .ref (ad 0))] := hl
  rw [f_Fa_erase] at hf
  obtain ⟨H, eH⟩ : ∃ H : Heap, H = s.heap := ⟨_, rfl⟩
  obtain ⟨locs, eL⟩ : ∃ L : List Loc, L = [] := ⟨_, rfl⟩
  have hP : va_P (dC, dI) classes (wX ty ad co_rows co_marks co_rowSets co_partners co_open co_count tr_kinds tr_lefts tr_rights tr_seconds tr_size gr_kinds gr_nodes gr_rowSets gr_firstStates gr_targetCounts gr_targets gr_stepScores gr_letterScores gr_size tx_letters tx_length va_scores va_knownEnds hi_begins hi_lengths hi_scores hi_taken hi_count de_states de_begins de_lengths de_length) H := by rw [eH]; exact hP
  have hS : va_S A s.heap H locs := by rw [eH, eL]; exact hS
  rw [← eL]
  suffices hgoal : W p l e rm_Fa_erase s m (List.toArray [.ref (ad 0)]) below meth c H locs 0 0 Q (F0 m 0 ls []) by rw [eH] at hgoal; exact hgoal
  clear eH eL
  refine lv_aload_n hx hb d_Fa_erase_0 rfl (lv_at hl 0 rfl) ?_
  refine va_get (D := (dC, dI)) (ci := 0) (v := .ref (ad 20)) (C := R_Fa) (T := F_Fa) (N := 7) hx hb hts iw_Fa hown hK hP 0 rfl rfl 3 (by decide) (hts _ m_243) (fun _ h9 => h9) rfl d_Fa_erase_1 ?_
  obtain ⟨w1, hc2, hf⟩ := ob1_inv hf
  refine xk_v (xrunV (C := R_Tx) (As := []) (rest := []) ⟨hx, hb, hml, hown, hts⟩ (c_Tx_empty l dC dI ty ad ta H.size co_rows co_marks co_rowSets co_partners co_open co_count tr_kinds tr_lefts tr_rights tr_seconds tr_size gr_kinds gr_nodes gr_rowSets gr_firstStates gr_targetCounts gr_targets gr_stepScores gr_letterScores gr_size tx_letters tx_length va_scores va_knownEnds hi_begins hi_lengths hi_scores hi_taken hi_count de_states de_begins de_lengths de_length  w1 hc2) z_Fa_152 ⟨⟨rfl, rfl⟩, by decide, by decide⟩ hK hP hD hN hS hA (va_recv hK hP (ci := 4) (q0 := 20) rfl rfl) rfl hl.1 rfl (Nat.le_of_ble_eq_true rfl) d_Fa_erase_4 ⟨Nat.zero_le _, Nat.zero_le _⟩) hS hD rfl hA (fun H locs hP hD hS => ?_)
  refine W.eq (g2 := F0 m 7 ls []) rfl ?_
  refine lv_aload_n hx hb d_Fa_erase_7 rfl (lv_at hl 0 rfl) ?_
  refine va_get (D := (dC, dI)) (ci := 0) (v := .ref (ad 22)) (C := R_Fa) (T := F_Fa) (N := 7) hx hb hts iw_Fa hown hK hP 0 rfl rfl 4 (by decide) (hts _ m_244) (fun _ h9 => h9) rfl d_Fa_erase_8 ?_
  obtain ⟨w3, hc4, hf⟩ := ob1_inv hf
  refine xk_v (xrunV (C := R_Va) (As := []) (rest := []) ⟨hx, hb, hml, hown, hts⟩ (c_Va_forget l dC dI ty ad ta H.size co_rows co_marks co_rowSets co_partners co_open co_count tr_kinds tr_lefts tr_rights tr_seconds tr_size gr_kinds gr_nodes gr_rowSets gr_firstStates gr_targetCounts gr_targets gr_stepScores gr_letterScores gr_size tx_letters w1 va_scores va_knownEnds hi_begins hi_lengths hi_scores hi_taken hi_count de_states de_begins de_lengths de_length  w3 hc4) z_Fa_103 ⟨⟨rfl, rfl⟩, by decide, by decide⟩ hK hP hD hN hS hA (va_recv hK hP (ci := 5) (q0 := 22) rfl rfl) rfl hl.1 rfl (Nat.le_of_ble_eq_true rfl) d_Fa_erase_11 ⟨Nat.zero_le _, Nat.zero_le _⟩) hS hD rfl hA (fun H locs hP hD hS => ?_)
  refine W.eq (g2 := F0 m 14 ls []) rfl ?_
  refine lv_aload_n hx hb d_Fa_erase_14 rfl (lv_at hl 0 rfl) ?_
  refine va_get (D := (dC, dI)) (ci := 0) (v := .ref (ad 24)) (C := R_Fa) (T := F_Fa) (N := 7) hx hb hts iw_Fa hown hK hP 0 rfl rfl 5 (by decide) (hts _ m_245) (fun _ h9 => h9) rfl d_Fa_erase_15 ?_
  obtain ⟨w5, hc6, hf⟩ := ob1_inv hf
  refine xk_v (xrunV (C := R_Hi) (As := []) (rest := []) ⟨hx, hb, hml, hown, hts⟩ (c_Hi_forget l dC dI ty ad ta H.size co_rows co_marks co_rowSets co_partners co_open co_count tr_kinds tr_lefts tr_rights tr_seconds tr_size gr_kinds gr_nodes gr_rowSets gr_firstStates gr_targetCounts gr_targets gr_stepScores gr_letterScores gr_size tx_letters w1 va_scores w3 hi_begins hi_lengths hi_scores hi_taken hi_count de_states de_begins de_lengths de_length  w5 hc6) z_Fa_106 ⟨⟨rfl, rfl⟩, by decide, by decide⟩ hK hP hD hN hS hA (va_recv hK hP (ci := 6) (q0 := 24) rfl rfl) rfl hl.1 rfl (Nat.le_of_ble_eq_true rfl) d_Fa_erase_18 ⟨Nat.zero_le _, Nat.zero_le _⟩) hS hD rfl hA (fun H locs hP hD hS => ?_)
  refine W.eq (g2 := F0 m 21 ls []) rfl ?_
  obtain ⟨rfl, rfl, rfl⟩ := os3 hf
  exact hret H locs _ _ d_Fa_erase_21 hP hS
def f_Tx_hasPart (tx_length : Int32) (a1 : Int32) (a2 : Int32) : Option (Int32) := if a1 < (0 : Int32) then (some ((0 : Int32))) else (if a2 < (0 : Int32) then (some ((0 : Int32))) else (if tx_length < a2 then (some ((0 : Int32))) else (if (tx_length - a2) < a1 then (some ((0 : Int32))) else (some ((1 : Int32))))))
set_option maxHeartbeats 4000000 in
set_option maxRecDepth 100000 in
theorem c_Tx_hasPart (l : Launch) (dC : Nat → ClassId) (dI : Nat → Nat → Nat) (ty : Nat → ClassId) (ad : Nat → Nat) (ta : Nat → Nat) (sz : Nat) (co_rows : Int32) (co_marks : (Nat → Int32)) (co_rowSets : (Nat → Int32)) (co_partners : (Nat → Int32)) (co_open : (Nat → Int32)) (co_count : Int32) (tr_kinds : (Nat → Int32)) (tr_lefts : (Nat → Int32)) (tr_rights : (Nat → Int32)) (tr_seconds : (Nat → Int32)) (tr_size : Int32) (gr_kinds : (Nat → Int32)) (gr_nodes : (Nat → Int32)) (gr_rowSets : (Nat → Int32)) (gr_firstStates : (Nat → Int32)) (gr_targetCounts : (Nat → Int32)) (gr_targets : (Nat → Int32)) (gr_stepScores : (Nat → Int32)) (gr_letterScores : (Nat → Int32)) (gr_size : Int32) (tx_letters : (Nat → Int32)) (tx_length : Int32) (va_scores : (Nat → Int32)) (va_knownEnds : Int32) (hi_begins : (Nat → Int32)) (hi_lengths : (Nat → Int32)) (hi_scores : (Nat → Int32)) (hi_taken : (Nat → Int32)) (hi_count : Int32) (de_states : (Nat → Int32)) (de_begins : (Nat → Int32)) (de_lengths : (Nat → Int32)) (de_length : Int32) (a1 : Int32) (a2 : Int32) (r0 : Int32) (hf : f_Tx_hasPart tx_length a1 a2 = some (r0)) : Met l y_Tx_hasPart (.code y_Tx_hasPart prog_6_method_5_code 3 (some .boolean) :: gw) rm_Tx_hasPart (xPre ta (dC, dI) classes (tys3 ty) (wX ty ad co_rows co_marks co_rowSets co_partners co_open co_count tr_kinds tr_lefts tr_rights tr_seconds tr_size gr_kinds gr_nodes gr_rowSets gr_firstStates gr_targetCounts gr_targets gr_stepScores gr_letterScores gr_size tx_letters tx_length va_scores va_knownEnds hi_begins hi_lengths hi_scores hi_taken hi_count de_states de_begins de_lengths de_length) sz [.ref (ad 20), .int a1, .int a2]) (xQi (dC, dI) classes (wX ty ad co_rows co_marks co_rowSets co_partners co_open co_count tr_kinds tr_lefts tr_rights tr_seconds tr_size gr_kinds gr_nodes gr_rowSets gr_firstStates gr_targetCounts gr_targets gr_stepScores gr_letterScores gr_size tx_letters tx_length va_scores va_knownEnds hi_begins hi_lengths hi_scores hi_taken hi_count de_states de_begins de_lengths de_length) (wX ty ad co_rows co_marks co_rowSets co_partners co_open co_count tr_kinds tr_lefts tr_rights tr_seconds tr_size gr_kinds gr_nodes gr_rowSets gr_firstStates gr_targetCounts gr_targets gr_stepScores gr_letterScores gr_size tx_letters tx_length va_scores va_knownEnds hi_begins hi_lengths hi_scores hi_taken hi_count de_states de_begins de_lengths de_length) sz r0) 0 0 (va_A (wX ty ad co_rows co_marks co_rowSets co_partners co_open co_count tr_kinds tr_lefts tr_rights tr_seconds tr_size gr_kinds gr_nodes gr_rowSets gr_firstStates gr_targetCounts gr_targets gr_stepScores gr_letterScores gr_size tx_letters tx_length va_scores va_knownEnds hi_begins hi_lengths hi_scores hi_taken hi_count de_states de_begins de_lengths de_length) sz) := by
  refine xmet_z rfl (Nat.le_of_ble_eq_true rfl) ?_
  intro p e s m below meth c A ls Q hx hb hml hts hown hK hN hA hP hD hS hl hret
  replace hown : s.vm.findClass R_Tx = some m.cls := hown
  have hl : lv_has ls 3 [(0, .ref (ad 20)), (1, .int a1), (2, .int a2)] := hl
  rw [f_Tx_hasPart] at hf
  obtain ⟨H, eH⟩ : ∃ H : Heap, H = s.heap := ⟨_, rfl⟩
  obtain ⟨locs, eL⟩ : ∃ L : List Loc, L = [] := ⟨_, rfl⟩
  have hP : va_P (dC, dI) classes (wX ty ad co_rows co_marks co_rowSets co_partners co_open co_count tr_kinds tr_lefts tr_rights tr_seconds tr_size gr_kinds gr_nodes gr_rowSets gr_firstStates gr_targetCounts gr_targets gr_stepScores gr_letterScores gr_size tx_letters tx_length va_scores va_knownEnds hi_begins hi_lengths hi_scores hi_taken hi_count de_states de_begins de_lengths de_length) H := by rw [eH]; exact hP
  have hS : va_S A s.heap H locs := by rw [eH, eL]; exact hS
  rw [← eL]
  suffices hgoal : W p l e rm_Tx_hasPart s m (List.toArray [.ref (ad 20), .int a1, .int a2]) below meth c H locs 0 0 Q (F0 m 0 ls []) by rw [eH] at hgoal; exact hgoal
  clear eH eL
  refine lv_iload_n hx hb d_Tx_hasPart_0 rfl (lv_at hl 1 rfl) ?_
  refine lv_if_lt (tgt := 30) hx hb d_Tx_hasPart_1 (by decide) (fun c1 => ?_) (fun c1 => ?_)
  · have hf := xif_t c1 hf
    refine lv_iconst (v := 0) hx hb d_Tx_hasPart_30 (by decide) ?_
    obtain rfl := os1 hf
    exact hret H locs _ _ _ d_Tx_hasPart_31 rfl rfl hP hS
  · have hf := xif_f c1 hf
    refine lv_iload_n hx hb d_Tx_hasPart_4 rfl (lv_at hl 2 rfl) ?_
    refine lv_if_lt (tgt := 30) hx hb d_Tx_hasPart_5 (by decide) (fun c2 => ?_) (fun c2 => ?_)
    · have hf := xif_t c2 hf
      refine lv_iconst (v := 0) hx hb d_Tx_hasPart_30 (by decide) ?_
      obtain rfl := os1 hf
      exact hret H locs _ _ _ d_Tx_hasPart_31 rfl rfl hP hS
    · have hf := xif_f c2 hf
      refine lv_iload_n hx hb d_Tx_hasPart_8 rfl (lv_at hl 2 rfl) ?_
      refine lv_aload_n hx hb d_Tx_hasPart_9 rfl (lv_at hl 0 rfl) ?_
      refine va_get (D := (dC, dI)) (ci := 4) (v := .int tx_length) (C := R_Tx) (T := F_Tx) (N := 2) hx hb hts iw_Tx hown hK hP 20 rfl rfl 1 (by decide) (hts _ m_173) (fun _ h9 => h9) rfl d_Tx_hasPart_10 ?_
      refine lv_icmp_gt (tgt := 30) hx hb d_Tx_hasPart_13 (by decide) (fun c3 => ?_) (fun c3 => ?_)
      · have hf := xif_t c3 hf
        refine lv_iconst (v := 0) hx hb d_Tx_hasPart_30 (by decide) ?_
        obtain rfl := os1 hf
        exact hret H locs _ _ _ d_Tx_hasPart_31 rfl rfl hP hS
      · have hf := xif_f c3 hf
        refine lv_iload_n hx hb d_Tx_hasPart_16 rfl (lv_at hl 1 rfl) ?_
        refine lv_aload_n hx hb d_Tx_hasPart_17 rfl (lv_at hl 0 rfl) ?_
        refine va_get (D := (dC, dI)) (ci := 4) (v := .int tx_length) (C := R_Tx) (T := F_Tx) (N := 2) hx hb hts iw_Tx hown hK hP 20 rfl rfl 1 (by decide) (hts _ m_173) (fun _ h9 => h9) rfl d_Tx_hasPart_18 ?_
        refine lv_iload_n hx hb d_Tx_hasPart_21 rfl (lv_at hl 2 rfl) ?_
        refine lv_isub hx hb d_Tx_hasPart_22 ?_
        refine lv_icmp_gt (tgt := 30) hx hb d_Tx_hasPart_23 (by decide) (fun c4 => ?_) (fun c4 => ?_)
        · have hf := xif_t c4 hf
          refine lv_iconst (v := 0) hx hb d_Tx_hasPart_30 (by decide) ?_
          obtain rfl := os1 hf
          exact hret H locs _ _ _ d_Tx_hasPart_31 rfl rfl hP hS
        · have hf := xif_f c4 hf
          refine lv_iconst (v := 1) hx hb d_Tx_hasPart_26 (by decide) ?_
          refine lv_goto (tgt := 31) hx hb d_Tx_hasPart_27 (by decide) ?_
          obtain rfl := os1 hf
          exact hret H locs _ _ _ d_Tx_hasPart_31 rfl rfl hP hS
def f_Va_place (a1 : Int32) (a2 : Int32) (a3 : Int32) : Option (Int32) := some (((((a1 * (247 : Int32)) + (a3 * (25 : Int32))) - ((a3 * (a3 - (1 : Int32))) / (2 : Int32))) + a2))
set_option maxHeartbeats 4000000 in
set_option maxRecDepth 100000 in
theorem c_Va_place (l : Launch) (dC : Nat → ClassId) (dI : Nat → Nat → Nat) (ty : Nat → ClassId) (ad : Nat → Nat) (ta : Nat → Nat) (sz : Nat) (co_rows : Int32) (co_marks : (Nat → Int32)) (co_rowSets : (Nat → Int32)) (co_partners : (Nat → Int32)) (co_open : (Nat → Int32)) (co_count : Int32) (tr_kinds : (Nat → Int32)) (tr_lefts : (Nat → Int32)) (tr_rights : (Nat → Int32)) (tr_seconds : (Nat → Int32)) (tr_size : Int32) (gr_kinds : (Nat → Int32)) (gr_nodes : (Nat → Int32)) (gr_rowSets : (Nat → Int32)) (gr_firstStates : (Nat → Int32)) (gr_targetCounts : (Nat → Int32)) (gr_targets : (Nat → Int32)) (gr_stepScores : (Nat → Int32)) (gr_letterScores : (Nat → Int32)) (gr_size : Int32) (tx_letters : (Nat → Int32)) (tx_length : Int32) (va_scores : (Nat → Int32)) (va_knownEnds : Int32) (hi_begins : (Nat → Int32)) (hi_lengths : (Nat → Int32)) (hi_scores : (Nat → Int32)) (hi_taken : (Nat → Int32)) (hi_count : Int32) (de_states : (Nat → Int32)) (de_begins : (Nat → Int32)) (de_lengths : (Nat → Int32)) (de_length : Int32) (a1 : Int32) (a2 : Int32) (a3 : Int32) (r0 : Int32) (hf : f_Va_place a1 a2 a3 = some (r0)) : Met l y_Va_place (.code y_Va_place prog_8_method_14_code 3 (some .int) :: gw) rm_Va_place (xPre ta (dC, dI) classes (tys3 ty) (wX ty ad co_rows co_marks co_rowSets co_partners co_open co_count tr_kinds tr_lefts tr_rights tr_seconds tr_size gr_kinds gr_nodes gr_rowSets gr_firstStates gr_targetCounts gr_targets gr_stepScores gr_letterScores gr_size tx_letters tx_length va_scores va_knownEnds hi_begins hi_lengths hi_scores hi_taken hi_count de_states de_begins de_lengths de_length) sz [.int a1, .int a2, .int a3]) (xQi (dC, dI) classes (wX ty ad co_rows co_marks co_rowSets co_partners co_open co_count tr_kinds tr_lefts tr_rights tr_seconds tr_size gr_kinds gr_nodes gr_rowSets gr_firstStates gr_targetCounts gr_targets gr_stepScores gr_letterScores gr_size tx_letters tx_length va_scores va_knownEnds hi_begins hi_lengths hi_scores hi_taken hi_count de_states de_begins de_lengths de_length) (wX ty ad co_rows co_marks co_rowSets co_partners co_open co_count tr_kinds tr_lefts tr_rights tr_seconds tr_size gr_kinds gr_nodes gr_rowSets gr_firstStates gr_targetCounts gr_targets gr_stepScores gr_letterScores gr_size tx_letters tx_length va_scores va_knownEnds hi_begins hi_lengths hi_scores hi_taken hi_count de_states de_begins de_lengths de_length) sz r0) 0 0 (va_A (wX ty ad co_rows co_marks co_rowSets co_partners co_open co_count tr_kinds tr_lefts tr_rights tr_seconds tr_size gr_kinds gr_nodes gr_rowSets gr_firstStates gr_targetCounts gr_targets gr_stepScores gr_letterScores gr_size tx_letters tx_length va_scores va_knownEnds hi_begins hi_lengths hi_scores hi_taken hi_count de_states de_begins de_lengths de_length) sz) := by
  refine xmet_i rfl (Nat.le_of_ble_eq_true rfl) ?_
  intro p e s m below meth c A ls Q hx hb hml hts hown hK hN hA hP hD hS hl hret
  replace hown : s.vm.findClass R_Va = some m.cls := hown
  have hl : lv_has ls 3 [(0, .int a1), (1, .int a2), (2, .int a3)] := hl
  rw [f_Va_place] at hf
  obtain ⟨H, eH⟩ : ∃ H : Heap, H = s.heap := ⟨_, rfl⟩
  obtain ⟨locs, eL⟩ : ∃ L : List Loc, L = [] := ⟨_, rfl⟩
  have hP : va_P (dC, dI) classes (wX ty ad co_rows co_marks co_rowSets co_partners co_open co_count tr_kinds tr_lefts tr_rights tr_seconds tr_size gr_kinds gr_nodes gr_rowSets gr_firstStates gr_targetCounts gr_targets gr_stepScores gr_letterScores gr_size tx_letters tx_length va_scores va_knownEnds hi_begins hi_lengths hi_scores hi_taken hi_count de_states de_begins de_lengths de_length) H := by rw [eH]; exact hP
  have hS : va_S A s.heap H locs := by rw [eH, eL]; exact hS
  rw [← eL]
  suffices hgoal : W p l e rm_Va_place s m (List.toArray [.int a1, .int a2, .int a3]) below meth c H locs 0 0 Q (F0 m 0 ls []) by rw [eH] at hgoal; exact hgoal
  clear eH eL
  refine lv_iload_n hx hb d_Va_place_0 rfl (lv_at hl 0 rfl) ?_
  refine lv_sipush (v := 247) hx hb d_Va_place_1 (by decide) ?_
  refine lv_imul hx hb d_Va_place_4 ?_
  refine lv_iload_n hx hb d_Va_place_5 rfl (lv_at hl 2 rfl) ?_
  refine lv_bipush (v := 25) hx hb d_Va_place_6 (by decide) ?_
  refine lv_imul hx hb d_Va_place_8 ?_
  refine lv_iadd hx hb d_Va_place_9 ?_
  refine lv_iload_n hx hb d_Va_place_10 rfl (lv_at hl 2 rfl) ?_
  refine lv_iload_n hx hb d_Va_place_11 rfl (lv_at hl 2 rfl) ?_
  refine lv_iconst (v := 1) hx hb d_Va_place_12 (by decide) ?_
  refine lv_isub hx hb d_Va_place_13 ?_
  refine lv_imul hx hb d_Va_place_14 ?_
  refine lv_iconst (v := 2) hx hb d_Va_place_15 (by decide) ?_
  refine lv_idiv hx hb d_Va_place_16 (by decide) ?_
  refine lv_isub hx hb d_Va_place_17 ?_
  refine lv_iload_n hx hb d_Va_place_18 rfl (lv_at hl 1 rfl) ?_
  refine lv_iadd hx hb d_Va_place_19 ?_
  obtain rfl := os1 hf
  exact hret H locs _ _ _ d_Va_place_20 rfl hP hS
def f_Gr_targetCount (gr_targetCounts : (Nat → Int32)) (a1 : Int32) : Option (Int32) := gd (xin a1 43) (some ((gr_targetCounts (Int32.toNatClampNeg a1))))
set_option maxHeartbeats 4000000 in
set_option maxRecDepth 100000 in
theorem c_Gr_targetCount (l : Launch) (dC : Nat → ClassId) (dI : Nat → Nat → Nat) (ty : Nat → ClassId) (ad : Nat → Nat) (ta : Nat → Nat) (sz : Nat) (co_rows : Int32) (co_marks : (Nat → Int32)) (co_rowSets : (Nat → Int32)) (co_partners : (Nat → Int32)) (co_open : (Nat → Int32)) (co_count : Int32) (tr_kinds : (Nat → Int32)) (tr_lefts : (Nat → Int32)) (tr_rights : (Nat → Int32)) (tr_seconds : (Nat → Int32)) (tr_size : Int32) (gr_kinds : (Nat → Int32)) (gr_nodes : (Nat → Int32)) (gr_rowSets : (Nat → Int32)) (gr_firstStates : (Nat → Int32)) (gr_targetCounts : (Nat → Int32)) (gr_targets : (Nat → Int32)) (gr_stepScores : (Nat → Int32)) (gr_letterScores : (Nat → Int32)) (gr_size : Int32) (tx_letters : (Nat → Int32)) (tx_length : Int32) (va_scores : (Nat → Int32)) (va_knownEnds : Int32) (hi_begins : (Nat → Int32)) (hi_lengths : (Nat → Int32)) (hi_scores : (Nat → Int32)) (hi_taken : (Nat → Int32)) (hi_count : Int32) (de_states : (Nat → Int32)) (de_begins : (Nat → Int32)) (de_lengths : (Nat → Int32)) (de_length : Int32) (a1 : Int32) (r0 : Int32) (hf : f_Gr_targetCount gr_targetCounts a1 = some (r0)) : Met l y_Gr_targetCount (.code y_Gr_targetCount prog_4_method_8_code 2 (some .int) :: gw) rm_Gr_targetCount (xPre ta (dC, dI) classes (tys3 ty) (wX ty ad co_rows co_marks co_rowSets co_partners co_open co_count tr_kinds tr_lefts tr_rights tr_seconds tr_size gr_kinds gr_nodes gr_rowSets gr_firstStates gr_targetCounts gr_targets gr_stepScores gr_letterScores gr_size tx_letters tx_length va_scores va_knownEnds hi_begins hi_lengths hi_scores hi_taken hi_count de_states de_begins de_lengths de_length) sz [.ref (ad 11), .int a1]) (xQi (dC, dI) classes (wX ty ad co_rows co_marks co_rowSets co_partners co_open co_count tr_kinds tr_lefts tr_rights tr_seconds tr_size gr_kinds gr_nodes gr_rowSets gr_firstStates gr_targetCounts gr_targets gr_stepScores gr_letterScores gr_size tx_letters tx_length va_scores va_knownEnds hi_begins hi_lengths hi_scores hi_taken hi_count de_states de_begins de_lengths de_length) (wX ty ad co_rows co_marks co_rowSets co_partners co_open co_count tr_kinds tr_lefts tr_rights tr_seconds tr_size gr_kinds gr_nodes gr_rowSets gr_firstStates gr_targetCounts gr_targets gr_stepScores gr_letterScores gr_size tx_letters tx_length va_scores va_knownEnds hi_begins hi_lengths hi_scores hi_taken hi_count de_states de_begins de_lengths de_length) sz r0) 0 0 (va_A (wX ty ad co_rows co_marks co_rowSets co_partners co_open co_count tr_kinds tr_lefts tr_rights tr_seconds tr_size gr_kinds gr_nodes gr_rowSets gr_firstStates gr_targetCounts gr_targets gr_stepScores gr_letterScores gr_size tx_letters tx_length va_scores va_knownEnds hi_begins hi_lengths hi_scores hi_taken hi_count de_states de_begins de_lengths de_length) sz) := by
  refine xmet_i rfl (Nat.le_of_ble_eq_true rfl) ?_
  intro p e s m below meth c A ls Q hx hb hml hts hown hK hN hA hP hD hS hl hret
  replace hown : s.vm.findClass R_Gr = some m.cls := hown
  have hl : lv_has ls 2 [(0, .ref (ad 11)), (1, .int a1)] := hl
  rw [f_Gr_targetCount] at hf
  obtain ⟨H, eH⟩ : ∃ H : Heap, H = s.heap := ⟨_, rfl⟩
  obtain ⟨locs, eL⟩ : ∃ L : List Loc, L = [] := ⟨_, rfl⟩
  have hP : va_P (dC, dI) classes (wX ty ad co_rows co_marks co_rowSets co_partners co_open co_count tr_kinds tr_lefts tr_rights tr_seconds tr_size gr_kinds gr_nodes gr_rowSets gr_firstStates gr_targetCounts gr_targets gr_stepScores gr_letterScores gr_size tx_letters tx_length va_scores va_knownEnds hi_begins hi_lengths hi_scores hi_taken hi_count de_states de_begins de_lengths de_length) H := by rw [eH]; exact hP
  have hS : va_S A s.heap H locs := by rw [eH, eL]; exact hS
  rw [← eL]
  suffices hgoal : W p l e rm_Gr_targetCount s m (List.toArray [.ref (ad 11), .int a1]) below meth c H locs 0 0 Q (F0 m 0 ls []) by rw [eH] at hgoal; exact hgoal
  clear eH eL
  refine lv_aload_n hx hb d_Gr_targetCount_0 rfl (lv_at hl 0 rfl) ?_
  refine va_get (D := (dC, dI)) (ci := 3) (v := .ref (ad 16)) (C := R_Gr) (T := F_Gr) (N := 11) hx hb hts iw_Gr hown hK hP 11 rfl rfl 6 (by decide) (hts _ m_138) (fun _ h9 => h9) rfl d_Gr_targetCount_1 ?_
  refine lv_iload_n hx hb d_Gr_targetCount_4 rfl (lv_at hl 1 rfl) ?_
  obtain ⟨hi1, hf⟩ := gdi hf
  refine va_iald hx hb hK hP 16 0 rfl rfl hi1 d_Gr_targetCount_5 ?_
  obtain rfl := os1 hf
  exact hret H locs _ _ _ d_Gr_targetCount_6 rfl hP hS
def f_Va_of (va_scores : (Nat → Int32)) (a1 : Int32) (a2 : Int32) (a3 : Int32) : Option (Int32) := ob1 (f_Va_place a1 a2 a3) (fun r1 => gd (xin r1 10621) (some ((va_scores (Int32.toNatClampNeg r1)))))
set_option maxHeartbeats 4000000 in
set_option maxRecDepth 100000 in
theorem c_Va_of (l : Launch) (dC : Nat → ClassId) (dI : Nat → Nat → Nat) (ty : Nat → ClassId) (ad : Nat → Nat) (ta : Nat → Nat) (sz : Nat) (co_rows : Int32) (co_marks : (Nat → Int32)) (co_rowSets : (Nat → Int32)) (co_partners : (Nat → Int32)) (co_open : (Nat → Int32)) (co_count : Int32) (tr_kinds : (Nat → Int32)) (tr_lefts : (Nat → Int32)) (tr_rights : (Nat → Int32)) (tr_seconds : (Nat → Int32)) (tr_size : Int32) (gr_kinds : (Nat → Int32)) (gr_nodes : (Nat → Int32)) (gr_rowSets : (Nat → Int32)) (gr_firstStates : (Nat → Int32)) (gr_targetCounts : (Nat → Int32)) (gr_targets : (Nat → Int32)) (gr_stepScores : (Nat → Int32)) (gr_letterScores : (Nat → Int32)) (gr_size : Int32) (tx_letters : (Nat → Int32)) (tx_length : Int32) (va_scores : (Nat → Int32)) (va_knownEnds : Int32) (hi_begins : (Nat → Int32)) (hi_lengths : (Nat → Int32)) (hi_scores : (Nat → Int32)) (hi_taken : (Nat → Int32)) (hi_count : Int32) (de_states : (Nat → Int32)) (de_begins : (Nat → Int32)) (de_lengths : (Nat → Int32)) (de_length : Int32) (a1 : Int32) (a2 : Int32) (a3 : Int32) (r0 : Int32) (hf : f_Va_of va_scores a1 a2 a3 = some (r0)) : Met l y_Va_of (.code y_Va_of prog_8_method_5_code 4 (some .int) :: gw) rm_Va_of (xPre ta (dC, dI) classes (tys3 ty) (wX ty ad co_rows co_marks co_rowSets co_partners co_open co_count tr_kinds tr_lefts tr_rights tr_seconds tr_size gr_kinds gr_nodes gr_rowSets gr_firstStates gr_targetCounts gr_targets gr_stepScores gr_letterScores gr_size tx_letters tx_length va_scores va_knownEnds hi_begins hi_lengths hi_scores hi_taken hi_count de_states de_begins de_lengths de_length) sz [.ref (ad 22), .int a1, .int a2, .int a3]) (xQi (dC, dI) classes (wX ty ad co_rows co_marks co_rowSets co_partners co_open co_count tr_kinds tr_lefts tr_rights tr_seconds tr_size gr_kinds gr_nodes gr_rowSets gr_firstStates gr_targetCounts gr_targets gr_stepScores gr_letterScores gr_size tx_letters tx_length va_scores va_knownEnds hi_begins hi_lengths hi_scores hi_taken hi_count de_states de_begins de_lengths de_length) (wX ty ad co_rows co_marks co_rowSets co_partners co_open co_count tr_kinds tr_lefts tr_rights tr_seconds tr_size gr_kinds gr_nodes gr_rowSets gr_firstStates gr_targetCounts gr_targets gr_stepScores gr_letterScores gr_size tx_letters tx_length va_scores va_knownEnds hi_begins hi_lengths hi_scores hi_taken hi_count de_states de_begins de_lengths de_length) sz r0) 0 0 (va_A (wX ty ad co_rows co_marks co_rowSets co_partners co_open co_count tr_kinds tr_lefts tr_rights tr_seconds tr_size gr_kinds gr_nodes gr_rowSets gr_firstStates gr_targetCounts gr_targets gr_stepScores gr_letterScores gr_size tx_letters tx_length va_scores va_knownEnds hi_begins hi_lengths hi_scores hi_taken hi_count de_states de_begins de_lengths de_length) sz) := by
  refine xmet_i rfl (Nat.le_of_ble_eq_true rfl) ?_
  intro p e s m below meth c A ls Q hx hb hml hts hown hK hN hA hP hD hS hl hret
  replace hown : s.vm.findClass R_Va = some m.cls := hown
  have hl : lv_has ls 4 [(0, .ref (ad 22)), (1, .int a1), (2, .int a2), (3, .int a3)] := hl
  rw [f_Va_of] at hf
  obtain ⟨H, eH⟩ : ∃ H : Heap, H = s.heap := ⟨_, rfl⟩
  obtain ⟨locs, eL⟩ : ∃ L : List Loc, L = [] := ⟨_, rfl⟩
  have hP : va_P (dC, dI) classes (wX ty ad co_rows co_marks co_rowSets co_partners co_open co_count tr_kinds tr_lefts tr_rights tr_seconds tr_size gr_kinds gr_nodes gr_rowSets gr_firstStates gr_targetCounts gr_targets gr_stepScores gr_letterScores gr_size tx_letters tx_length va_scores va_knownEnds hi_begins hi_lengths hi_scores hi_taken hi_count de_states de_begins de_lengths de_length) H := by rw [eH]; exact hP
  have hS : va_S A s.heap H locs := by rw [eH, eL]; exact hS
  rw [← eL]
  suffices hgoal : W p l e rm_Va_of s m (List.toArray [.ref (ad 22), .int a1, .int a2, .int a3]) below meth c H locs 0 0 Q (F0 m 0 ls []) by rw [eH] at hgoal; exact hgoal
  clear eH eL
  refine lv_aload_n hx hb d_Va_of_0 rfl (lv_at hl 0 rfl) ?_
  refine va_get (D := (dC, dI)) (ci := 5) (v := .ref (ad 23)) (C := R_Va) (T := F_Va) (N := 4) hx hb hts iw_Va hown hK hP 22 rfl rfl 2 (by decide) (hts _ m_187) (fun _ h9 => h9) rfl d_Va_of_1 ?_
  refine lv_iload_n hx hb d_Va_of_4 rfl (lv_at hl 1 rfl) ?_
  refine lv_iload_n hx hb d_Va_of_5 rfl (lv_at hl 2 rfl) ?_
  refine lv_iload_n hx hb d_Va_of_6 rfl (lv_at hl 3 rfl) ?_
  obtain ⟨r1, hc2, hf⟩ := ob1_inv hf
  refine xk_i (xrunS (As := [.int a1, .int a2, .int a3]) (rest := [.ref (ad 23)]) ⟨hx, hb, hml, hown, hts⟩ (c_Va_place l dC dI ty ad ta H.size co_rows co_marks co_rowSets co_partners co_open co_count tr_kinds tr_lefts tr_rights tr_seconds tr_size gr_kinds gr_nodes gr_rowSets gr_firstStates gr_targetCounts gr_targets gr_stepScores gr_letterScores gr_size tx_letters tx_length va_scores va_knownEnds hi_begins hi_lengths hi_scores hi_taken hi_count de_states de_begins de_lengths de_length a1 a2 a3 r1 hc2) z_Va_38 ⟨⟨rfl, rfl⟩, by decide, by decide⟩ hK hP hD hN hS hA rfl hl.1 rfl (Nat.le_of_ble_eq_true rfl) d_Va_of_7 ⟨Nat.zero_le _, Nat.zero_le _⟩) hS hD rfl hA (fun H locs hP hD hS => ?_)
  refine W.eq (g2 := F0 m 10 ls [.int r1, .ref (ad 23)]) rfl ?_
  obtain ⟨hi3, hf⟩ := gdi hf
  refine va_iald hx hb hK hP 23 0 rfl rfl hi3 d_Va_of_10 ?_
  obtain rfl := os1 hf
  exact hret H locs _ _ _ d_Va_of_11 rfl hP hS
def f_Va_throughTarget (gr_targets : (Nat → Int32)) (gr_stepScores : (Nat → Int32)) (va_scores : (Nat → Int32)) (a1 : Int32) (a2 : Int32) (a3 : Int32) (a4 : Int32) : Option (Int32) := ob1 (f_Gr_targetOf gr_targets a1 a2) (fun r1 => ob1 (f_Va_of va_scores r1 a3 a4) (fun r3 => if r3 = (-1000000 : Int32) then (some ((-1000000 : Int32))) else (ob1 (f_Gr_stepScore gr_stepScores a1 a2) (fun r6 => some ((r3 + r6))))))
set_option maxHeartbeats 4000000 in
set_option maxRecDepth 100000 in
theorem c_Va_throughTarget (l : Launch) (dC : Nat → ClassId) (dI : Nat → Nat → Nat) (ty : Nat → ClassId) (ad : Nat → Nat) (ta : Nat → Nat) (sz : Nat) (co_rows : Int32) (co_marks : (Nat → Int32)) (co_rowSets : (Nat → Int32)) (co_partners : (Nat → Int32)) (co_open : (Nat → Int32)) (co_count : Int32) (tr_kinds : (Nat → Int32)) (tr_lefts : (Nat → Int32)) (tr_rights : (Nat → Int32)) (tr_seconds : (Nat → Int32)) (tr_size : Int32) (gr_kinds : (Nat → Int32)) (gr_nodes : (Nat → Int32)) (gr_rowSets : (Nat → Int32)) (gr_firstStates : (Nat → Int32)) (gr_targetCounts : (Nat → Int32)) (gr_targets : (Nat → Int32)) (gr_stepScores : (Nat → Int32)) (gr_letterScores : (Nat → Int32)) (gr_size : Int32) (tx_letters : (Nat → Int32)) (tx_length : Int32) (va_scores : (Nat → Int32)) (va_knownEnds : Int32) (hi_begins : (Nat → Int32)) (hi_lengths : (Nat → Int32)) (hi_scores : (Nat → Int32)) (hi_taken : (Nat → Int32)) (hi_count : Int32) (de_states : (Nat → Int32)) (de_begins : (Nat → Int32)) (de_lengths : (Nat → Int32)) (de_length : Int32) (a1 : Int32) (a2 : Int32) (a3 : Int32) (a4 : Int32) (r0 : Int32) (hf : f_Va_throughTarget gr_targets gr_stepScores va_scores a1 a2 a3 a4 = some (r0)) : Met l y_Va_throughTarget (.code y_Va_throughTarget prog_8_method_12_code 6 (some .int) :: gw) rm_Va_throughTarget (xPre ta (dC, dI) classes (tys3 ty) (wX ty ad co_rows co_marks co_rowSets co_partners co_open co_count tr_kinds tr_lefts tr_rights tr_seconds tr_size gr_kinds gr_nodes gr_rowSets gr_firstStates gr_targetCounts gr_targets gr_stepScores gr_letterScores gr_size tx_letters tx_length va_scores va_knownEnds hi_begins hi_lengths hi_scores hi_taken hi_count de_states de_begins de_lengths de_length) sz [.ref (ad 22), .int a1, .int a2, .int a3, .int a4]) (xQi (dC, dI) classes (wX ty ad co_rows co_marks co_rowSets co_partners co_open co_count tr_kinds tr_lefts tr_rights tr_seconds tr_size gr_kinds gr_nodes gr_rowSets gr_firstStates gr_targetCounts gr_targets gr_stepScores gr_letterScores gr_size tx_letters tx_length va_scores va_knownEnds hi_begins hi_lengths hi_scores hi_taken hi_count de_states de_begins de_lengths de_length) (wX ty ad co_rows co_marks co_rowSets co_partners co_open co_count tr_kinds tr_lefts tr_rights tr_seconds tr_size gr_kinds gr_nodes gr_rowSets gr_firstStates gr_targetCounts gr_targets gr_stepScores gr_letterScores gr_size tx_letters tx_length va_scores va_knownEnds hi_begins hi_lengths hi_scores hi_taken hi_count de_states de_begins de_lengths de_length) sz r0) 0 0 (va_A (wX ty ad co_rows co_marks co_rowSets co_partners co_open co_count tr_kinds tr_lefts tr_rights tr_seconds tr_size gr_kinds gr_nodes gr_rowSets gr_firstStates gr_targetCounts gr_targets gr_stepScores gr_letterScores gr_size tx_letters tx_length va_scores va_knownEnds hi_begins hi_lengths hi_scores hi_taken hi_count de_states de_begins de_lengths de_length) sz) := by
  refine xmet_i rfl (Nat.le_of_ble_eq_true rfl) ?_
  intro p e s m below meth c A ls Q hx hb hml hts hown hK hN hA hP hD hS hl hret
  replace hown : s.vm.findClass R_Va = some m.cls := hown
  have hl : lv_has ls 6 [(0, .ref (ad 22)), (1, .int a1), (2, .int a2), (3, .int a3), (4, .int a4)] := hl
  rw [f_Va_throughTarget] at hf
  obtain ⟨H, eH⟩ : ∃ H : Heap, H = s.heap := ⟨_, rfl⟩
  obtain ⟨locs, eL⟩ : ∃ L : List Loc, L = [] := ⟨_, rfl⟩
  have hP : va_P (dC, dI) classes (wX ty ad co_rows co_marks co_rowSets co_partners co_open co_count tr_kinds tr_lefts tr_rights tr_seconds tr_size gr_kinds gr_nodes gr_rowSets gr_firstStates gr_targetCounts gr_targets gr_stepScores gr_letterScores gr_size tx_letters tx_length va_scores va_knownEnds hi_begins hi_lengths hi_scores hi_taken hi_count de_states de_begins de_lengths de_length) H := by rw [eH]; exact hP
  have hS : va_S A s.heap H locs := by rw [eH, eL]; exact hS
  rw [← eL]
  suffices hgoal : W p l e rm_Va_throughTarget s m (List.toArray [.ref (ad 22), .int a1, .int a2, .int a3, .int a4]) below meth c H locs 0 0 Q (F0 m 0 ls []) by rw [eH] at hgoal; exact hgoal
  clear eH eL
  refine lv_aload_n hx hb d_Va_throughTarget_0 rfl (lv_at hl 0 rfl) ?_
  refine lv_aload_n hx hb d_Va_throughTarget_1 rfl (lv_at hl 0 rfl) ?_
  refine va_get (D := (dC, dI)) (ci := 5) (v := .ref (ad 11)) (C := R_Va) (T := F_Va) (N := 4) hx hb hts iw_Va hown hK hP 22 rfl rfl 0 (by decide) (hts _ m_185) (fun _ h9 => h9) rfl d_Va_throughTarget_2 ?_
  refine lv_iload_n hx hb d_Va_throughTarget_5 rfl (lv_at hl 1 rfl) ?_
  refine lv_iload_n hx hb d_Va_throughTarget_6 rfl (lv_at hl 2 rfl) ?_
  obtain ⟨r1, hc2, hf⟩ := ob1_inv hf
  refine xk_i (xrunV (C := R_Gr) (As := [.int a1, .int a2]) (rest := [.ref (ad 22)]) ⟨hx, hb, hml, hown, hts⟩ (c_Gr_targetOf l dC dI ty ad ta H.size co_rows co_marks co_rowSets co_partners co_open co_count tr_kinds tr_lefts tr_rights tr_seconds tr_size gr_kinds gr_nodes gr_rowSets gr_firstStates gr_targetCounts gr_targets gr_stepScores gr_letterScores gr_size tx_letters tx_length va_scores va_knownEnds hi_begins hi_lengths hi_scores hi_taken hi_count de_states de_begins de_lengths de_length a1 a2 r1 hc2) z_Va_84 ⟨⟨rfl, rfl⟩, by decide, by decide⟩ hK hP hD hN hS hA (va_recv hK hP (ci := 3) (q0 := 11) rfl rfl) rfl hl.1 rfl (Nat.le_of_ble_eq_true rfl) d_Va_throughTarget_7 ⟨Nat.zero_le _, Nat.zero_le _⟩) hS hD rfl hA (fun H locs hP hD hS => ?_)
  refine W.eq (g2 := F0 m 10 ls [.int r1, .ref (ad 22)]) rfl ?_
  refine lv_iload_n hx hb d_Va_throughTarget_10 rfl (lv_at hl 3 rfl) ?_
  refine lv_iload hx hb d_Va_throughTarget_11 (lv_at hl 4 rfl) ?_
  obtain ⟨r3, hc4, hf⟩ := ob1_inv hf
  refine xk_i (xrunV (C := R_Va) (As := [.int r1, .int a3, .int a4]) (rest := []) ⟨hx, hb, hml, hown, hts⟩ (c_Va_of l dC dI ty ad ta H.size co_rows co_marks co_rowSets co_partners co_open co_count tr_kinds tr_lefts tr_rights tr_seconds tr_size gr_kinds gr_nodes gr_rowSets gr_firstStates gr_targetCounts gr_targets gr_stepScores gr_letterScores gr_size tx_letters tx_length va_scores va_knownEnds hi_begins hi_lengths hi_scores hi_taken hi_count de_states de_begins de_lengths de_length r1 a3 a4 r3 hc4) z_Va_45 ⟨⟨rfl, rfl⟩, by decide, by decide⟩ hK hP hD hN hS hA (va_recv hK hP (ci := 5) (q0 := 22) rfl rfl) rfl hl.1 rfl (Nat.le_of_ble_eq_true rfl) d_Va_throughTarget_13 ⟨Nat.zero_le _, Nat.zero_le _⟩) hS hD rfl hA (fun H locs hP hD hS => ?_)
  refine W.eq (g2 := F0 m 16 ls [.int r3]) rfl ?_
  refine lv_istore (lv' := [(5, .int r3), (0, .ref (ad 22)), (1, .int a1), (2, .int a2), (3, .int a3), (4, .int a4)]) hx hb d_Va_throughTarget_16 hl (by decide) rfl (fun ls hl => ?_)
  refine lv_iload hx hb d_Va_throughTarget_18 (lv_at hl 0 rfl) ?_
  refine lv_ldc (v := -1000000) hx hb hown (hts _ m_560) d_Va_throughTarget_20 ?_
  refine lv_icmp_ne (tgt := 30) hx hb d_Va_throughTarget_22 (by decide) (fun c5 => ?_) (fun c5 => ?_)
  · have hf := xif_f c5 hf
    refine lv_iload hx hb d_Va_throughTarget_30 (lv_at hl 0 rfl) ?_
    refine lv_aload_n hx hb d_Va_throughTarget_32 rfl (lv_at hl 1 rfl) ?_
    refine va_get (D := (dC, dI)) (ci := 5) (v := .ref (ad 11)) (C := R_Va) (T := F_Va) (N := 4) hx hb hts iw_Va hown hK hP 22 rfl rfl 0 (by decide) (hts _ m_185) (fun _ h9 => h9) rfl d_Va_throughTarget_33 ?_
    refine lv_iload_n hx hb d_Va_throughTarget_36 rfl (lv_at hl 2 rfl) ?_
    refine lv_iload_n hx hb d_Va_throughTarget_37 rfl (lv_at hl 3 rfl) ?_
    obtain ⟨r6, hc7, hf⟩ := ob1_inv hf
    refine xk_i (xrunV (C := R_Gr) (As := [.int a1, .int a2]) (rest := [.int r3]) ⟨hx, hb, hml, hown, hts⟩ (c_Gr_stepScore l dC dI ty ad ta H.size co_rows co_marks co_rowSets co_partners co_open co_count tr_kinds tr_lefts tr_rights tr_seconds tr_size gr_kinds gr_nodes gr_rowSets gr_firstStates gr_targetCounts gr_targets gr_stepScores gr_letterScores gr_size tx_letters tx_length va_scores va_knownEnds hi_begins hi_lengths hi_scores hi_taken hi_count de_states de_begins de_lengths de_length a1 a2 r6 hc7) z_Va_87 ⟨⟨rfl, rfl⟩, by decide, by decide⟩ hK hP hD hN hS hA (va_recv hK hP (ci := 3) (q0 := 11) rfl rfl) rfl hl.1 rfl (Nat.le_of_ble_eq_true rfl) d_Va_throughTarget_38 ⟨Nat.zero_le _, Nat.zero_le _⟩) hS hD rfl hA (fun H locs hP hD hS => ?_)
    refine W.eq (g2 := F0 m 41 ls [.int r6, .int r3]) rfl ?_
    refine lv_iadd hx hb d_Va_throughTarget_41 ?_
    obtain rfl := os1 hf
    exact hret H locs _ _ _ d_Va_throughTarget_42 rfl hP hS
  · have hf := xif_t c5 hf
    refine lv_ldc (v := -1000000) hx hb hown (hts _ m_560) d_Va_throughTarget_25 ?_
    refine lv_goto (tgt := 42) hx hb d_Va_throughTarget_27 (by decide) ?_
    obtain rfl := os1 hf
    exact hret H locs _ _ _ d_Va_throughTarget_42 rfl hP hS
def f_Tx_letter (tx_letters : (Nat → Int32)) (a1 : Int32) : Option (Int32) := gd (xin a1 24) (some ((tx_letters (Int32.toNatClampNeg a1))))
set_option maxHeartbeats 4000000 in
set_option maxRecDepth 100000 in
theorem c_Tx_letter (l : Launch) (dC : Nat → ClassId) (dI : Nat → Nat → Nat) (ty : Nat → ClassId) (ad : Nat → Nat) (ta : Nat → Nat) (sz : Nat) (co_rows : Int32) (co_marks : (Nat → Int32)) (co_rowSets : (Nat → Int32)) (co_partners : (Nat → Int32)) (co_open : (Nat → Int32)) (co_count : Int32) (tr_kinds : (Nat → Int32)) (tr_lefts : (Nat → Int32)) (tr_rights : (Nat → Int32)) (tr_seconds : (Nat → Int32)) (tr_size : Int32) (gr_kinds : (Nat → Int32)) (gr_nodes : (Nat → Int32)) (gr_rowSets : (Nat → Int32)) (gr_firstStates : (Nat → Int32)) (gr_targetCounts : (Nat → Int32)) (gr_targets : (Nat → Int32)) (gr_stepScores : (Nat → Int32)) (gr_letterScores : (Nat → Int32)) (gr_size : Int32) (tx_letters : (Nat → Int32)) (tx_length : Int32) (va_scores : (Nat → Int32)) (va_knownEnds : Int32) (hi_begins : (Nat → Int32)) (hi_lengths : (Nat → Int32)) (hi_scores : (Nat → Int32)) (hi_taken : (Nat → Int32)) (hi_count : Int32) (de_states : (Nat → Int32)) (de_begins : (Nat → Int32)) (de_lengths : (Nat → Int32)) (de_length : Int32) (a1 : Int32) (r0 : Int32) (hf : f_Tx_letter tx_letters a1 = some (r0)) : Met l y_Tx_letter (.code y_Tx_letter prog_6_method_4_code 2 (some .int) :: gw) rm_Tx_letter (xPre ta (dC, dI) classes (tys3 ty) (wX ty ad co_rows co_marks co_rowSets co_partners co_open co_count tr_kinds tr_lefts tr_rights tr_seconds tr_size gr_kinds gr_nodes gr_rowSets gr_firstStates gr_targetCounts gr_targets gr_stepScores gr_letterScores gr_size tx_letters tx_length va_scores va_knownEnds hi_begins hi_lengths hi_scores hi_taken hi_count de_states de_begins de_lengths de_length) sz [.ref (ad 20), .int a1]) (xQi (dC, dI) classes (wX ty ad co_rows co_marks co_rowSets co_partners co_open co_count tr_kinds tr_lefts tr_rights tr_seconds tr_size gr_kinds gr_nodes gr_rowSets gr_firstStates gr_targetCounts gr_targets gr_stepScores gr_letterScores gr_size tx_letters tx_length va_scores va_knownEnds hi_begins hi_lengths hi_scores hi_taken hi_count de_states de_begins de_lengths de_length) (wX ty ad co_rows co_marks co_rowSets co_partners co_open co_count tr_kinds tr_lefts tr_rights tr_seconds tr_size gr_kinds gr_nodes gr_rowSets gr_firstStates gr_targetCounts gr_targets gr_stepScores gr_letterScores gr_size tx_letters tx_length va_scores va_knownEnds hi_begins hi_lengths hi_scores hi_taken hi_count de_states de_begins de_lengths de_length) sz r0) 0 0 (va_A (wX ty ad co_rows co_marks co_rowSets co_partners co_open co_count tr_kinds tr_lefts tr_rights tr_seconds tr_size gr_kinds gr_nodes gr_rowSets gr_firstStates gr_targetCounts gr_targets gr_stepScores gr_letterScores gr_size tx_letters tx_length va_scores va_knownEnds hi_begins hi_lengths hi_scores hi_taken hi_count de_states de_begins de_lengths de_length) sz) := by
  refine xmet_i rfl (Nat.le_of_ble_eq_true rfl) ?_
  intro p e s m below meth c A ls Q hx hb hml hts hown hK hN hA hP hD hS hl hret
  replace hown : s.vm.findClass R_Tx = some m.cls := hown
  have hl : lv_has ls 2 [(0, .ref (ad 20)), (1, .int a1)] := hl
  rw [f_Tx_letter] at hf
  obtain ⟨H, eH⟩ : ∃ H : Heap, H = s.heap := ⟨_, rfl⟩
  obtain ⟨locs, eL⟩ : ∃ L : List Loc, L = [] := ⟨_, rfl⟩
  have hP : va_P (dC, dI) classes (wX ty ad co_rows co_marks co_rowSets co_partners co_open co_count tr_kinds tr_lefts tr_rights tr_seconds tr_size gr_kinds gr_nodes gr_rowSets gr_firstStates gr_targetCounts gr_targets gr_stepScores gr_letterScores gr_size tx_letters tx_length va_scores va_knownEnds hi_begins hi_lengths hi_scores hi_taken hi_count de_states de_begins de_lengths de_length) H := by rw [eH]; exact hP
  have hS : va_S A s.heap H locs := by rw [eH, eL]; exact hS
  rw [← eL]
  suffices hgoal : W p l e rm_Tx_letter s m (List.toArray [.ref (ad 20), .int a1]) below meth c H locs 0 0 Q (F0 m 0 ls []) by rw [eH] at hgoal; exact hgoal
  clear eH eL
  refine lv_aload_n hx hb d_Tx_letter_0 rfl (lv_at hl 0 rfl) ?_
  refine va_get (D := (dC, dI)) (ci := 4) (v := .ref (ad 21)) (C := R_Tx) (T := F_Tx) (N := 2) hx hb hts iw_Tx hown hK hP 20 rfl rfl 0 (by decide) (hts _ m_172) (fun _ h9 => h9) rfl d_Tx_letter_1 ?_
  refine lv_iload_n hx hb d_Tx_letter_4 rfl (lv_at hl 1 rfl) ?_
  obtain ⟨hi1, hf⟩ := gdi hf
  refine va_iald hx hb hK hP 21 0 rfl rfl hi1 d_Tx_letter_5 ?_
  obtain rfl := os1 hf
  exact hret H locs _ _ _ d_Tx_letter_6 rfl hP hS
def f_Va_emitted (gr_kinds : (Nat → Int32)) (gr_letterScores : (Nat → Int32)) (tx_letters : (Nat → Int32)) (a1 : Int32) (a2 : Int32) (a3 : Int32) : Option (Int32) := ob1 (f_Gr_kindOf gr_kinds a1) (fun r1 => if r1 = (1 : Int32) then (ob1 (f_Tx_letter tx_letters a2) (fun r4 => ob1 (f_Tx_letter tx_letters ((a2 + a3) - (1 : Int32))) (fun r6 => ob1 (f_Gr_letterScore gr_letterScores a1 r4 r6) (fun r8 => some (r8))))) else (if r1 = (2 : Int32) then (ob1 (f_Tx_letter tx_letters a2) (fun r11 => ob1 (f_Gr_letterScore gr_letterScores a1 r11 (0 : Int32)) (fun r13 => some (r13)))) else (if r1 = (3 : Int32) then (ob1 (f_Tx_letter tx_letters ((a2 + a3) - (1 : Int32))) (fun r16 => ob1 (f_Gr_letterScore gr_letterScores a1 r16 (0 : Int32)) (fun r18 => some (r18)))) else (if r1 = (4 : Int32) then (some ((0 : Int32))) else (if r1 = (5 : Int32) then (ob1 (f_Tx_letter tx_letters a2) (fun r22 => ob1 (f_Gr_letterScore gr_letterScores a1 r22 (0 : Int32)) (fun r24 => some (r24)))) else (if r1 = (6 : Int32) then (ob1 (f_Tx_letter tx_letters ((a2 + a3) - (1 : Int32))) (fun r27 => ob1 (f_Gr_letterScore gr_letterScores a1 r27 (0 : Int32)) (fun r29 => some (r29)))) else (some ((0 : Int32)))))))))
set_option maxHeartbeats 4000000 in
set_option maxRecDepth 100000 in
theorem c_Va_emitted (l : Launch) (dC : Nat → ClassId) (dI : Nat → Nat → Nat) (ty : Nat → ClassId) (ad : Nat → Nat) (ta : Nat → Nat) (sz : Nat) (co_rows : Int32) (co_marks : (Nat → Int32)) (co_rowSets : (Nat → Int32)) (co_partners : (Nat → Int32)) (co_open : (Nat → Int32)) (co_count : Int32) (tr_kinds : (Nat → Int32)) (tr_lefts : (Nat → Int32)) (tr_rights : (Nat → Int32)) (tr_seconds : (Nat → Int32)) (tr_size : Int32) (gr_kinds : (Nat → Int32)) (gr_nodes : (Nat → Int32)) (gr_rowSets : (Nat → Int32)) (gr_firstStates : (Nat → Int32)) (gr_targetCounts : (Nat → Int32)) (gr_targets : (Nat → Int32)) (gr_stepScores : (Nat → Int32)) (gr_letterScores : (Nat → Int32)) (gr_size : Int32) (tx_letters : (Nat → Int32)) (tx_length : Int32) (va_scores : (Nat → Int32)) (va_knownEnds : Int32) (hi_begins : (Nat → Int32)) (hi_lengths : (Nat → Int32)) (hi_scores : (Nat → Int32)) (hi_taken : (Nat → Int32)) (hi_count : Int32) (de_states : (Nat → Int32)) (de_begins : (Nat → Int32)) (de_lengths : (Nat → Int32)) (de_length : Int32) (a1 : Int32) (a2 : Int32) (a3 : Int32) (r0 : Int32) (hf : f_Va_emitted gr_kinds gr_letterScores tx_letters a1 a2 a3 = some (r0)) : Met l y_Va_emitted (.code y_Va_emitted prog_8_method_13_code 4 (some .int) :: gw) rm_Va_emitted (xPre ta (dC, dI) classes (tys3 ty) (wX ty ad co_rows co_marks co_rowSets co_partners co_open co_count tr_kinds tr_lefts tr_rights tr_seconds tr_size gr_kinds gr_nodes gr_rowSets gr_firstStates gr_targetCounts gr_targets gr_stepScores gr_letterScores gr_size tx_letters tx_length va_scores va_knownEnds hi_begins hi_lengths hi_scores hi_taken hi_count de_states de_begins de_lengths de_length) sz [.ref (ad 22), .int a1, .int a2, .int a3]) (xQi (dC, dI) classes (wX ty ad co_rows co_marks co_rowSets co_partners co_open co_count tr_kinds tr_lefts tr_rights tr_seconds tr_size gr_kinds gr_nodes gr_rowSets gr_firstStates gr_targetCounts gr_targets gr_stepScores gr_letterScores gr_size tx_letters tx_length va_scores va_knownEnds hi_begins hi_lengths hi_scores hi_taken hi_count de_states de_begins de_lengths de_length) (wX ty ad co_rows co_marks co_rowSets co_partners co_open co_count tr_kinds tr_lefts tr_rights tr_seconds tr_size gr_kinds gr_nodes gr_rowSets gr_firstStates gr_targetCounts gr_targets gr_stepScores gr_letterScores gr_size tx_letters tx_length va_scores va_knownEnds hi_begins hi_lengths hi_scores hi_taken hi_count de_states de_begins de_lengths de_length) sz r0) 0 0 (va_A (wX ty ad co_rows co_marks co_rowSets co_partners co_open co_count tr_kinds tr_lefts tr_rights tr_seconds tr_size gr_kinds gr_nodes gr_rowSets gr_firstStates gr_targetCounts gr_targets gr_stepScores gr_letterScores gr_size tx_letters tx_length va_scores va_knownEnds hi_begins hi_lengths hi_scores hi_taken hi_count de_states de_begins de_lengths de_length) sz) := by
  refine xmet_i rfl (Nat.le_of_ble_eq_true rfl) ?_
  intro p e s m below meth c A ls Q hx hb hml hts hown hK hN hA hP hD hS hl hret
  replace hown : s.vm.findClass R_Va = some m.cls := hown
  have hl : lv_has ls 4 [(0, .ref (ad 22)), (1, .int a1), (2, .int a2), (3, .int a3)] := hl
  rw [f_Va_emitted] at hf
  obtain ⟨H, eH⟩ : ∃ H : Heap, H = s.heap := ⟨_, rfl⟩
  obtain ⟨locs, eL⟩ : ∃ L : List Loc, L = [] := ⟨_, rfl⟩
  have hP : va_P (dC, dI) classes (wX ty ad co_rows co_marks co_rowSets co_partners co_open co_count tr_kinds tr_lefts tr_rights tr_seconds tr_size gr_kinds gr_nodes gr_rowSets gr_firstStates gr_targetCounts gr_targets gr_stepScores gr_letterScores gr_size tx_letters tx_length va_scores va_knownEnds hi_begins hi_lengths hi_scores hi_taken hi_count de_states de_begins de_lengths de_length) H := by rw [eH]; exact hP
  have hS : va_S A s.heap H locs := by rw [eH, eL]; exact hS
  rw [← eL]
  suffices hgoal : W p l e rm_Va_emitted s m (List.toArray [.ref (ad 22), .int a1, .int a2, .int a3]) below meth c H locs 0 0 Q (F0 m 0 ls []) by rw [eH] at hgoal; exact hgoal
  clear eH eL
  refine lv_aload_n hx hb d_Va_emitted_0 rfl (lv_at hl 0 rfl) ?_
  refine va_get (D := (dC, dI)) (ci := 5) (v := .ref (ad 11)) (C := R_Va) (T := F_Va) (N := 4) hx hb hts iw_Va hown hK hP 22 rfl rfl 0 (by decide) (hts _ m_185) (fun _ h9 => h9) rfl d_Va_emitted_1 ?_
  refine lv_iload_n hx hb d_Va_emitted_4 rfl (lv_at hl 1 rfl) ?_
  obtain ⟨r1, hc2, hf⟩ := ob1_inv hf
  refine xk_i (xrunV (C := R_Gr) (As := [.int a1]) (rest := []) ⟨hx, hb, hml, hown, hts⟩ (c_Gr_kindOf l dC dI ty ad ta H.size co_rows co_marks co_rowSets co_partners co_open co_count tr_kinds tr_lefts tr_rights tr_seconds tr_size gr_kinds gr_nodes gr_rowSets gr_firstStates gr_targetCounts gr_targets gr_stepScores gr_letterScores gr_size tx_letters tx_length va_scores va_knownEnds hi_begins hi_lengths hi_scores hi_taken hi_count de_states de_begins de_lengths de_length a1 r1 hc2) z_Va_49 ⟨⟨rfl, rfl⟩, by decide, by decide⟩ hK hP hD hN hS hA (va_recv hK hP (ci := 3) (q0 := 11) rfl rfl) rfl hl.1 rfl (Nat.le_of_ble_eq_true rfl) d_Va_emitted_5 ⟨Nat.zero_le _, Nat.zero_le _⟩) hS hD rfl hA (fun H locs hP hD hS => ?_)
  refine W.eq (g2 := F0 m 8 ls [.int r1]) rfl ?_
  by_cases c3 : r1 = (1 : Int32)
  · have hf := xif_t c3 hf
    refine lv_tableIn (off := 40) (tgt := 48) hx hb d_Va_emitted_8 (by rw [c3]; decide) (by rw [c3]; decide) (by rw [c3]; rfl) (by decide) ?_
    refine lv_aload_n hx hb d_Va_emitted_48 rfl (lv_at hl 0 rfl) ?_
    refine va_get (D := (dC, dI)) (ci := 5) (v := .ref (ad 11)) (C := R_Va) (T := F_Va) (N := 4) hx hb hts iw_Va hown hK hP 22 rfl rfl 0 (by decide) (hts _ m_185) (fun _ h9 => h9) rfl d_Va_emitted_49 ?_
    refine lv_iload_n hx hb d_Va_emitted_52 rfl (lv_at hl 1 rfl) ?_
    refine lv_aload_n hx hb d_Va_emitted_53 rfl (lv_at hl 0 rfl) ?_
    refine va_get (D := (dC, dI)) (ci := 5) (v := .ref (ad 20)) (C := R_Va) (T := F_Va) (N := 4) hx hb hts iw_Va hown hK hP 22 rfl rfl 1 (by decide) (hts _ m_186) (fun _ h9 => h9) rfl d_Va_emitted_54 ?_
    refine lv_iload_n hx hb d_Va_emitted_57 rfl (lv_at hl 2 rfl) ?_
    obtain ⟨r4, hc5, hf⟩ := ob1_inv hf
    refine xk_i (xrunV (C := R_Tx) (As := [.int a2]) (rest := [.int a1, .ref (ad 11)]) ⟨hx, hb, hml, hown, hts⟩ (c_Tx_letter l dC dI ty ad ta H.size co_rows co_marks co_rowSets co_partners co_open co_count tr_kinds tr_lefts tr_rights tr_seconds tr_size gr_kinds gr_nodes gr_rowSets gr_firstStates gr_targetCounts gr_targets gr_stepScores gr_letterScores gr_size tx_letters tx_length va_scores va_knownEnds hi_begins hi_lengths hi_scores hi_taken hi_count de_states de_begins de_lengths de_length a2 r4 hc5) z_Va_90 ⟨⟨rfl, rfl⟩, by decide, by decide⟩ hK hP hD hN hS hA (va_recv hK hP (ci := 4) (q0 := 20) rfl rfl) rfl hl.1 rfl (Nat.le_of_ble_eq_true rfl) d_Va_emitted_58 ⟨Nat.zero_le _, Nat.zero_le _⟩) hS hD rfl hA (fun H locs hP hD hS => ?_)
    refine W.eq (g2 := F0 m 61 ls [.int r4, .int a1, .ref (ad 11)]) rfl ?_
    refine lv_aload_n hx hb d_Va_emitted_61 rfl (lv_at hl 0 rfl) ?_
    refine va_get (D := (dC, dI)) (ci := 5) (v := .ref (ad 20)) (C := R_Va) (T := F_Va) (N := 4) hx hb hts iw_Va hown hK hP 22 rfl rfl 1 (by decide) (hts _ m_186) (fun _ h9 => h9) rfl d_Va_emitted_62 ?_
    refine lv_iload_n hx hb d_Va_emitted_65 rfl (lv_at hl 2 rfl) ?_
    refine lv_iload_n hx hb d_Va_emitted_66 rfl (lv_at hl 3 rfl) ?_
    refine lv_iadd hx hb d_Va_emitted_67 ?_
    refine lv_iconst (v := 1) hx hb d_Va_emitted_68 (by decide) ?_
    refine lv_isub hx hb d_Va_emitted_69 ?_
    obtain ⟨r6, hc7, hf⟩ := ob1_inv hf
    refine xk_i (xrunV (C := R_Tx) (As := [.int ((a2 + a3) - (1 : Int32))]) (rest := [.int r4, .int a1, .ref (ad 11)]) ⟨hx, hb, hml, hown, hts⟩ (c_Tx_letter l dC dI ty ad ta H.size co_rows co_marks co_rowSets co_partners co_open co_count tr_kinds tr_lefts tr_rights tr_seconds tr_size gr_kinds gr_nodes gr_rowSets gr_firstStates gr_targetCounts gr_targets gr_stepScores gr_letterScores gr_size tx_letters tx_length va_scores va_knownEnds hi_begins hi_lengths hi_scores hi_taken hi_count de_states de_begins de_lengths de_length ((a2 + a3) - (1 : Int32)) r6 hc7) z_Va_90 ⟨⟨rfl, rfl⟩, by decide, by decide⟩ hK hP hD hN hS hA (va_recv hK hP (ci := 4) (q0 := 20) rfl rfl) rfl hl.1 rfl (Nat.le_of_ble_eq_true rfl) d_Va_emitted_70 ⟨Nat.zero_le _, Nat.zero_le _⟩) hS hD rfl hA (fun H locs hP hD hS => ?_)
    refine W.eq (g2 := F0 m 73 ls [.int r6, .int r4, .int a1, .ref (ad 11)]) rfl ?_
    obtain ⟨r8, hc9, hf⟩ := ob1_inv hf
    refine xk_i (xrunV (C := R_Gr) (As := [.int a1, .int r4, .int r6]) (rest := []) ⟨hx, hb, hml, hown, hts⟩ (c_Gr_letterScore l dC dI ty ad ta H.size co_rows co_marks co_rowSets co_partners co_open co_count tr_kinds tr_lefts tr_rights tr_seconds tr_size gr_kinds gr_nodes gr_rowSets gr_firstStates gr_targetCounts gr_targets gr_stepScores gr_letterScores gr_size tx_letters tx_length va_scores va_knownEnds hi_begins hi_lengths hi_scores hi_taken hi_count de_states de_begins de_lengths de_length a1 r4 r6 r8 hc9) z_Va_93 ⟨⟨rfl, rfl⟩, by decide, by decide⟩ hK hP hD hN hS hA (va_recv hK hP (ci := 3) (q0 := 11) rfl rfl) rfl hl.1 rfl (Nat.le_of_ble_eq_true rfl) d_Va_emitted_73 ⟨Nat.zero_le _, Nat.zero_le _⟩) hS hD rfl hA (fun H locs hP hD hS => ?_)
    refine W.eq (g2 := F0 m 76 ls [.int r8]) rfl ?_
    obtain rfl := os1 hf
    exact hret H locs _ _ _ d_Va_emitted_76 rfl hP hS
  · have hf := xif_f c3 hf
    by_cases c10 : r1 = (2 : Int32)
    · have hf := xif_t c10 hf
      refine lv_tableIn (off := 69) (tgt := 77) hx hb d_Va_emitted_8 (by rw [c10]; decide) (by rw [c10]; decide) (by rw [c10]; rfl) (by decide) ?_
      refine lv_aload_n hx hb d_Va_emitted_77 rfl (lv_at hl 0 rfl) ?_
      refine va_get (D := (dC, dI)) (ci := 5) (v := .ref (ad 11)) (C := R_Va) (T := F_Va) (N := 4) hx hb hts iw_Va hown hK hP 22 rfl rfl 0 (by decide) (hts _ m_185) (fun _ h9 => h9) rfl d_Va_emitted_78 ?_
      refine lv_iload_n hx hb d_Va_emitted_81 rfl (lv_at hl 1 rfl) ?_
      refine lv_aload_n hx hb d_Va_emitted_82 rfl (lv_at hl 0 rfl) ?_
      refine va_get (D := (dC, dI)) (ci := 5) (v := .ref (ad 20)) (C := R_Va) (T := F_Va) (N := 4) hx hb hts iw_Va hown hK hP 22 rfl rfl 1 (by decide) (hts _ m_186) (fun _ h9 => h9) rfl d_Va_emitted_83 ?_
      refine lv_iload_n hx hb d_Va_emitted_86 rfl (lv_at hl 2 rfl) ?_
      obtain ⟨r11, hc12, hf⟩ := ob1_inv hf
      refine xk_i (xrunV (C := R_Tx) (As := [.int a2]) (rest := [.int a1, .ref (ad 11)]) ⟨hx, hb, hml, hown, hts⟩ (c_Tx_letter l dC dI ty ad ta H.size co_rows co_marks co_rowSets co_partners co_open co_count tr_kinds tr_lefts tr_rights tr_seconds tr_size gr_kinds gr_nodes gr_rowSets gr_firstStates gr_targetCounts gr_targets gr_stepScores gr_letterScores gr_size tx_letters tx_length va_scores va_knownEnds hi_begins hi_lengths hi_scores hi_taken hi_count de_states de_begins de_lengths de_length a2 r11 hc12) z_Va_90 ⟨⟨rfl, rfl⟩, by decide, by decide⟩ hK hP hD hN hS hA (va_recv hK hP (ci := 4) (q0 := 20) rfl rfl) rfl hl.1 rfl (Nat.le_of_ble_eq_true rfl) d_Va_emitted_87 ⟨Nat.zero_le _, Nat.zero_le _⟩) hS hD rfl hA (fun H locs hP hD hS => ?_)
      refine W.eq (g2 := F0 m 90 ls [.int r11, .int a1, .ref (ad 11)]) rfl ?_
      refine lv_iconst (v := 0) hx hb d_Va_emitted_90 (by decide) ?_
      obtain ⟨r13, hc14, hf⟩ := ob1_inv hf
      refine xk_i (xrunV (C := R_Gr) (As := [.int a1, .int r11, .int (0 : Int32)]) (rest := []) ⟨hx, hb, hml, hown, hts⟩ (c_Gr_letterScore l dC dI ty ad ta H.size co_rows co_marks co_rowSets co_partners co_open co_count tr_kinds tr_lefts tr_rights tr_seconds tr_size gr_kinds gr_nodes gr_rowSets gr_firstStates gr_targetCounts gr_targets gr_stepScores gr_letterScores gr_size tx_letters tx_length va_scores va_knownEnds hi_begins hi_lengths hi_scores hi_taken hi_count de_states de_begins de_lengths de_length a1 r11 (0 : Int32) r13 hc14) z_Va_93 ⟨⟨rfl, rfl⟩, by decide, by decide⟩ hK hP hD hN hS hA (va_recv hK hP (ci := 3) (q0 := 11) rfl rfl) rfl hl.1 rfl (Nat.le_of_ble_eq_true rfl) d_Va_emitted_91 ⟨Nat.zero_le _, Nat.zero_le _⟩) hS hD rfl hA (fun H locs hP hD hS => ?_)
      refine W.eq (g2 := F0 m 94 ls [.int r13]) rfl ?_
      obtain rfl := os1 hf
      exact hret H locs _ _ _ d_Va_emitted_94 rfl hP hS
    · have hf := xif_f c10 hf
      by_cases c15 : r1 = (3 : Int32)
      · have hf := xif_t c15 hf
        refine lv_tableIn (off := 87) (tgt := 95) hx hb d_Va_emitted_8 (by rw [c15]; decide) (by rw [c15]; decide) (by rw [c15]; rfl) (by decide) ?_
        refine lv_aload_n hx hb d_Va_emitted_95 rfl (lv_at hl 0 rfl) ?_
        refine va_get (D := (dC, dI)) (ci := 5) (v := .ref (ad 11)) (C := R_Va) (T := F_Va) (N := 4) hx hb hts iw_Va hown hK hP 22 rfl rfl 0 (by decide) (hts _ m_185) (fun _ h9 => h9) rfl d_Va_emitted_96 ?_
        refine lv_iload_n hx hb d_Va_emitted_99 rfl (lv_at hl 1 rfl) ?_
        refine lv_aload_n hx hb d_Va_emitted_100 rfl (lv_at hl 0 rfl) ?_
        refine va_get (D := (dC, dI)) (ci := 5) (v := .ref (ad 20)) (C := R_Va) (T := F_Va) (N := 4) hx hb hts iw_Va hown hK hP 22 rfl rfl 1 (by decide) (hts _ m_186) (fun _ h9 => h9) rfl d_Va_emitted_101 ?_
        refine lv_iload_n hx hb d_Va_emitted_104 rfl (lv_at hl 2 rfl) ?_
        refine lv_iload_n hx hb d_Va_emitted_105 rfl (lv_at hl 3 rfl) ?_
        refine lv_iadd hx hb d_Va_emitted_106 ?_
        refine lv_iconst (v := 1) hx hb d_Va_emitted_107 (by decide) ?_
        refine lv_isub hx hb d_Va_emitted_108 ?_
        obtain ⟨r16, hc17, hf⟩ := ob1_inv hf
        refine xk_i (xrunV (C := R_Tx) (As := [.int ((a2 + a3) - (1 : Int32))]) (rest := [.int a1, .ref (ad 11)]) ⟨hx, hb, hml, hown, hts⟩ (c_Tx_letter l dC dI ty ad ta H.size co_rows co_marks co_rowSets co_partners co_open co_count tr_kinds tr_lefts tr_rights tr_seconds tr_size gr_kinds gr_nodes gr_rowSets gr_firstStates gr_targetCounts gr_targets gr_stepScores gr_letterScores gr_size tx_letters tx_length va_scores va_knownEnds hi_begins hi_lengths hi_scores hi_taken hi_count de_states de_begins de_lengths de_length ((a2 + a3) - (1 : Int32)) r16 hc17) z_Va_90 ⟨⟨rfl, rfl⟩, by decide, by decide⟩ hK hP hD hN hS hA (va_recv hK hP (ci := 4) (q0 := 20) rfl rfl) rfl hl.1 rfl (Nat.le_of_ble_eq_true rfl) d_Va_emitted_109 ⟨Nat.zero_le _, Nat.zero_le _⟩) hS hD rfl hA (fun H locs hP hD hS => ?_)
        refine W.eq (g2 := F0 m 112 ls [.int r16, .int a1, .ref (ad 11)]) rfl ?_
        refine lv_iconst (v := 0) hx hb d_Va_emitted_112 (by decide) ?_
        obtain ⟨r18, hc19, hf⟩ := ob1_inv hf
        refine xk_i (xrunV (C := R_Gr) (As := [.int a1, .int r16, .int (0 : Int32)]) (rest := []) ⟨hx, hb, hml, hown, hts⟩ (c_Gr_letterScore l dC dI ty ad ta H.size co_rows co_marks co_rowSets co_partners co_open co_count tr_kinds tr_lefts tr_rights tr_seconds tr_size gr_kinds gr_nodes gr_rowSets gr_firstStates gr_targetCounts gr_targets gr_stepScores gr_letterScores gr_size tx_letters tx_length va_scores va_knownEnds hi_begins hi_lengths hi_scores hi_taken hi_count de_states de_begins de_lengths de_length a1 r16 (0 : Int32) r18 hc19) z_Va_93 ⟨⟨rfl, rfl⟩, by decide, by decide⟩ hK hP hD hN hS hA (va_recv hK hP (ci := 3) (q0 := 11) rfl rfl) rfl hl.1 rfl (Nat.le_of_ble_eq_true rfl) d_Va_emitted_113 ⟨Nat.zero_le _, Nat.zero_le _⟩) hS hD rfl hA (fun H locs hP hD hS => ?_)
        refine W.eq (g2 := F0 m 116 ls [.int r18]) rfl ?_
        obtain rfl := os1 hf
        exact hret H locs _ _ _ d_Va_emitted_116 rfl hP hS
      · have hf := xif_f c15 hf
        by_cases c20 : r1 = (4 : Int32)
        · have hf := xif_t c20 hf
          refine lv_tableIn (off := 109) (tgt := 117) hx hb d_Va_emitted_8 (by rw [c20]; decide) (by rw [c20]; decide) (by rw [c20]; rfl) (by decide) ?_
          refine lv_iconst (v := 0) hx hb d_Va_emitted_117 (by decide) ?_
          obtain rfl := os1 hf
          exact hret H locs _ _ _ d_Va_emitted_118 rfl hP hS
        · have hf := xif_f c20 hf
          by_cases c21 : r1 = (5 : Int32)
          · have hf := xif_t c21 hf
            refine lv_tableIn (off := 69) (tgt := 77) hx hb d_Va_emitted_8 (by rw [c21]; decide) (by rw [c21]; decide) (by rw [c21]; rfl) (by decide) ?_
            refine lv_aload_n hx hb d_Va_emitted_77 rfl (lv_at hl 0 rfl) ?_
            refine va_get (D := (dC, dI)) (ci := 5) (v := .ref (ad 11)) (C := R_Va) (T := F_Va) (N := 4) hx hb hts iw_Va hown hK hP 22 rfl rfl 0 (by decide) (hts _ m_185) (fun _ h9 => h9) rfl d_Va_emitted_78 ?_
            refine lv_iload_n hx hb d_Va_emitted_81 rfl (lv_at hl 1 rfl) ?_
            refine lv_aload_n hx hb d_Va_emitted_82 rfl (lv_at hl 0 rfl) ?_
            refine va_get (D := (dC, dI)) (ci := 5) (v := .ref (ad 20)) (C := R_Va) (T := F_Va) (N := 4) hx hb hts iw_Va hown hK hP 22 rfl rfl 1 (by decide) (hts _ m_186) (fun _ h9 => h9) rfl d_Va_emitted_83 ?_
            refine lv_iload_n hx hb d_Va_emitted_86 rfl (lv_at hl 2 rfl) ?_
            obtain ⟨r22, hc23, hf⟩ := ob1_inv hf
            refine xk_i (xrunV (C := R_Tx) (As := [.int a2]) (rest := [.int a1, .ref (ad 11)]) ⟨hx, hb, hml, hown, hts⟩ (c_Tx_letter l dC dI ty ad ta H.size co_rows co_marks co_rowSets co_partners co_open co_count tr_kinds tr_lefts tr_rights tr_seconds tr_size gr_kinds gr_nodes gr_rowSets gr_firstStates gr_targetCounts gr_targets gr_stepScores gr_letterScores gr_size tx_letters tx_length va_scores va_knownEnds hi_begins hi_lengths hi_scores hi_taken hi_count de_states de_begins de_lengths de_length a2 r22 hc23) z_Va_90 ⟨⟨rfl, rfl⟩, by decide, by decide⟩ hK hP hD hN hS hA (va_recv hK hP (ci := 4) (q0 := 20) rfl rfl) rfl hl.1 rfl (Nat.le_of_ble_eq_true rfl) d_Va_emitted_87 ⟨Nat.zero_le _, Nat.zero_le _⟩) hS hD rfl hA (fun H locs hP hD hS => ?_)
            refine W.eq (g2 := F0 m 90 ls [.int r22, .int a1, .ref (ad 11)]) rfl ?_
            refine lv_iconst (v := 0) hx hb d_Va_emitted_90 (by decide) ?_
            obtain ⟨r24, hc25, hf⟩ := ob1_inv hf
            refine xk_i (xrunV (C := R_Gr) (As := [.int a1, .int r22, .int (0 : Int32)]) (rest := []) ⟨hx, hb, hml, hown, hts⟩ (c_Gr_letterScore l dC dI ty ad ta H.size co_rows co_marks co_rowSets co_partners co_open co_count tr_kinds tr_lefts tr_rights tr_seconds tr_size gr_kinds gr_nodes gr_rowSets gr_firstStates gr_targetCounts gr_targets gr_stepScores gr_letterScores gr_size tx_letters tx_length va_scores va_knownEnds hi_begins hi_lengths hi_scores hi_taken hi_count de_states de_begins de_lengths de_length a1 r22 (0 : Int32) r24 hc25) z_Va_93 ⟨⟨rfl, rfl⟩, by decide, by decide⟩ hK hP hD hN hS hA (va_recv hK hP (ci := 3) (q0 := 11) rfl rfl) rfl hl.1 rfl (Nat.le_of_ble_eq_true rfl) d_Va_emitted_91 ⟨Nat.zero_le _, Nat.zero_le _⟩) hS hD rfl hA (fun H locs hP hD hS => ?_)
            refine W.eq (g2 := F0 m 94 ls [.int r24]) rfl ?_
            obtain rfl := os1 hf
            exact hret H locs _ _ _ d_Va_emitted_94 rfl hP hS
          · have hf := xif_f c21 hf
            by_cases c26 : r1 = (6 : Int32)
            · have hf := xif_t c26 hf
              refine lv_tableIn (off := 87) (tgt := 95) hx hb d_Va_emitted_8 (by rw [c26]; decide) (by rw [c26]; decide) (by rw [c26]; rfl) (by decide) ?_
              refine lv_aload_n hx hb d_Va_emitted_95 rfl (lv_at hl 0 rfl) ?_
              refine va_get (D := (dC, dI)) (ci := 5) (v := .ref (ad 11)) (C := R_Va) (T := F_Va) (N := 4) hx hb hts iw_Va hown hK hP 22 rfl rfl 0 (by decide) (hts _ m_185) (fun _ h9 => h9) rfl d_Va_emitted_96 ?_
              refine lv_iload_n hx hb d_Va_emitted_99 rfl (lv_at hl 1 rfl) ?_
              refine lv_aload_n hx hb d_Va_emitted_100 rfl (lv_at hl 0 rfl) ?_
              refine va_get (D := (dC, dI)) (ci := 5) (v := .ref (ad 20)) (C := R_Va) (T := F_Va) (N := 4) hx hb hts iw_Va hown hK hP 22 rfl rfl 1 (by decide) (hts _ m_186) (fun _ h9 => h9) rfl d_Va_emitted_101 ?_
              refine lv_iload_n hx hb d_Va_emitted_104 rfl (lv_at hl 2 rfl) ?_
              refine lv_iload_n hx hb d_Va_emitted_105 rfl (lv_at hl 3 rfl) ?_
              refine lv_iadd hx hb d_Va_emitted_106 ?_
              refine lv_iconst (v := 1) hx hb d_Va_emitted_107 (by decide) ?_
              refine lv_isub hx hb d_Va_emitted_108 ?_
              obtain ⟨r27, hc28, hf⟩ := ob1_inv hf
              refine xk_i (xrunV (C := R_Tx) (As := [.int ((a2 + a3) - (1 : Int32))]) (rest := [.int a1, .ref (ad 11)]) ⟨hx, hb, hml, hown, hts⟩ (c_Tx_letter l dC dI ty ad ta H.size co_rows co_marks co_rowSets co_partners co_open co_count tr_kinds tr_lefts tr_rights tr_seconds tr_size gr_kinds gr_nodes gr_rowSets gr_firstStates gr_targetCounts gr_targets gr_stepScores gr_letterScores gr_size tx_letters tx_length va_scores va_knownEnds hi_begins hi_lengths hi_scores hi_taken hi_count de_states de_begins de_lengths de_length ((a2 + a3) - (1 : Int32)) r27 hc28) z_Va_90 ⟨⟨rfl, rfl⟩, by decide, by decide⟩ hK hP hD hN hS hA (va_recv hK hP (ci := 4) (q0 := 20) rfl rfl) rfl hl.1 rfl (Nat.le_of_ble_eq_true rfl) d_Va_emitted_109 ⟨Nat.zero_le _, Nat.zero_le _⟩) hS hD rfl hA (fun H locs hP hD hS => ?_)
              refine W.eq (g2 := F0 m 112 ls [.int r27, .int a1, .ref (ad 11)]) rfl ?_
              refine lv_iconst (v := 0) hx hb d_Va_emitted_112 (by decide) ?_
              obtain ⟨r29, hc30, hf⟩ := ob1_inv hf
              refine xk_i (xrunV (C := R_Gr) (As := [.int a1, .int r27, .int (0 : Int32)]) (rest := []) ⟨hx, hb, hml, hown, hts⟩ (c_Gr_letterScore l dC dI ty ad ta H.size co_rows co_marks co_rowSets co_partners co_open co_count tr_kinds tr_lefts tr_rights tr_seconds tr_size gr_kinds gr_nodes gr_rowSets gr_firstStates gr_targetCounts gr_targets gr_stepScores gr_letterScores gr_size tx_letters tx_length va_scores va_knownEnds hi_begins hi_lengths hi_scores hi_taken hi_count de_states de_begins de_lengths de_length a1 r27 (0 : Int32) r29 hc30) z_Va_93 ⟨⟨rfl, rfl⟩, by decide, by decide⟩ hK hP hD hN hS hA (va_recv hK hP (ci := 3) (q0 := 11) rfl rfl) rfl hl.1 rfl (Nat.le_of_ble_eq_true rfl) d_Va_emitted_113 ⟨Nat.zero_le _, Nat.zero_le _⟩) hS hD rfl hA (fun H locs hP hD hS => ?_)
              refine W.eq (g2 := F0 m 116 ls [.int r29]) rfl ?_
              obtain rfl := os1 hf
              exact hret H locs _ _ _ d_Va_emitted_116 rfl hP hS
            · have hf := xif_f c26 hf
              have qc3 := lv_neT (a := 1) c3 rfl
              have qc10 := lv_neT (a := 2) c10 rfl
              have qc15 := lv_neT (a := 3) c15 rfl
              have qc20 := lv_neT (a := 4) c20 rfl
              have qc21 := lv_neT (a := 5) c21 rfl
              have qc26 := lv_neT (a := 6) c26 rfl
              refine lv_tableOut (tgt := 117) hx hb d_Va_emitted_8 (by omega) (by decide) ?_
              refine lv_iconst (v := 0) hx hb d_Va_emitted_117 (by decide) ?_
              obtain rfl := os1 hf
              exact hret H locs _ _ _ d_Va_emitted_118 rfl hP hS
def f_Va_greatestOfTargets_K43_80 (gr_kinds : (Nat → Int32)) (gr_letterScores : (Nat → Int32)) (tx_letters : (Nat → Int32)) (a1 : Int32) (a2 : Int32) (a3 : Int32) (x7_43 : Int32) (x8_43 : Int32) : Option (Int32) := if x7_43 = (-1000000 : Int32) then (some ((-1000000 : Int32))) else (ob1 (f_Va_emitted gr_kinds gr_letterScores tx_letters a1 a2 a3) (fun r14 => some ((x7_43 + r14))))
def f_Va_greatestOfTargets_L43 (gr_targetCounts : (Nat → Int32)) (gr_targets : (Nat → Int32)) (gr_stepScores : (Nat → Int32)) (va_scores : (Nat → Int32)) (a1 : Int32) (a2 : Int32) (a3 : Int32) (r3 : Int32) (r5 : Int32) (k43_80 : (Int32 → Int32 → Option (Int32))) : Nat → Int32 → Int32 → Option (Int32)
  | 0, _, _ => none
  | n43 + 1, x7_43, x8_43 => ob1 (f_Gr_targetCount gr_targetCounts a1) (fun r8 => if r8 ≤ x8_43 then (k43_80 x7_43 x8_43) else (ob1 (f_Va_throughTarget gr_targets gr_stepScores va_scores a1 x8_43 (a2 + r3) (a3 - r5)) (fun r11 => (f_Va_greatestOfTargets_L43 gr_targetCounts gr_targets gr_stepScores va_scores a1 a2 a3 r3 r5 k43_80 n43) (imax x7_43 r11) (x8_43 + (1 : Int32)))))
def f_Va_greatestOfTargets (gr_kinds : (Nat → Int32)) (gr_targetCounts : (Nat → Int32)) (gr_targets : (Nat → Int32)) (gr_stepScores : (Nat → Int32)) (gr_letterScores : (Nat → Int32)) (tx_letters : (Nat → Int32)) (va_scores : (Nat → Int32)) (a1 : Int32) (a2 : Int32) (a3 : Int32) : Option (Int32) := ob1 (f_Gr_kindOf gr_kinds a1) (fun r1 => ob1 (f_Fa_lettersBefore r1) (fun r3 => ob1 (f_Fa_lettersOf r1) (fun r5 => if (0 : Int32) ≤ (a3 - r5) then (f_Va_greatestOfTargets_L43 gr_targetCounts gr_targets gr_stepScores va_scores a1 a2 a3 r3 r5 (f_Va_greatestOfTargets_K43_80 gr_kinds gr_letterScores tx_letters a1 a2 a3) 1000 (-1000000 : Int32) (0 : Int32)) else (some ((-1000000 : Int32))))))
set_option maxHeartbeats 4000000 in
set_option maxRecDepth 100000 in
theorem c_Va_greatestOfTargets (l : Launch) (dC : Nat → ClassId) (dI : Nat → Nat → Nat) (ty : Nat → ClassId) (ad : Nat → Nat) (ta : Nat → Nat) (sz : Nat) (co_rows : Int32) (co_marks : (Nat → Int32)) (co_rowSets : (Nat → Int32)) (co_partners : (Nat → Int32)) (co_open : (Nat → Int32)) (co_count : Int32) (tr_kinds : (Nat → Int32)) (tr_lefts : (Nat → Int32)) (tr_rights : (Nat → Int32)) (tr_seconds : (Nat → Int32)) (tr_size : Int32) (gr_kinds : (Nat → Int32)) (gr_nodes : (Nat → Int32)) (gr_rowSets : (Nat → Int32)) (gr_firstStates : (Nat → Int32)) (gr_targetCounts : (Nat → Int32)) (gr_targets : (Nat → Int32)) (gr_stepScores : (Nat → Int32)) (gr_letterScores : (Nat → Int32)) (gr_size : Int32) (tx_letters : (Nat → Int32)) (tx_length : Int32) (va_scores : (Nat → Int32)) (va_knownEnds : Int32) (hi_begins : (Nat → Int32)) (hi_lengths : (Nat → Int32)) (hi_scores : (Nat → Int32)) (hi_taken : (Nat → Int32)) (hi_count : Int32) (de_states : (Nat → Int32)) (de_begins : (Nat → Int32)) (de_lengths : (Nat → Int32)) (de_length : Int32) (a1 : Int32) (a2 : Int32) (a3 : Int32) (r0 : Int32) (hf : f_Va_greatestOfTargets gr_kinds gr_targetCounts gr_targets gr_stepScores gr_letterScores tx_letters va_scores a1 a2 a3 = some (r0)) : Met l y_Va_greatestOfTargets (.code y_Va_greatestOfTargets prog_8_method_10_code 9 (some .int) :: gw) rm_Va_greatestOfTargets (xPre ta (dC, dI) classes (tys3 ty) (wX ty ad co_rows co_marks co_rowSets co_partners co_open co_count tr_kinds tr_lefts tr_rights tr_seconds tr_size gr_kinds gr_nodes gr_rowSets gr_firstStates gr_targetCounts gr_targets gr_stepScores gr_letterScores gr_size tx_letters tx_length va_scores va_knownEnds hi_begins hi_lengths hi_scores hi_taken hi_count de_states de_begins de_lengths de_length) sz [.ref (ad 22), .int a1, .int a2, .int a3]) (xQi (dC, dI) classes (wX ty ad co_rows co_marks co_rowSets co_partners co_open co_count tr_kinds tr_lefts tr_rights tr_seconds tr_size gr_kinds gr_nodes gr_rowSets gr_firstStates gr_targetCounts gr_targets gr_stepScores gr_letterScores gr_size tx_letters tx_length va_scores va_knownEnds hi_begins hi_lengths hi_scores hi_taken hi_count de_states de_begins de_lengths de_length) (wX ty ad co_rows co_marks co_rowSets co_partners co_open co_count tr_kinds tr_lefts tr_rights tr_seconds tr_size gr_kinds gr_nodes gr_rowSets gr_firstStates gr_targetCounts gr_targets gr_stepScores gr_letterScores gr_size tx_letters tx_length va_scores va_knownEnds hi_begins hi_lengths hi_scores hi_taken hi_count de_states de_begins de_lengths de_length) sz r0) 0 0 (va_A (wX ty ad co_rows co_marks co_rowSets co_partners co_open co_count tr_kinds tr_lefts tr_rights tr_seconds tr_size gr_kinds gr_nodes gr_rowSets gr_firstStates gr_targetCounts gr_targets gr_stepScores gr_letterScores gr_size tx_letters tx_length va_scores va_knownEnds hi_begins hi_lengths hi_scores hi_taken hi_count de_states de_begins de_lengths de_length) sz) := by
  refine xmet_i rfl (Nat.le_of_ble_eq_true rfl) ?_
  intro p e s m below meth c A ls Q hx hb hml hts hown hK hN hA hP hD hS hl hret
  replace hown : s.vm.findClass R_Va = some m.cls := hown
  have hl : lv_has ls 9 [(0, .ref (ad 22)), (1, .int a1), (2, .int a2), (3, .int a3)] := hl
  rw [f_Va_greatestOfTargets] at hf
  obtain ⟨H, eH⟩ : ∃ H : Heap, H = s.heap := ⟨_, rfl⟩
  obtain ⟨locs, eL⟩ : ∃ L : List Loc, L = [] := ⟨_, rfl⟩
  have hP : va_P (dC, dI) classes (wX ty ad co_rows co_marks co_rowSets co_partners co_open co_count tr_kinds tr_lefts tr_rights tr_seconds tr_size gr_kinds gr_nodes gr_rowSets gr_firstStates gr_targetCounts gr_targets gr_stepScores gr_letterScores gr_size tx_letters tx_length va_scores va_knownEnds hi_begins hi_lengths hi_scores hi_taken hi_count de_states de_begins de_lengths de_length) H := by rw [eH]; exact hP
  have hS : va_S A s.heap H locs := by rw [eH, eL]; exact hS
  rw [← eL]
  suffices hgoal : W p l e rm_Va_greatestOfTargets s m (List.toArray [.ref (ad 22), .int a1, .int a2, .int a3]) below meth c H locs 0 0 Q (F0 m 0 ls []) by rw [eH] at hgoal; exact hgoal
  clear eH eL
  refine lv_aload_n hx hb d_Va_greatestOfTargets_0 rfl (lv_at hl 0 rfl) ?_
  refine va_get (D := (dC, dI)) (ci := 5) (v := .ref (ad 11)) (C := R_Va) (T := F_Va) (N := 4) hx hb hts iw_Va hown hK hP 22 rfl rfl 0 (by decide) (hts _ m_185) (fun _ h9 => h9) rfl d_Va_greatestOfTargets_1 ?_
  refine lv_iload_n hx hb d_Va_greatestOfTargets_4 rfl (lv_at hl 1 rfl) ?_
  obtain ⟨r1, hc2, hf⟩ := ob1_inv hf
  refine xk_i (xrunV (C := R_Gr) (As := [.int a1]) (rest := []) ⟨hx, hb, hml, hown, hts⟩ (c_Gr_kindOf l dC dI ty ad ta H.size co_rows co_marks co_rowSets co_partners co_open co_count tr_kinds tr_lefts tr_rights tr_seconds tr_size gr_kinds gr_nodes gr_rowSets gr_firstStates gr_targetCounts gr_targets gr_stepScores gr_letterScores gr_size tx_letters tx_length va_scores va_knownEnds hi_begins hi_lengths hi_scores hi_taken hi_count de_states de_begins de_lengths de_length a1 r1 hc2) z_Va_49 ⟨⟨rfl, rfl⟩, by decide, by decide⟩ hK hP hD hN hS hA (va_recv hK hP (ci := 3) (q0 := 11) rfl rfl) rfl hl.1 rfl (Nat.le_of_ble_eq_true rfl) d_Va_greatestOfTargets_5 ⟨Nat.zero_le _, Nat.zero_le _⟩) hS hD rfl hA (fun H locs hP hD hS => ?_)
  refine W.eq (g2 := F0 m 8 ls [.int r1]) rfl ?_
  refine lv_istore (lv' := [(4, .int r1), (0, .ref (ad 22)), (1, .int a1), (2, .int a2), (3, .int a3)]) hx hb d_Va_greatestOfTargets_8 hl (by decide) rfl (fun ls hl => ?_)
  refine lv_iload_n hx hb d_Va_greatestOfTargets_10 rfl (lv_at hl 3 rfl) ?_
  refine lv_iload hx hb d_Va_greatestOfTargets_11 (lv_at hl 0 rfl) ?_
  obtain ⟨r3, hc4, hf⟩ := ob1_inv hf
  refine xk_i (xrunSN (As := [.int r1]) (rest := [.int a2]) ⟨hx, hb, hml, hown, hts⟩ (c_Fa_lettersBefore l dC dI ty ad ta H.size co_rows co_marks co_rowSets co_partners co_open co_count tr_kinds tr_lefts tr_rights tr_seconds tr_size gr_kinds gr_nodes gr_rowSets gr_firstStates gr_targetCounts gr_targets gr_stepScores gr_letterScores gr_size tx_letters tx_length va_scores va_knownEnds hi_begins hi_lengths hi_scores hi_taken hi_count de_states de_begins de_lengths de_length r1 r3 hc4) z_Va_59 ⟨⟨rfl, rfl⟩, by decide, by decide⟩ hK hP hD hN hS hA rfl hl.1 rfl (Nat.le_of_ble_eq_true rfl) d_Va_greatestOfTargets_13 ⟨Nat.zero_le _, Nat.zero_le _⟩) hS hD rfl hA (fun H locs hP hD hS => ?_)
  refine W.eq (g2 := F0 m 16 ls [.int r3, .int a2]) rfl ?_
  refine lv_iadd hx hb d_Va_greatestOfTargets_16 ?_
  refine lv_istore (lv' := [(5, .int (a2 + r3)), (4, .int r1), (0, .ref (ad 22)), (1, .int a1), (2, .int a2), (3, .int a3)]) hx hb d_Va_greatestOfTargets_17 hl (by decide) rfl (fun ls hl => ?_)
  refine lv_iload_n hx hb d_Va_greatestOfTargets_19 rfl (lv_at hl 5 rfl) ?_
  refine lv_iload hx hb d_Va_greatestOfTargets_20 (lv_at hl 1 rfl) ?_
  obtain ⟨r5, hc6, hf⟩ := ob1_inv hf
  refine xk_i (xrunSN (As := [.int r1]) (rest := [.int a3]) ⟨hx, hb, hml, hown, hts⟩ (c_Fa_lettersOf l dC dI ty ad ta H.size co_rows co_marks co_rowSets co_partners co_open co_count tr_kinds tr_lefts tr_rights tr_seconds tr_size gr_kinds gr_nodes gr_rowSets gr_firstStates gr_targetCounts gr_targets gr_stepScores gr_letterScores gr_size tx_letters tx_length va_scores va_knownEnds hi_begins hi_lengths hi_scores hi_taken hi_count de_states de_begins de_lengths de_length r1 r5 hc6) z_Va_62 ⟨⟨rfl, rfl⟩, by decide, by decide⟩ hK hP hD hN hS hA rfl hl.1 rfl (Nat.le_of_ble_eq_true rfl) d_Va_greatestOfTargets_22 ⟨Nat.zero_le _, Nat.zero_le _⟩) hS hD rfl hA (fun H locs hP hD hS => ?_)
  refine W.eq (g2 := F0 m 25 ls [.int r5, .int a3]) rfl ?_
  refine lv_isub hx hb d_Va_greatestOfTargets_25 ?_
  refine lv_istore (lv' := [(6, .int (a3 - r5)), (5, .int (a2 + r3)), (4, .int r1), (0, .ref (ad 22)), (1, .int a1), (2, .int a2), (3, .int a3)]) hx hb d_Va_greatestOfTargets_26 hl (by decide) rfl (fun ls hl => ?_)
  refine lv_iload hx hb d_Va_greatestOfTargets_28 (lv_at hl 0 rfl) ?_
  refine lv_if_ge (tgt := 36) hx hb d_Va_greatestOfTargets_30 (by decide) (fun c7 => ?_) (fun c7 => ?_)
  · have hf := xif_t c7 hf
    refine lv_ldc (v := -1000000) hx hb hown (hts _ m_560) d_Va_greatestOfTargets_36 ?_
    refine lv_istore (lv' := [(7, .int (-1000000 : Int32)), (6, .int (a3 - r5)), (5, .int (a2 + r3)), (4, .int r1), (0, .ref (ad 22)), (1, .int a1), (2, .int a2), (3, .int a3)]) hx hb d_Va_greatestOfTargets_38 hl (by decide) rfl (fun ls hl => ?_)
    refine lv_iconst (v := 0) hx hb d_Va_greatestOfTargets_40 (by decide) ?_
    refine lv_istore (lv' := [(8, .int (0 : Int32)), (7, .int (-1000000 : Int32)), (6, .int (a3 - r5)), (5, .int (a2 + r3)), (4, .int r1), (0, .ref (ad 22)), (1, .int a1), (2, .int a2), (3, .int a3)]) hx hb d_Va_greatestOfTargets_41 hl (by decide) rfl (fun ls hl => ?_)
    have K43_80 : ∀ (x7_43 : Int32) (x8_43 : Int32) (H : Heap) (locs : List Loc) (ls : Array Slot), va_P (dC, dI) classes (wX ty ad co_rows co_marks co_rowSets co_partners co_open co_count tr_kinds tr_lefts tr_rights tr_seconds tr_size gr_kinds gr_nodes gr_rowSets gr_firstStates gr_targetCounts gr_targets gr_stepScores gr_letterScores gr_size tx_letters tx_length va_scores va_knownEnds hi_begins hi_lengths hi_scores hi_taken hi_count de_states de_begins de_lengths de_length) H → va_D A (wX ty ad co_rows co_marks co_rowSets co_partners co_open co_count tr_kinds tr_lefts tr_rights tr_seconds tr_size gr_kinds gr_nodes gr_rowSets gr_firstStates gr_targetCounts gr_targets gr_stepScores gr_letterScores gr_size tx_letters tx_length va_scores va_knownEnds hi_begins hi_lengths hi_scores hi_taken hi_count de_states de_begins de_lengths de_length) → va_S A s.heap H locs → lv_has ls 9 [(0, .ref (ad 22)), (1, .int a1), (2, .int a2), (3, .int a3), (7, .int x7_43)] → f_Va_greatestOfTargets_K43_80 gr_kinds gr_letterScores tx_letters a1 a2 a3 x7_43 x8_43 = some (r0) → W p l e rm_Va_greatestOfTargets s m (List.toArray [.ref (ad 22), .int a1, .int a2, .int a3]) below meth c H locs 0 0 Q (F0 m 80 ls []) := by
      intro x7_43 x8_43 H locs ls hP hD hS hl hf
      rw [f_Va_greatestOfTargets_K43_80] at hf
      refine lv_iload hx hb d_Va_greatestOfTargets_80 (lv_at hl 4 rfl) ?_
      refine lv_ldc (v := -1000000) hx hb hown (hts _ m_560) d_Va_greatestOfTargets_82 ?_
      refine lv_icmp_ne (tgt := 92) hx hb d_Va_greatestOfTargets_84 (by decide) (fun c13 => ?_) (fun c13 => ?_)
      · have hf := xif_f c13 hf
        refine lv_iload hx hb d_Va_greatestOfTargets_92 (lv_at hl 4 rfl) ?_
        refine lv_aload_n hx hb d_Va_greatestOfTargets_94 rfl (lv_at hl 0 rfl) ?_
        refine lv_iload_n hx hb d_Va_greatestOfTargets_95 rfl (lv_at hl 1 rfl) ?_
        refine lv_iload_n hx hb d_Va_greatestOfTargets_96 rfl (lv_at hl 2 rfl) ?_
        refine lv_iload_n hx hb d_Va_greatestOfTargets_97 rfl (lv_at hl 3 rfl) ?_
        obtain ⟨r14, hc15, hf⟩ := ob1_inv hf
        refine xk_i (xrunV (C := R_Va) (As := [.int a1, .int a2, .int a3]) (rest := [.int x7_43]) ⟨hx, hb, hml, hown, hts⟩ (c_Va_emitted l dC dI ty ad ta H.size co_rows co_marks co_rowSets co_partners co_open co_count tr_kinds tr_lefts tr_rights tr_seconds tr_size gr_kinds gr_nodes gr_rowSets gr_firstStates gr_targetCounts gr_targets gr_stepScores gr_letterScores gr_size tx_letters tx_length va_scores va_knownEnds hi_begins hi_lengths hi_scores hi_taken hi_count de_states de_begins de_lengths de_length a1 a2 a3 r14 hc15) z_Va_53 ⟨⟨rfl, rfl⟩, by decide, by decide⟩ hK hP hD hN hS hA (va_recv hK hP (ci := 5) (q0 := 22) rfl rfl) rfl hl.1 rfl (Nat.le_of_ble_eq_true rfl) d_Va_greatestOfTargets_98 ⟨Nat.zero_le _, Nat.zero_le _⟩) hS hD rfl hA (fun H locs hP hD hS => ?_)
        refine W.eq (g2 := F0 m 101 ls [.int r14, .int x7_43]) rfl ?_
        refine lv_iadd hx hb d_Va_greatestOfTargets_101 ?_
        obtain rfl := os1 hf
        exact hret H locs _ _ _ d_Va_greatestOfTargets_102 rfl hP hS
      · have hf := xif_t c13 hf
        refine lv_ldc (v := -1000000) hx hb hown (hts _ m_560) d_Va_greatestOfTargets_87 ?_
        refine lv_goto (tgt := 102) hx hb d_Va_greatestOfTargets_89 (by decide) ?_
        obtain rfl := os1 hf
        exact hret H locs _ _ _ d_Va_greatestOfTargets_102 rfl hP hS
    have L43 : ∀ (n43 : Nat), ∀ (x7_43 : Int32) (x8_43 : Int32) (H : Heap) (locs : List Loc) (ls : Array Slot), va_P (dC, dI) classes (wX ty ad co_rows co_marks co_rowSets co_partners co_open co_count tr_kinds tr_lefts tr_rights tr_seconds tr_size gr_kinds gr_nodes gr_rowSets gr_firstStates gr_targetCounts gr_targets gr_stepScores gr_letterScores gr_size tx_letters tx_length va_scores va_knownEnds hi_begins hi_lengths hi_scores hi_taken hi_count de_states de_begins de_lengths de_length) H → va_D A (wX ty ad co_rows co_marks co_rowSets co_partners co_open co_count tr_kinds tr_lefts tr_rights tr_seconds tr_size gr_kinds gr_nodes gr_rowSets gr_firstStates gr_targetCounts gr_targets gr_stepScores gr_letterScores gr_size tx_letters tx_length va_scores va_knownEnds hi_begins hi_lengths hi_scores hi_taken hi_count de_states de_begins de_lengths de_length) → va_S A s.heap H locs → lv_has ls 9 [(0, .ref (ad 22)), (1, .int a1), (2, .int a2), (3, .int a3), (5, .int (a2 + r3)), (6, .int (a3 - r5)), (7, .int x7_43), (8, .int x8_43)] → f_Va_greatestOfTargets_L43 gr_targetCounts gr_targets gr_stepScores va_scores a1 a2 a3 r3 r5 (f_Va_greatestOfTargets_K43_80 gr_kinds gr_letterScores tx_letters a1 a2 a3) n43 x7_43 x8_43 = some (r0) → W p l e rm_Va_greatestOfTargets s m (List.toArray [.ref (ad 22), .int a1, .int a2, .int a3]) below meth c H locs 0 0 Q (F0 m 43 ls []) := by
      intro n43
      induction n43 with
      | zero =>
        intro x7_43 x8_43 H locs ls hP hD hS hl hf
        rw [f_Va_greatestOfTargets_L43] at hf
        cases hf
      | succ n43 ih43 =>
        intro x7_43 x8_43 H locs ls hP hD hS hl hf
        rw [f_Va_greatestOfTargets_L43] at hf
        refine lv_iload hx hb d_Va_greatestOfTargets_43 (lv_at hl 7 rfl) ?_
        refine lv_aload_n hx hb d_Va_greatestOfTargets_45 rfl (lv_at hl 0 rfl) ?_
        refine va_get (D := (dC, dI)) (ci := 5) (v := .ref (ad 11)) (C := R_Va) (T := F_Va) (N := 4) hx hb hts iw_Va hown hK hP 22 rfl rfl 0 (by decide) (hts _ m_185) (fun _ h9 => h9) rfl d_Va_greatestOfTargets_46 ?_
        refine lv_iload_n hx hb d_Va_greatestOfTargets_49 rfl (lv_at hl 1 rfl) ?_
        obtain ⟨r8, hc9, hf⟩ := ob1_inv hf
        refine xk_i (xrunV (C := R_Gr) (As := [.int a1]) (rest := [.int x8_43]) ⟨hx, hb, hml, hown, hts⟩ (c_Gr_targetCount l dC dI ty ad ta H.size co_rows co_marks co_rowSets co_partners co_open co_count tr_kinds tr_lefts tr_rights tr_seconds tr_size gr_kinds gr_nodes gr_rowSets gr_firstStates gr_targetCounts gr_targets gr_stepScores gr_letterScores gr_size tx_letters tx_length va_scores va_knownEnds hi_begins hi_lengths hi_scores hi_taken hi_count de_states de_begins de_lengths de_length a1 r8 hc9) z_Va_56 ⟨⟨rfl, rfl⟩, by decide, by decide⟩ hK hP hD hN hS hA (va_recv hK hP (ci := 3) (q0 := 11) rfl rfl) rfl hl.1 rfl (Nat.le_of_ble_eq_true rfl) d_Va_greatestOfTargets_50 ⟨Nat.zero_le _, Nat.zero_le _⟩) hS hD rfl hA (fun H locs hP hD hS => ?_)
        refine W.eq (g2 := F0 m 53 ls [.int r8, .int x8_43]) rfl ?_
        refine lv_icmp_ge (tgt := 80) hx hb d_Va_greatestOfTargets_53 (by decide) (fun c10 => ?_) (fun c10 => ?_)
        · have hf := xif_t c10 hf
          exact K43_80 x7_43 x8_43 _ _ _ hP hD hS (lv_sub hl [0, 1, 2, 3, 6] rfl) hf
        · have hf := xif_f c10 hf
          refine lv_iload hx hb d_Va_greatestOfTargets_56 (lv_at hl 6 rfl) ?_
          refine lv_aload_n hx hb d_Va_greatestOfTargets_58 rfl (lv_at hl 0 rfl) ?_
          refine lv_iload_n hx hb d_Va_greatestOfTargets_59 rfl (lv_at hl 1 rfl) ?_
          refine lv_iload hx hb d_Va_greatestOfTargets_60 (lv_at hl 7 rfl) ?_
          refine lv_iload hx hb d_Va_greatestOfTargets_62 (lv_at hl 4 rfl) ?_
          refine lv_iload hx hb d_Va_greatestOfTargets_64 (lv_at hl 5 rfl) ?_
          obtain ⟨r11, hc12, hf⟩ := ob1_inv hf
          refine xk_i (xrunV (C := R_Va) (As := [.int a1, .int x8_43, .int (a2 + r3), .int (a3 - r5)]) (rest := [.int x7_43]) ⟨hx, hb, hml, hown, hts⟩ (c_Va_throughTarget l dC dI ty ad ta H.size co_rows co_marks co_rowSets co_partners co_open co_count tr_kinds tr_lefts tr_rights tr_seconds tr_size gr_kinds gr_nodes gr_rowSets gr_firstStates gr_targetCounts gr_targets gr_stepScores gr_letterScores gr_size tx_letters tx_length va_scores va_knownEnds hi_begins hi_lengths hi_scores hi_taken hi_count de_states de_begins de_lengths de_length a1 x8_43 (a2 + r3) (a3 - r5) r11 hc12) z_Va_65 ⟨⟨rfl, rfl⟩, by decide, by decide⟩ hK hP hD hN hS hA (va_recv hK hP (ci := 5) (q0 := 22) rfl rfl) rfl hl.1 rfl (Nat.le_of_ble_eq_true rfl) d_Va_greatestOfTargets_66 ⟨Nat.zero_le _, Nat.zero_le _⟩) hS hD rfl hA (fun H locs hP hD hS => ?_)
          refine W.eq (g2 := F0 m 69 ls [.int r11, .int x7_43]) rfl ?_
          refine va_mmax hx hb (hml.trans hl.1.symm) hown (hts _ m_574) (hts _ m_74) (hts _ m_51) (hts _ m_75) (Nat.le_of_ble_eq_true rfl) (Nat.le_of_ble_eq_true rfl) (Nat.zero_le _) (Nat.zero_le _) d_Va_greatestOfTargets_69 ?_
          refine W.eq (g2 := F0 m 72 ls [.int (imax x7_43 r11)]) rfl ?_
          refine lv_istore (lv' := [(7, .int (imax x7_43 r11)), (0, .ref (ad 22)), (1, .int a1), (2, .int a2), (3, .int a3), (5, .int (a2 + r3)), (6, .int (a3 - r5)), (8, .int x8_43)]) hx hb d_Va_greatestOfTargets_72 hl (by decide) rfl (fun ls hl => ?_)
          refine lv_iinc (v := (x8_43 + (1 : Int32))) (lv' := [(8, .int (x8_43 + (1 : Int32))), (7, .int (imax x7_43 r11)), (0, .ref (ad 22)), (1, .int a1), (2, .int a2), (3, .int a3), (5, .int (a2 + r3)), (6, .int (a3 - r5))]) hx hb d_Va_greatestOfTargets_74 hl (k := 7) rfl rfl (by decide) rfl (fun ls hl => ?_)
          refine lv_goto (tgt := 43) hx hb d_Va_greatestOfTargets_77 (by decide) ?_
          exact ih43 (imax x7_43 r11) (x8_43 + (1 : Int32)) _ _ _ hP hD hS (lv_sub hl [2, 3, 4, 5, 6, 7, 1, 0] rfl) hf
    exact L43 1000 (-1000000 : Int32) (0 : Int32) _ _ _ hP hD hS (lv_sub hl [5, 6, 7, 8, 3, 2, 1, 0] rfl) hf
  · have hf := xif_f c7 hf
    refine lv_ldc (v := -1000000) hx hb hown (hts _ m_560) d_Va_greatestOfTargets_33 ?_
    obtain rfl := os1 hf
    exact hret H locs _ _ _ d_Va_greatestOfTargets_35 rfl hP hS
