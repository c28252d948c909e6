/-! pure functions and contracts of Gr_scoreOfLetters, Gr_scoreLetters, Gr_make, Va_forget, Gr_size, Fa_build, Gr_hasState, Gr_kindOf, Fa_kind, Gr_nodeOf (written by wip/gen) -/
def f_Gr_scoreOfLetters_J30 (co_rowSets : (Nat → Int32)) (tr_lefts : (Nat → Int32)) (tr_rights : (Nat → Int32)) (gr_kinds : (Nat → Int32)) (gr_nodes : (Nat → Int32)) (gr_rowSets : (Nat → Int32)) (a1 : Int32) (a2 : Int32) (a3 : Int32) (t0_30 : Int32) : Option (Int32) := gd (xin a1 43) (ob1 (f_Gr_rowsWithLetters co_rowSets tr_lefts tr_rights gr_kinds gr_nodes a1 a2 a3) (fun r7 => ob1 (f_Ig_bitCount ((gr_rowSets (Int32.toNatClampNeg a1)) &&& r7)) (fun r9 => gd (xin a1 43) (ob1 (f_Ig_bitCount (gr_rowSets (Int32.toNatClampNeg a1))) (fun r12 => ob1 (f_Fa_log (t0_30 * (r9 + (1 : Int32))) (r12 + t0_30)) (fun r14 => some (r14)))))))
def f_Gr_scoreOfLetters (co_rowSets : (Nat → Int32)) (tr_lefts : (Nat → Int32)) (tr_rights : (Nat → Int32)) (gr_kinds : (Nat → Int32)) (gr_nodes : (Nat → Int32)) (gr_rowSets : (Nat → Int32)) (a1 : Int32) (a2 : Int32) (a3 : Int32) : Option (Int32) := gd (xin a1 43) (ob1 (f_Fa_isInsert (gr_kinds (Int32.toNatClampNeg a1))) (fun r2 => if r2 = (0 : Int32) then (gd (xin a1 43) (if (gr_kinds (Int32.toNatClampNeg a1)) = (1 : Int32) then (f_Gr_scoreOfLetters_J30 co_rowSets tr_lefts tr_rights gr_kinds gr_nodes gr_rowSets a1 a2 a3 (16 : Int32)) else (f_Gr_scoreOfLetters_J30 co_rowSets tr_lefts tr_rights gr_kinds gr_nodes gr_rowSets a1 a2 a3 (4 : Int32)))) else (some ((0 : Int32)))))
set_option maxHeartbeats 4000000 in
set_option maxRecDepth 100000 in
theorem c_Gr_scoreOfLetters (l : Launch) (dC : Nat → ClassId) (dI : Nat → Nat → Nat) (ty : Nat → ClassId) (ad : Nat → Nat) (ta : Nat → Nat) (sz : Nat) (co_rows : Int32) (co_marks : (Nat → Int32)) (co_rowSets : (Nat → Int32)) (co_partners : (Nat → Int32)) (co_open : (Nat → Int32)) (co_count : Int32) (tr_kinds : (Nat → Int32)) (tr_lefts : (Nat → Int32)) (tr_rights : (Nat → Int32)) (tr_seconds : (Nat → Int32)) (tr_size : Int32) (gr_kinds : (Nat → Int32)) (gr_nodes : (Nat → Int32)) (gr_rowSets : (Nat → Int32)) (gr_firstStates : (Nat → Int32)) (gr_targetCounts : (Nat → Int32)) (gr_targets : (Nat → Int32)) (gr_stepScores : (Nat → Int32)) (gr_letterScores : (Nat → Int32)) (gr_size : Int32) (tx_letters : (Nat → Int32)) (tx_length : Int32) (va_scores : (Nat → Int32)) (va_knownEnds : Int32) (hi_begins : (Nat → Int32)) (hi_lengths : (Nat → Int32)) (hi_scores : (Nat → Int32)) (hi_taken : (Nat → Int32)) (hi_count : Int32) (de_states : (Nat → Int32)) (de_begins : (Nat → Int32)) (de_lengths : (Nat → Int32)) (de_length : Int32) (a1 : Int32) (a2 : Int32) (a3 : Int32) (r0 : Int32) (hf : f_Gr_scoreOfLetters co_rowSets tr_lefts tr_rights gr_kinds gr_nodes gr_rowSets a1 a2 a3 = some (r0)) : Met l y_Gr_scoreOfLetters (.code y_Gr_scoreOfLetters prog_4_method_20_code 6 (some .int) :: gw) rm_Gr_scoreOfLetters (xPre ta (dC, dI) classes (tys3 ty) (wX ty ad co_rows co_marks co_rowSets co_partners co_open co_count tr_kinds tr_lefts tr_rights tr_seconds tr_size gr_kinds gr_nodes gr_rowSets gr_firstStates gr_targetCounts gr_targets gr_stepScores gr_letterScores gr_size tx_letters tx_length va_scores va_knownEnds hi_begins hi_lengths hi_scores hi_taken hi_count de_states de_begins de_lengths de_length) sz [.ref (ad 11), .int a1, .int a2, .int a3]) (xQi (dC, dI) classes (wX ty ad co_rows co_marks co_rowSets co_partners co_open co_count tr_kinds tr_lefts tr_rights tr_seconds tr_size gr_kinds gr_nodes gr_rowSets gr_firstStates gr_targetCounts gr_targets gr_stepScores gr_letterScores gr_size tx_letters tx_length va_scores va_knownEnds hi_begins hi_lengths hi_scores hi_taken hi_count de_states de_begins de_lengths de_length) (wX ty ad co_rows co_marks co_rowSets co_partners co_open co_count tr_kinds tr_lefts tr_rights tr_seconds tr_size gr_kinds gr_nodes gr_rowSets gr_firstStates gr_targetCounts gr_targets gr_stepScores gr_letterScores gr_size tx_letters tx_length va_scores va_knownEnds hi_begins hi_lengths hi_scores hi_taken hi_count de_states de_begins de_lengths de_length) sz r0) 0 0 (va_A (wX ty ad co_rows co_marks co_rowSets co_partners co_open co_count tr_kinds tr_lefts tr_rights tr_seconds tr_size gr_kinds gr_nodes gr_rowSets gr_firstStates gr_targetCounts gr_targets gr_stepScores gr_letterScores gr_size tx_letters tx_length va_scores va_knownEnds hi_begins hi_lengths hi_scores hi_taken hi_count de_states de_begins de_lengths de_length) sz) := by
  refine xmet_i rfl (Nat.le_of_ble_eq_true rfl) ?_
  intro p e s m below meth c A ls Q hx hb hml hts hown hK hN hA hP hD hS hl hret
  replace hown : s.vm.findClass R_Gr = some m.cls := hown
  have hl : lv_has ls 6 [(0, .ref (ad 11)), (1, .int a1), (2, .int a2), (3, .int a3)] := hl
  rw [f_Gr_scoreOfLetters] at hf
  obtain ⟨H, eH⟩ : ∃ H : Heap, H = s.heap := ⟨_, rfl⟩
  obtain ⟨locs, eL⟩ : ∃ L : List Loc, L = [] := ⟨_, rfl⟩
  have hP : va_P (dC, dI) classes (wX ty ad co_rows co_marks co_rowSets co_partners co_open co_count tr_kinds tr_lefts tr_rights tr_seconds tr_size gr_kinds gr_nodes gr_rowSets gr_firstStates gr_targetCounts gr_targets gr_stepScores gr_letterScores gr_size tx_letters tx_length va_scores va_knownEnds hi_begins hi_lengths hi_scores hi_taken hi_count de_states de_begins de_lengths de_length) H := by rw [eH]; exact hP
  have hS : va_S A s.heap H locs := by rw [eH, eL]; exact hS
  rw [← eL]
  suffices hgoal : W p l e rm_Gr_scoreOfLetters s m (List.toArray [.ref (ad 11), .int a1, .int a2, .int a3]) below meth c H locs 0 0 Q (F0 m 0 ls []) by rw [eH] at hgoal; exact hgoal
  clear eH eL
  refine lv_aload_n hx hb d_Gr_scoreOfLetters_0 rfl (lv_at hl 0 rfl) ?_
  refine va_get (D := (dC, dI)) (ci := 3) (v := .ref (ad 12)) (C := R_Gr) (T := F_Gr) (N := 11) hx hb hts iw_Gr hown hK hP 11 rfl rfl 2 (by decide) (hts _ m_134) (fun _ h9 => h9) rfl d_Gr_scoreOfLetters_1 ?_
  refine lv_iload_n hx hb d_Gr_scoreOfLetters_4 rfl (lv_at hl 1 rfl) ?_
  obtain ⟨hi1, hf⟩ := gdi hf
  refine va_iald hx hb hK hP 12 0 rfl rfl hi1 d_Gr_scoreOfLetters_5 ?_
  obtain ⟨r2, hc3, hf⟩ := ob1_inv hf
  refine xk_i (xrunSN (As := [.int (gr_kinds (Int32.toNatClampNeg a1))]) (rest := []) ⟨hx, hb, hml, hown, hts⟩ (c_Fa_isInsert l dC dI ty ad ta H.size co_rows co_marks co_rowSets co_partners co_open co_count tr_kinds tr_lefts tr_rights tr_seconds tr_size gr_kinds gr_nodes gr_rowSets gr_firstStates gr_targetCounts gr_targets gr_stepScores gr_letterScores gr_size tx_letters tx_length va_scores va_knownEnds hi_begins hi_lengths hi_scores hi_taken hi_count de_states de_begins de_lengths de_length (gr_kinds (Int32.toNatClampNeg a1)) r2 hc3) z_Gr_107 ⟨⟨rfl, rfl⟩, by decide, by decide⟩ hK hP hD hN hS hA rfl hl.1 rfl (Nat.le_of_ble_eq_true rfl) d_Gr_scoreOfLetters_6 ⟨Nat.zero_le _, Nat.zero_le _⟩) hS hD rfl hA (fun H locs hP hD hS => ?_)
  refine W.eq (g2 := F0 m 9 ls [.int r2]) rfl ?_
  refine lv_if_eq (tgt := 14) hx hb d_Gr_scoreOfLetters_9 (by decide) (fun c4 => ?_) (fun c4 => ?_)
  · have hf := xif_t c4 hf
    refine lv_aload_n hx hb d_Gr_scoreOfLetters_14 rfl (lv_at hl 0 rfl) ?_
    refine va_get (D := (dC, dI)) (ci := 3) (v := .ref (ad 12)) (C := R_Gr) (T := F_Gr) (N := 11) hx hb hts iw_Gr hown hK hP 11 rfl rfl 2 (by decide) (hts _ m_134) (fun _ h9 => h9) rfl d_Gr_scoreOfLetters_15 ?_
    refine lv_iload_n hx hb d_Gr_scoreOfLetters_18 rfl (lv_at hl 1 rfl) ?_
    obtain ⟨hi5, hf⟩ := gdi hf
    refine va_iald hx hb hK hP 12 0 rfl rfl hi5 d_Gr_scoreOfLetters_19 ?_
    refine lv_iconst (v := 1) hx hb d_Gr_scoreOfLetters_20 (by decide) ?_
    have J30 : ∀ (t0_30 : Int32) (H : Heap) (locs : List Loc) (ls : Array Slot), va_P (dC, dI) classes (wX ty ad co_rows co_marks co_rowSets co_partners co_open co_count tr_kinds tr_lefts tr_rights tr_seconds tr_size gr_kinds gr_nodes gr_rowSets gr_firstStates gr_targetCounts gr_targets gr_stepScores gr_letterScores gr_size tx_letters tx_length va_scores va_knownEnds hi_begins hi_lengths hi_scores hi_taken hi_count de_states de_begins de_lengths de_length) H → va_D A (wX ty ad co_rows co_marks co_rowSets co_partners co_open co_count tr_kinds tr_lefts tr_rights tr_seconds tr_size gr_kinds gr_nodes gr_rowSets gr_firstStates gr_targetCounts gr_targets gr_stepScores gr_letterScores gr_size tx_letters tx_length va_scores va_knownEnds hi_begins hi_lengths hi_scores hi_taken hi_count de_states de_begins de_lengths de_length) → va_S A s.heap H locs → lv_has ls 6 [(0, .ref (ad 11)), (1, .int a1), (2, .int a2), (3, .int a3)] → f_Gr_scoreOfLetters_J30 co_rowSets tr_lefts tr_rights gr_kinds gr_nodes gr_rowSets a1 a2 a3 t0_30 = some (r0) → W p l e rm_Gr_scoreOfLetters s m (List.toArray [.ref (ad 11), .int a1, .int a2, .int a3]) below meth c H locs 0 0 Q (F0 m 30 ls [.int t0_30]) := by
      intro t0_30 H locs ls hP hD hS hl hf
      rw [f_Gr_scoreOfLetters_J30] at hf
      refine lv_istore (lv' := [(4, .int t0_30), (0, .ref (ad 11)), (1, .int a1), (2, .int a2), (3, .int a3)]) hx hb d_Gr_scoreOfLetters_30 hl (by decide) rfl (fun ls hl => ?_)
      refine lv_aload_n hx hb d_Gr_scoreOfLetters_32 rfl (lv_at hl 1 rfl) ?_
      refine va_get (D := (dC, dI)) (ci := 3) (v := .ref (ad 14)) (C := R_Gr) (T := F_Gr) (N := 11) hx hb hts iw_Gr hown hK hP 11 rfl rfl 4 (by decide) (hts _ m_136) (fun _ h9 => h9) rfl d_Gr_scoreOfLetters_33 ?_
      refine lv_iload_n hx hb d_Gr_scoreOfLetters_36 rfl (lv_at hl 2 rfl) ?_
      obtain ⟨hi6, hf⟩ := gdi hf
      refine va_iald hx hb hK hP 14 0 rfl rfl hi6 d_Gr_scoreOfLetters_37 ?_
      refine lv_aload_n hx hb d_Gr_scoreOfLetters_38 rfl (lv_at hl 1 rfl) ?_
      refine lv_iload_n hx hb d_Gr_scoreOfLetters_39 rfl (lv_at hl 2 rfl) ?_
      refine lv_iload_n hx hb d_Gr_scoreOfLetters_40 rfl (lv_at hl 3 rfl) ?_
      refine lv_iload_n hx hb d_Gr_scoreOfLetters_41 rfl (lv_at hl 4 rfl) ?_
      obtain ⟨r7, hc8, hf⟩ := ob1_inv hf
      refine xk_i (xrunV (C := R_Gr) (As := [.int a1, .int a2, .int a3]) (rest := [.int (gr_rowSets (Int32.toNatClampNeg a1))]) ⟨hx, hb, hml, hown, hts⟩ (c_Gr_rowsWithLetters l dC dI ty ad ta H.size co_rows co_marks co_rowSets co_partners co_open co_count tr_kinds tr_lefts tr_rights tr_seconds tr_size gr_kinds gr_nodes gr_rowSets gr_firstStates gr_targetCounts gr_targets gr_stepScores gr_letterScores gr_size tx_letters tx_length va_scores va_knownEnds hi_begins hi_lengths hi_scores hi_taken hi_count de_states de_begins de_lengths de_length a1 a2 a3 r7 hc8) z_Gr_128 ⟨⟨rfl, rfl⟩, by decide, by decide⟩ hK hP hD hN hS hA (va_recv hK hP (ci := 3) (q0 := 11) rfl rfl) rfl hl.1 rfl (Nat.le_of_ble_eq_true rfl) d_Gr_scoreOfLetters_42 ⟨Nat.zero_le _, Nat.zero_le _⟩) hS hD rfl hA (fun H locs hP hD hS => ?_)
      refine W.eq (g2 := F0 m 45 ls [.int r7, .int (gr_rowSets (Int32.toNatClampNeg a1))]) rfl ?_
      refine lv_iand hx hb d_Gr_scoreOfLetters_45 ?_
      obtain ⟨r9, hc10, hf⟩ := ob1_inv hf
      refine xk_i (xrunS (As := [.int ((gr_rowSets (Int32.toNatClampNeg a1)) &&& r7)]) (rest := []) ⟨hx, hb, hml, hown, hts⟩ (c_Ig_bitCount l dC dI ty ad ta H.size co_rows co_marks co_rowSets co_partners co_open co_count tr_kinds tr_lefts tr_rights tr_seconds tr_size gr_kinds gr_nodes gr_rowSets gr_firstStates gr_targetCounts gr_targets gr_stepScores gr_letterScores gr_size tx_letters tx_length va_scores va_knownEnds hi_begins hi_lengths hi_scores hi_taken hi_count de_states de_begins de_lengths de_length ((gr_rowSets (Int32.toNatClampNeg a1)) &&& r7) r9 hc10) z_Gr_110 ⟨⟨rfl, rfl⟩, by decide, by decide⟩ hK hP hD hN hS hA rfl hl.1 rfl (Nat.le_of_ble_eq_true rfl) d_Gr_scoreOfLetters_46 ⟨Nat.zero_le _, Nat.zero_le _⟩) hS hD rfl hA (fun H locs hP hD hS => ?_)
      refine W.eq (g2 := F0 m 49 ls [.int r9]) rfl ?_
      refine lv_istore (lv' := [(5, .int r9), (4, .int t0_30), (0, .ref (ad 11)), (1, .int a1), (2, .int a2), (3, .int a3)]) hx hb d_Gr_scoreOfLetters_49 hl (by decide) rfl (fun ls hl => ?_)
      refine lv_iload hx hb d_Gr_scoreOfLetters_51 (lv_at hl 1 rfl) ?_
      refine lv_iload hx hb d_Gr_scoreOfLetters_53 (lv_at hl 0 rfl) ?_
      refine lv_iconst (v := 1) hx hb d_Gr_scoreOfLetters_55 (by decide) ?_
      refine lv_iadd hx hb d_Gr_scoreOfLetters_56 ?_
      refine lv_imul hx hb d_Gr_scoreOfLetters_57 ?_
      refine lv_aload_n hx hb d_Gr_scoreOfLetters_58 rfl (lv_at hl 2 rfl) ?_
      refine va_get (D := (dC, dI)) (ci := 3) (v := .ref (ad 14)) (C := R_Gr) (T := F_Gr) (N := 11) hx hb hts iw_Gr hown hK hP 11 rfl rfl 4 (by decide) (hts _ m_136) (fun _ h9 => h9) rfl d_Gr_scoreOfLetters_59 ?_
      refine lv_iload_n hx hb d_Gr_scoreOfLetters_62 rfl (lv_at hl 3 rfl) ?_
      obtain ⟨hi11, hf⟩ := gdi hf
      refine va_iald hx hb hK hP 14 0 rfl rfl hi11 d_Gr_scoreOfLetters_63 ?_
      obtain ⟨r12, hc13, hf⟩ := ob1_inv hf
      refine xk_i (xrunS (As := [.int (gr_rowSets (Int32.toNatClampNeg a1))]) (rest := [.int (t0_30 * (r9 + (1 : Int32)))]) ⟨hx, hb, hml, hown, hts⟩ (c_Ig_bitCount l dC dI ty ad ta H.size co_rows co_marks co_rowSets co_partners co_open co_count tr_kinds tr_lefts tr_rights tr_seconds tr_size gr_kinds gr_nodes gr_rowSets gr_firstStates gr_targetCounts gr_targets gr_stepScores gr_letterScores gr_size tx_letters tx_length va_scores va_knownEnds hi_begins hi_lengths hi_scores hi_taken hi_count de_states de_begins de_lengths de_length (gr_rowSets (Int32.toNatClampNeg a1)) r12 hc13) z_Gr_110 ⟨⟨rfl, rfl⟩, by decide, by decide⟩ hK hP hD hN hS hA rfl hl.1 rfl (Nat.le_of_ble_eq_true rfl) d_Gr_scoreOfLetters_64 ⟨Nat.zero_le _, Nat.zero_le _⟩) hS hD rfl hA (fun H locs hP hD hS => ?_)
      refine W.eq (g2 := F0 m 67 ls [.int r12, .int (t0_30 * (r9 + (1 : Int32)))]) rfl ?_
      refine lv_iload hx hb d_Gr_scoreOfLetters_67 (lv_at hl 1 rfl) ?_
      refine lv_iadd hx hb d_Gr_scoreOfLetters_69 ?_
      obtain ⟨r14, hc15, hf⟩ := ob1_inv hf
      refine xk_i (xrunSN (As := [.int (t0_30 * (r9 + (1 : Int32))), .int (r12 + t0_30)]) (rest := []) ⟨hx, hb, hml, hown, hts⟩ (c_Fa_log l dC dI ty ad ta H.size co_rows co_marks co_rowSets co_partners co_open co_count tr_kinds tr_lefts tr_rights tr_seconds tr_size gr_kinds gr_nodes gr_rowSets gr_firstStates gr_targetCounts gr_targets gr_stepScores gr_letterScores gr_size tx_letters tx_length va_scores va_knownEnds hi_begins hi_lengths hi_scores hi_taken hi_count de_states de_begins de_lengths de_length (t0_30 * (r9 + (1 : Int32))) (r12 + t0_30) r14 hc15) z_Gr_118 ⟨⟨rfl, rfl⟩, by decide, by decide⟩ hK hP hD hN hS hA rfl hl.1 rfl (Nat.le_of_ble_eq_true rfl) d_Gr_scoreOfLetters_70 ⟨Nat.zero_le _, Nat.zero_le _⟩) hS hD rfl hA (fun H locs hP hD hS => ?_)
      refine W.eq (g2 := F0 m 73 ls [.int r14]) rfl ?_
      obtain rfl := os1 hf
      exact hret H locs _ _ _ d_Gr_scoreOfLetters_73 rfl hP hS
    refine lv_icmp_ne (tgt := 29) hx hb d_Gr_scoreOfLetters_21 (by decide) (fun c16 => ?_) (fun c16 => ?_)
    · have hf := xif_f c16 hf
      refine lv_iconst (v := 4) hx hb d_Gr_scoreOfLetters_29 (by decide) ?_
      exact J30 (4 : Int32) _ _ _ hP hD hS (lv_sub hl [0, 1, 2, 3] rfl) hf
    · have hf := xif_t c16 hf
      refine lv_bipush (v := 16) hx hb d_Gr_scoreOfLetters_24 (by decide) ?_
      refine lv_goto (tgt := 30) hx hb d_Gr_scoreOfLetters_26 (by decide) ?_
      exact J30 (16 : Int32) _ _ _ hP hD hS (lv_sub hl [0, 1, 2, 3] rfl) hf
  · have hf := xif_f c4 hf
    refine lv_iconst (v := 0) hx hb d_Gr_scoreOfLetters_12 (by decide) ?_
    obtain rfl := os1 hf
    exact hret H locs _ _ _ d_Gr_scoreOfLetters_13 rfl hP hS
def f_Gr_scoreLetters_K39_75 (x3_31 : Int32) (rec31 : (Int32 → (Nat → Int32) → Option ((Nat → Int32)))) (x4_39 : Int32) (gr_letterScores_39 : (Nat → Int32)) : Option ((Nat → Int32)) := rec31 (x3_31 + (1 : Int32)) gr_letterScores_39
def f_Gr_scoreLetters_L39 (co_rowSets : (Nat → Int32)) (tr_lefts : (Nat → Int32)) (tr_rights : (Nat → Int32)) (gr_kinds : (Nat → Int32)) (gr_nodes : (Nat → Int32)) (gr_rowSets : (Nat → Int32)) (a1 : Int32) (t0_28 : Int32) (x3_31 : Int32) (k39_75 : (Int32 → (Nat → Int32) → Option ((Nat → Int32)))) : Nat → Int32 → (Nat → Int32) → Option ((Nat → Int32))
  | 0, _, _ => none
  | n39 + 1, x4_39, gr_letterScores_39 => if t0_28 < x4_39 then (k39_75 x4_39 gr_letterScores_39) else (ob1 (f_Gr_scoreOfLetters co_rowSets tr_lefts tr_rights gr_kinds gr_nodes gr_rowSets a1 x3_31 x4_39) (fun r8 => gd (xin (((a1 * (16 : Int32)) + (x3_31 * (4 : Int32))) + x4_39) 688) ((f_Gr_scoreLetters_L39 co_rowSets tr_lefts tr_rights gr_kinds gr_nodes gr_rowSets a1 t0_28 x3_31 k39_75 n39) (x4_39 + (1 : Int32)) (upd gr_letterScores_39 (Int32.toNatClampNeg (((a1 * (16 : Int32)) + (x3_31 * (4 : Int32))) + x4_39)) r8))))
def f_Gr_scoreLetters_K31_81  (x3_31 : Int32) (gr_letterScores_31 : (Nat → Int32)) : Option ((Nat → Int32)) := some (gr_letterScores_31)
def f_Gr_scoreLetters_L31 (co_rowSets : (Nat → Int32)) (tr_lefts : (Nat → Int32)) (tr_rights : (Nat → Int32)) (gr_kinds : (Nat → Int32)) (gr_nodes : (Nat → Int32)) (gr_rowSets : (Nat → Int32)) (a1 : Int32) (t0_28 : Int32) (k31_81 : (Int32 → (Nat → Int32) → Option ((Nat → Int32)))) : Nat → Int32 → (Nat → Int32) → Option ((Nat → Int32))
  | 0, _, _ => none
  | n31 + 1, x3_31, gr_letterScores_31 => if (4 : Int32) ≤ x3_31 then (k31_81 x3_31 gr_letterScores_31) else (f_Gr_scoreLetters_L39 co_rowSets tr_lefts tr_rights gr_kinds gr_nodes gr_rowSets a1 t0_28 x3_31 (f_Gr_scoreLetters_K39_75 x3_31 (f_Gr_scoreLetters_L31 co_rowSets tr_lefts tr_rights gr_kinds gr_nodes gr_rowSets a1 t0_28 k31_81 n31)) 1000 (0 : Int32) gr_letterScores_31)
def f_Gr_scoreLetters_J28 (co_rowSets : (Nat → Int32)) (tr_lefts : (Nat → Int32)) (tr_rights : (Nat → Int32)) (gr_kinds : (Nat → Int32)) (gr_nodes : (Nat → Int32)) (gr_rowSets : (Nat → Int32)) (gr_letterScores : (Nat → Int32)) (a1 : Int32) (t0_28 : Int32) : Option ((Nat → Int32)) := f_Gr_scoreLetters_L31 co_rowSets tr_lefts tr_rights gr_kinds gr_nodes gr_rowSets a1 t0_28 (f_Gr_scoreLetters_K31_81) 1000 (0 : Int32) gr_letterScores
def f_Gr_scoreLetters (co_rowSets : (Nat → Int32)) (tr_lefts : (Nat → Int32)) (tr_rights : (Nat → Int32)) (gr_kinds : (Nat → Int32)) (gr_nodes : (Nat → Int32)) (gr_rowSets : (Nat → Int32)) (gr_letterScores : (Nat → Int32)) (a1 : Int32) : Option ((Nat → Int32)) := gd (xin a1 43) (ob1 (f_Fa_lettersOf (gr_kinds (Int32.toNatClampNeg a1))) (fun r2 => if r2 = (0 : Int32) then (some (gr_letterScores)) else (gd (xin a1 43) (if (gr_kinds (Int32.toNatClampNeg a1)) = (1 : Int32) then (f_Gr_scoreLetters_J28 co_rowSets tr_lefts tr_rights gr_kinds gr_nodes gr_rowSets gr_letterScores a1 (3 : Int32)) else (f_Gr_scoreLetters_J28 co_rowSets tr_lefts tr_rights gr_kinds gr_nodes gr_rowSets gr_letterScores a1 (0 : Int32))))))
set_option maxHeartbeats 4000000 in
set_option maxRecDepth 100000 in
theorem c_Gr_scoreLetters (l : Launch) (dC : Nat → ClassId) (dI : Nat → Nat → Nat) (ty : Nat → ClassId) (ad : Nat → Nat) (ta : Nat → Nat) (sz : Nat) (co_rows : Int32) (co_marks : (Nat → Int32)) (co_rowSets : (Nat → Int32)) (co_partners : (Nat → Int32)) (co_open : (Nat → Int32)) (co_count : Int32) (tr_kinds : (Nat → Int32)) (tr_lefts : (Nat → Int32)) (tr_rights : (Nat → Int32)) (tr_seconds : (Nat → Int32)) (tr_size : Int32) (gr_kinds : (Nat → Int32)) (gr_nodes : (Nat → Int32)) (gr_rowSets : (Nat → Int32)) (gr_firstStates : (Nat → Int32)) (gr_targetCounts : (Nat → Int32)) (gr_targets : (Nat → Int32)) (gr_stepScores : (Nat → Int32)) (gr_letterScores : (Nat → Int32)) (gr_size : Int32) (tx_letters : (Nat → Int32)) (tx_length : Int32) (va_scores : (Nat → Int32)) (va_knownEnds : Int32) (hi_begins : (Nat → Int32)) (hi_lengths : (Nat → Int32)) (hi_scores : (Nat → Int32)) (hi_taken : (Nat → Int32)) (hi_count : Int32) (de_states : (Nat → Int32)) (de_begins : (Nat → Int32)) (de_lengths : (Nat → Int32)) (de_length : Int32) (a1 : Int32) (n_gr_letterScores : (Nat → Int32)) (hf : f_Gr_scoreLetters co_rowSets tr_lefts tr_rights gr_kinds gr_nodes gr_rowSets gr_letterScores a1 = some (n_gr_letterScores)) : Met l y_Gr_scoreLetters (.code y_Gr_scoreLetters prog_4_method_19_code 5 none :: gw) rm_Gr_scoreLetters (xPre ta (dC, dI) classes (tys3 ty) (wX ty ad co_rows co_marks co_rowSets co_partners co_open co_count tr_kinds tr_lefts tr_rights tr_seconds tr_size gr_kinds gr_nodes gr_rowSets gr_firstStates gr_targetCounts gr_targets gr_stepScores gr_letterScores gr_size tx_letters tx_length va_scores va_knownEnds hi_begins hi_lengths hi_scores hi_taken hi_count de_states de_begins de_lengths de_length) sz [.ref (ad 11), .int a1]) (xQv (dC, dI) classes (wX ty ad co_rows co_marks co_rowSets co_partners co_open co_count tr_kinds tr_lefts tr_rights tr_seconds tr_size gr_kinds gr_nodes gr_rowSets gr_firstStates gr_targetCounts gr_targets gr_stepScores gr_letterScores gr_size tx_letters tx_length va_scores va_knownEnds hi_begins hi_lengths hi_scores hi_taken hi_count de_states de_begins de_lengths de_length) (wX ty ad co_rows co_marks co_rowSets co_partners co_open co_count tr_kinds tr_lefts tr_rights tr_seconds tr_size gr_kinds gr_nodes gr_rowSets gr_firstStates gr_targetCounts gr_targets gr_stepScores n_gr_letterScores gr_size tx_letters tx_length va_scores va_knownEnds hi_begins hi_lengths hi_scores hi_taken hi_count de_states de_begins de_lengths de_length) sz) 0 0 (va_A (wX ty ad co_rows co_marks co_rowSets co_partners co_open co_count tr_kinds tr_lefts tr_rights tr_seconds tr_size gr_kinds gr_nodes gr_rowSets gr_firstStates gr_targetCounts gr_targets gr_stepScores gr_letterScores gr_size tx_letters tx_length va_scores va_knownEnds hi_begins hi_lengths hi_scores hi_taken hi_count de_states de_begins de_lengths de_length) sz) := by
  refine xmet_v rfl (Nat.le_of_ble_eq_true rfl) ?_
  intro p e s m below meth c A ls Q hx hb hml hts hown hK hN hA hP hD hS hl hret
  replace hown : s.vm.findClass R_Gr = some m.cls := hown
  have hl : lv_has ls 5 [(0, .ref (ad 11)), (1, .int a1)] := hl
  rw [f_Gr_scoreLetters] at hf
  obtain ⟨H, eH⟩ : ∃ H : Heap, H = s.heap := ⟨_, rfl⟩
  obtain ⟨locs, eL⟩ : ∃ L : List Loc, L = [] := ⟨_, rfl⟩
  have hP : va_P (dC, dI) classes (wX ty ad co_rows co_marks co_rowSets co_partners co_open co_count tr_kinds tr_lefts tr_rights tr_seconds tr_size gr_kinds gr_nodes gr_rowSets gr_firstStates gr_targetCounts gr_targets gr_stepScores gr_letterScores gr_size tx_letters tx_length va_scores va_knownEnds hi_begins hi_lengths hi_scores hi_taken hi_count de_states de_begins de_lengths de_length) H := by rw [eH]; exact hP
  have hS : va_S A s.heap H locs := by rw [eH, eL]; exact hS
  rw [← eL]
  suffices hgoal : W p l e rm_Gr_scoreLetters s m (List.toArray [.ref (ad 11), .int a1]) below meth c H locs 0 0 Q (F0 m 0 ls []) by rw [eH] at hgoal; exact hgoal
  clear eH eL
  refine lv_aload_n hx hb d_Gr_scoreLetters_0 rfl (lv_at hl 0 rfl) ?_
  refine va_get (D := (dC, dI)) (ci := 3) (v := .ref (ad 12)) (C := R_Gr) (T := F_Gr) (N := 11) hx hb hts iw_Gr hown hK hP 11 rfl rfl 2 (by decide) (hts _ m_134) (fun _ h9 => h9) rfl d_Gr_scoreLetters_1 ?_
  refine lv_iload_n hx hb d_Gr_scoreLetters_4 rfl (lv_at hl 1 rfl) ?_
  obtain ⟨hi1, hf⟩ := gdi hf
  refine va_iald hx hb hK hP 12 0 rfl rfl hi1 d_Gr_scoreLetters_5 ?_
  obtain ⟨r2, hc3, hf⟩ := ob1_inv hf
  refine xk_i (xrunSN (As := [.int (gr_kinds (Int32.toNatClampNeg a1))]) (rest := []) ⟨hx, hb, hml, hown, hts⟩ (c_Fa_lettersOf l dC dI ty ad ta H.size co_rows co_marks co_rowSets co_partners co_open co_count tr_kinds tr_lefts tr_rights tr_seconds tr_size gr_kinds gr_nodes gr_rowSets gr_firstStates gr_targetCounts gr_targets gr_stepScores gr_letterScores gr_size tx_letters tx_length va_scores va_knownEnds hi_begins hi_lengths hi_scores hi_taken hi_count de_states de_begins de_lengths de_length (gr_kinds (Int32.toNatClampNeg a1)) r2 hc3) z_Gr_121 ⟨⟨rfl, rfl⟩, by decide, by decide⟩ hK hP hD hN hS hA rfl hl.1 rfl (Nat.le_of_ble_eq_true rfl) d_Gr_scoreLetters_6 ⟨Nat.zero_le _, Nat.zero_le _⟩) hS hD rfl hA (fun H locs hP hD hS => ?_)
  refine W.eq (g2 := F0 m 9 ls [.int r2]) rfl ?_
  refine lv_if_ne (tgt := 13) hx hb d_Gr_scoreLetters_9 (by decide) (fun c4 => ?_) (fun c4 => ?_)
  · have hf := xif_f c4 hf
    refine lv_aload_n hx hb d_Gr_scoreLetters_13 rfl (lv_at hl 0 rfl) ?_
    refine va_get (D := (dC, dI)) (ci := 3) (v := .ref (ad 12)) (C := R_Gr) (T := F_Gr) (N := 11) hx hb hts iw_Gr hown hK hP 11 rfl rfl 2 (by decide) (hts _ m_134) (fun _ h9 => h9) rfl d_Gr_scoreLetters_14 ?_
    refine lv_iload_n hx hb d_Gr_scoreLetters_17 rfl (lv_at hl 1 rfl) ?_
    obtain ⟨hi5, hf⟩ := gdi hf
    refine va_iald hx hb hK hP 12 0 rfl rfl hi5 d_Gr_scoreLetters_18 ?_
    refine lv_iconst (v := 1) hx hb d_Gr_scoreLetters_19 (by decide) ?_
    have J28 : ∀ (t0_28 : Int32) (H : Heap) (locs : List Loc) (ls : Array Slot), va_P (dC, dI) classes (wX ty ad co_rows co_marks co_rowSets co_partners co_open co_count tr_kinds tr_lefts tr_rights tr_seconds tr_size gr_kinds gr_nodes gr_rowSets gr_firstStates gr_targetCounts gr_targets gr_stepScores gr_letterScores gr_size tx_letters tx_length va_scores va_knownEnds hi_begins hi_lengths hi_scores hi_taken hi_count de_states de_begins de_lengths de_length) H → va_D A (wX ty ad co_rows co_marks co_rowSets co_partners co_open co_count tr_kinds tr_lefts tr_rights tr_seconds tr_size gr_kinds gr_nodes gr_rowSets gr_firstStates gr_targetCounts gr_targets gr_stepScores gr_letterScores gr_size tx_letters tx_length va_scores va_knownEnds hi_begins hi_lengths hi_scores hi_taken hi_count de_states de_begins de_lengths de_length) → va_S A s.heap H locs → lv_has ls 5 [(0, .ref (ad 11)), (1, .int a1)] → f_Gr_scoreLetters_J28 co_rowSets tr_lefts tr_rights gr_kinds gr_nodes gr_rowSets gr_letterScores a1 t0_28 = some (n_gr_letterScores) → W p l e rm_Gr_scoreLetters s m (List.toArray [.ref (ad 11), .int a1]) below meth c H locs 0 0 Q (F0 m 28 ls [.int t0_28]) := by
      intro t0_28 H locs ls hP hD hS hl hf
      rw [f_Gr_scoreLetters_J28] at hf
      refine lv_istore_n (lv' := [(2, .int t0_28), (0, .ref (ad 11)), (1, .int a1)]) hx hb d_Gr_scoreLetters_28 rfl hl (by decide) rfl (fun ls hl => ?_)
      refine lv_iconst (v := 0) hx hb d_Gr_scoreLetters_29 (by decide) ?_
      refine lv_istore_n (lv' := [(3, .int (0 : Int32)), (2, .int t0_28), (0, .ref (ad 11)), (1, .int a1)]) hx hb d_Gr_scoreLetters_30 rfl hl (by decide) rfl (fun ls hl => ?_)
      have K31_81 : ∀ (x3_31 : Int32) (gr_letterScores_31 : (Nat → Int32)) (H : Heap) (locs : List Loc) (ls : Array Slot), va_P (dC, dI) classes (wX ty ad co_rows co_marks co_rowSets co_partners co_open co_count tr_kinds tr_lefts tr_rights tr_seconds tr_size gr_kinds gr_nodes gr_rowSets gr_firstStates gr_targetCounts gr_targets gr_stepScores gr_letterScores_31 gr_size tx_letters tx_length va_scores va_knownEnds hi_begins hi_lengths hi_scores hi_taken hi_count de_states de_begins de_lengths de_length) H → va_D A (wX ty ad co_rows co_marks co_rowSets co_partners co_open co_count tr_kinds tr_lefts tr_rights tr_seconds tr_size gr_kinds gr_nodes gr_rowSets gr_firstStates gr_targetCounts gr_targets gr_stepScores gr_letterScores_31 gr_size tx_letters tx_length va_scores va_knownEnds hi_begins hi_lengths hi_scores hi_taken hi_count de_states de_begins de_lengths de_length) → va_S A s.heap H locs → lv_has ls 5 [] → f_Gr_scoreLetters_K31_81 x3_31 gr_letterScores_31 = some (n_gr_letterScores) → W p l e rm_Gr_scoreLetters s m (List.toArray [.ref (ad 11), .int a1]) below meth c H locs 0 0 Q (F0 m 81 ls []) := by
        intro x3_31 gr_letterScores_31 H locs ls hP hD hS hl hf
        rw [f_Gr_scoreLetters_K31_81] at hf
        obtain rfl := os1 hf
        exact hret H locs _ _ d_Gr_scoreLetters_81 hP hS
      have L31 : ∀ (n31 : Nat), ∀ (x3_31 : Int32) (gr_letterScores_31 : (Nat → Int32)) (H : Heap) (locs : List Loc) (ls : Array Slot), va_P (dC, dI) classes (wX ty ad co_rows co_marks co_rowSets co_partners co_open co_count tr_kinds tr_lefts tr_rights tr_seconds tr_size gr_kinds gr_nodes gr_rowSets gr_firstStates gr_targetCounts gr_targets gr_stepScores gr_letterScores_31 gr_size tx_letters tx_length va_scores va_knownEnds hi_begins hi_lengths hi_scores hi_taken hi_count de_states de_begins de_lengths de_length) H → va_D A (wX ty ad co_rows co_marks co_rowSets co_partners co_open co_count tr_kinds tr_lefts tr_rights tr_seconds tr_size gr_kinds gr_nodes gr_rowSets gr_firstStates gr_targetCounts gr_targets gr_stepScores gr_letterScores_31 gr_size tx_letters tx_length va_scores va_knownEnds hi_begins hi_lengths hi_scores hi_taken hi_count de_states de_begins de_lengths de_length) → va_S A s.heap H locs → lv_has ls 5 [(0, .ref (ad 11)), (1, .int a1), (2, .int t0_28), (3, .int x3_31)] → f_Gr_scoreLetters_L31 co_rowSets tr_lefts tr_rights gr_kinds gr_nodes gr_rowSets a1 t0_28 (f_Gr_scoreLetters_K31_81) n31 x3_31 gr_letterScores_31 = some (n_gr_letterScores) → W p l e rm_Gr_scoreLetters s m (List.toArray [.ref (ad 11), .int a1]) below meth c H locs 0 0 Q (F0 m 31 ls []) := by
        intro n31
        induction n31 with
        | zero =>
          intro x3_31 gr_letterScores_31 H locs ls hP hD hS hl hf
          rw [f_Gr_scoreLetters_L31] at hf
          cases hf
        | succ n31 ih31 =>
          intro x3_31 gr_letterScores_31 H locs ls hP hD hS hl hf
          rw [f_Gr_scoreLetters_L31] at hf
          refine lv_iload_n hx hb d_Gr_scoreLetters_31 rfl (lv_at hl 3 rfl) ?_
          refine lv_iconst (v := 4) hx hb d_Gr_scoreLetters_32 (by decide) ?_
          refine lv_icmp_ge (tgt := 81) hx hb d_Gr_scoreLetters_33 (by decide) (fun c6 => ?_) (fun c6 => ?_)
          · have hf := xif_t c6 hf
            exact K31_81 x3_31 gr_letterScores_31 _ _ _ hP hD hS (lv_sub hl [] rfl) hf
          · have hf := xif_f c6 hf
            refine lv_iconst (v := 0) hx hb d_Gr_scoreLetters_36 (by decide) ?_
            refine lv_istore (lv' := [(4, .int (0 : Int32)), (0, .ref (ad 11)), (1, .int a1), (2, .int t0_28), (3, .int x3_31)]) hx hb d_Gr_scoreLetters_37 hl (by decide) rfl (fun ls hl => ?_)
            have K39_75 : ∀ (x4_39 : Int32) (gr_letterScores_39 : (Nat → Int32)) (H : Heap) (locs : List Loc) (ls : Array Slot), va_P (dC, dI) classes (wX ty ad co_rows co_marks co_rowSets co_partners co_open co_count tr_kinds tr_lefts tr_rights tr_seconds tr_size gr_kinds gr_nodes gr_rowSets gr_firstStates gr_targetCounts gr_targets gr_stepScores gr_letterScores_39 gr_size tx_letters tx_length va_scores va_knownEnds hi_begins hi_lengths hi_scores hi_taken hi_count de_states de_begins de_lengths de_length) H → va_D A (wX ty ad co_rows co_marks co_rowSets co_partners co_open co_count tr_kinds tr_lefts tr_rights tr_seconds tr_size gr_kinds gr_nodes gr_rowSets gr_firstStates gr_targetCounts gr_targets gr_stepScores gr_letterScores_39 gr_size tx_letters tx_length va_scores va_knownEnds hi_begins hi_lengths hi_scores hi_taken hi_count de_states de_begins de_lengths de_length) → va_S A s.heap H locs → lv_has ls 5 [(0, .ref (ad 11)), (1, .int a1), (2, .int t0_28), (3, .int x3_31)] → f_Gr_scoreLetters_K39_75 x3_31 (f_Gr_scoreLetters_L31 co_rowSets tr_lefts tr_rights gr_kinds gr_nodes gr_rowSets a1 t0_28 (f_Gr_scoreLetters_K31_81) n31) x4_39 gr_letterScores_39 = some (n_gr_letterScores) → W p l e rm_Gr_scoreLetters s m (List.toArray [.ref (ad 11), .int a1]) below meth c H locs 0 0 Q (F0 m 75 ls []) := by
              intro x4_39 gr_letterScores_39 H locs ls hP hD hS hl hf
              rw [f_Gr_scoreLetters_K39_75] at hf
              refine lv_iinc (v := (x3_31 + (1 : Int32))) (lv' := [(3, .int (x3_31 + (1 : Int32))), (0, .ref (ad 11)), (1, .int a1), (2, .int t0_28)]) hx hb d_Gr_scoreLetters_75 hl (k := 3) rfl rfl (by decide) rfl (fun ls hl => ?_)
              refine lv_goto (tgt := 31) hx hb d_Gr_scoreLetters_78 (by decide) ?_
              exact ih31 (x3_31 + (1 : Int32)) gr_letterScores_39 _ _ _ hP hD hS (lv_sub hl [1, 2, 3, 0] rfl) hf
            have L39 : ∀ (n39 : Nat), ∀ (x4_39 : Int32) (gr_letterScores_39 : (Nat → Int32)) (H : Heap) (locs : List Loc) (ls : Array Slot), va_P (dC, dI) classes (wX ty ad co_rows co_marks co_rowSets co_partners co_open co_count tr_kinds tr_lefts tr_rights tr_seconds tr_size gr_kinds gr_nodes gr_rowSets gr_firstStates gr_targetCounts gr_targets gr_stepScores gr_letterScores_39 gr_size tx_letters tx_length va_scores va_knownEnds hi_begins hi_lengths hi_scores hi_taken hi_count de_states de_begins de_lengths de_length) H → va_D A (wX ty ad co_rows co_marks co_rowSets co_partners co_open co_count tr_kinds tr_lefts tr_rights tr_seconds tr_size gr_kinds gr_nodes gr_rowSets gr_firstStates gr_targetCounts gr_targets gr_stepScores gr_letterScores_39 gr_size tx_letters tx_length va_scores va_knownEnds hi_begins hi_lengths hi_scores hi_taken hi_count de_states de_begins de_lengths de_length) → va_S A s.heap H locs → lv_has ls 5 [(0, .ref (ad 11)), (1, .int a1), (2, .int t0_28), (3, .int x3_31), (4, .int x4_39)] → f_Gr_scoreLetters_L39 co_rowSets tr_lefts tr_rights gr_kinds gr_nodes gr_rowSets a1 t0_28 x3_31 (f_Gr_scoreLetters_K39_75 x3_31 (f_Gr_scoreLetters_L31 co_rowSets tr_lefts tr_rights gr_kinds gr_nodes gr_rowSets a1 t0_28 (f_Gr_scoreLetters_K31_81) n31)) n39 x4_39 gr_letterScores_39 = some (n_gr_letterScores) → W p l e rm_Gr_scoreLetters s m (List.toArray [.ref (ad 11), .int a1]) below meth c H locs 0 0 Q (F0 m 39 ls []) := by
              intro n39
              induction n39 with
              | zero =>
                intro x4_39 gr_letterScores_39 H locs ls hP hD hS hl hf
                rw [f_Gr_scoreLetters_L39] at hf
                cases hf
              | succ n39 ih39 =>
                intro x4_39 gr_letterScores_39 H locs ls hP hD hS hl hf
                rw [f_Gr_scoreLetters_L39] at hf
                refine lv_iload hx hb d_Gr_scoreLetters_39 (lv_at hl 4 rfl) ?_
                refine lv_iload_n hx hb d_Gr_scoreLetters_41 rfl (lv_at hl 2 rfl) ?_
                refine lv_icmp_gt (tgt := 75) hx hb d_Gr_scoreLetters_42 (by decide) (fun c7 => ?_) (fun c7 => ?_)
                · have hf := xif_t c7 hf
                  exact K39_75 x4_39 gr_letterScores_39 _ _ _ hP hD hS (lv_sub hl [0, 1, 2, 3] rfl) hf
                · have hf := xif_f c7 hf
                  refine lv_aload_n hx hb d_Gr_scoreLetters_45 rfl (lv_at hl 0 rfl) ?_
                  refine va_get (D := (dC, dI)) (ci := 3) (v := .ref (ad 19)) (C := R_Gr) (T := F_Gr) (N := 11) hx hb hts iw_Gr hown hK hP 11 rfl rfl 9 (by decide) (hts _ m_141) (fun _ h9 => h9) rfl d_Gr_scoreLetters_46 ?_
                  refine lv_iload_n hx hb d_Gr_scoreLetters_49 rfl (lv_at hl 1 rfl) ?_
                  refine lv_bipush (v := 16) hx hb d_Gr_scoreLetters_50 (by decide) ?_
                  refine lv_imul hx hb d_Gr_scoreLetters_52 ?_
                  refine lv_iload_n hx hb d_Gr_scoreLetters_53 rfl (lv_at hl 3 rfl) ?_
                  refine lv_iconst (v := 4) hx hb d_Gr_scoreLetters_54 (by decide) ?_
                  refine lv_imul hx hb d_Gr_scoreLetters_55 ?_
                  refine lv_iadd hx hb d_Gr_scoreLetters_56 ?_
                  refine lv_iload hx hb d_Gr_scoreLetters_57 (lv_at hl 4 rfl) ?_
                  refine lv_iadd hx hb d_Gr_scoreLetters_59 ?_
                  refine lv_aload_n hx hb d_Gr_scoreLetters_60 rfl (lv_at hl 0 rfl) ?_
                  refine lv_iload_n hx hb d_Gr_scoreLetters_61 rfl (lv_at hl 1 rfl) ?_
                  refine lv_iload_n hx hb d_Gr_scoreLetters_62 rfl (lv_at hl 3 rfl) ?_
                  refine lv_iload hx hb d_Gr_scoreLetters_63 (lv_at hl 4 rfl) ?_
                  obtain ⟨r8, hc9, hf⟩ := ob1_inv hf
                  refine xk_i (xrunV (C := R_Gr) (As := [.int a1, .int x3_31, .int x4_39]) (rest := [.int (((a1 * (16 : Int32)) + (x3_31 * (4 : Int32))) + x4_39), .ref (ad 19)]) ⟨hx, hb, hml, hown, hts⟩ (c_Gr_scoreOfLetters l dC dI ty ad ta H.size co_rows co_marks co_rowSets co_partners co_open co_count tr_kinds tr_lefts tr_rights tr_seconds tr_size gr_kinds gr_nodes gr_rowSets gr_firstStates gr_targetCounts gr_targets gr_stepScores gr_letterScores_39 gr_size tx_letters tx_length va_scores va_knownEnds hi_begins hi_lengths hi_scores hi_taken hi_count de_states de_begins de_lengths de_length a1 x3_31 x4_39 r8 hc9) z_Gr_124 ⟨⟨rfl, rfl⟩, by decide, by decide⟩ hK hP hD hN hS hA (va_recv hK hP (ci := 3) (q0 := 11) rfl rfl) rfl hl.1 rfl (Nat.le_of_ble_eq_true rfl) d_Gr_scoreLetters_65 ⟨Nat.zero_le _, Nat.zero_le _⟩) hS hD rfl hA (fun H locs hP hD hS => ?_)
                  refine W.eq (g2 := F0 m 68 ls [.int r8, .int (((a1 * (16 : Int32)) + (x3_31 * (4 : Int32))) + x4_39), .ref (ad 19)]) rfl ?_
                  obtain ⟨hi10, hf⟩ := gdi hf
                  refine va_iast hx hb hK hP hD hS 19 0 rfl rfl hi10 d_Gr_scoreLetters_68 (fun H locs hP hD hS => ?_)
                  have hP : va_P (dC, dI) classes (wX ty ad co_rows co_marks co_rowSets co_partners co_open co_count tr_kinds tr_lefts tr_rights tr_seconds tr_size gr_kinds gr_nodes gr_rowSets gr_firstStates gr_targetCounts gr_targets gr_stepScores (upd gr_letterScores_39 (Int32.toNatClampNeg (((a1 * (16 : Int32)) + (x3_31 * (4 : Int32))) + x4_39)) r8) gr_size tx_letters tx_length va_scores va_knownEnds hi_begins hi_lengths hi_scores hi_taken hi_count de_states de_begins de_lengths de_length) H := hP
                  have hD : va_D A (wX ty ad co_rows co_marks co_rowSets co_partners co_open co_count tr_kinds tr_lefts tr_rights tr_seconds tr_size gr_kinds gr_nodes gr_rowSets gr_firstStates gr_targetCounts gr_targets gr_stepScores (upd gr_letterScores_39 (Int32.toNatClampNeg (((a1 * (16 : Int32)) + (x3_31 * (4 : Int32))) + x4_39)) r8) gr_size tx_letters tx_length va_scores va_knownEnds hi_begins hi_lengths hi_scores hi_taken hi_count de_states de_begins de_lengths de_length) := hD
                  refine lv_iinc (v := (x4_39 + (1 : Int32))) (lv' := [(4, .int (x4_39 + (1 : Int32))), (0, .ref (ad 11)), (1, .int a1), (2, .int t0_28), (3, .int x3_31)]) hx hb d_Gr_scoreLetters_69 hl (k := 4) rfl rfl (by decide) rfl (fun ls hl => ?_)
                  refine lv_goto (tgt := 39) hx hb d_Gr_scoreLetters_72 (by decide) ?_
                  exact ih39 (x4_39 + (1 : Int32)) (upd gr_letterScores_39 (Int32.toNatClampNeg (((a1 * (16 : Int32)) + (x3_31 * (4 : Int32))) + x4_39)) r8) _ _ _ hP hD hS (lv_sub hl [1, 2, 3, 4, 0] rfl) hf
            exact L39 1000 (0 : Int32) gr_letterScores_31 _ _ _ hP hD hS (lv_sub hl [1, 2, 3, 4, 0] rfl) hf
      exact L31 1000 (0 : Int32) gr_letterScores _ _ _ hP hD hS (lv_sub hl [2, 3, 1, 0] rfl) hf
    refine lv_icmp_ne (tgt := 27) hx hb d_Gr_scoreLetters_20 (by decide) (fun c11 => ?_) (fun c11 => ?_)
    · have hf := xif_f c11 hf
      refine lv_iconst (v := 0) hx hb d_Gr_scoreLetters_27 (by decide) ?_
      exact J28 (0 : Int32) _ _ _ hP hD hS (lv_sub hl [0, 1] rfl) hf
    · have hf := xif_t c11 hf
      refine lv_iconst (v := 3) hx hb d_Gr_scoreLetters_23 (by decide) ?_
      refine lv_goto (tgt := 28) hx hb d_Gr_scoreLetters_24 (by decide) ?_
      exact J28 (3 : Int32) _ _ _ hP hD hS (lv_sub hl [0, 1] rfl) hf
  · have hf := xif_t c4 hf
    obtain rfl := os1 hf
    exact hret H locs _ _ d_Gr_scoreLetters_12 hP hS
def f_Gr_make_K6_42 (w1 : (Nat → Int32)) (w2 : (Nat → Int32)) (w3 : (Nat → Int32)) (w4 : (Nat → Int32)) (w5 : Int32) (x1_6 : Int32) (gr_targetCounts_6 : (Nat → Int32)) (gr_targets_6 : (Nat → Int32)) (gr_stepScores_6 : (Nat → Int32)) (gr_letterScores_6 : (Nat → Int32)) : Option ((Nat → Int32) × (Nat → Int32) × (Nat → Int32) × (Nat → Int32) × (Nat → Int32) × (Nat → Int32) × (Nat → Int32) × (Nat → Int32) × Int32) := some (w1, w2, w3, w4, gr_targetCounts_6, gr_targets_6, gr_stepScores_6, gr_letterScores_6, w5)
def f_Gr_make_L6 (co_rowSets : (Nat → Int32)) (tr_lefts : (Nat → Int32)) (tr_rights : (Nat → Int32)) (tr_seconds : (Nat → Int32)) (w1 : (Nat → Int32)) (w2 : (Nat → Int32)) (w3 : (Nat → Int32)) (w4 : (Nat → Int32)) (w5 : Int32) (k6_42 : (Int32 → (Nat → Int32) → (Nat → Int32) → (Nat → Int32) → (Nat → Int32) → Option ((Nat → Int32) × (Nat → Int32) × (Nat → Int32) × (Nat → Int32) × (Nat → Int32) × (Nat → Int32) × (Nat → Int32) × (Nat → Int32) × Int32))) : Nat → Int32 → (Nat → Int32) → (Nat → Int32) → (Nat → Int32) → (Nat → Int32) → Option ((Nat → Int32) × (Nat → Int32) × (Nat → Int32) × (Nat → Int32) × (Nat → Int32) × (Nat → Int32) × (Nat → Int32) × (Nat → Int32) × Int32)
  | 0, _, _, _, _, _ => none
  | n6 + 1, x1_6, gr_targetCounts_6, gr_targets_6, gr_stepScores_6, gr_letterScores_6 => if w5 ≤ x1_6 then (k6_42 x1_6 gr_targetCounts_6 gr_targets_6 gr_stepScores_6 gr_letterScores_6) else (gd (xin x1_6 43) (ob2 (f_Gr_addTargets tr_seconds w1 w2 w4 (upd gr_targetCounts_6 (Int32.toNatClampNeg x1_6) (0 : Int32)) gr_targets_6 x1_6) (fun w9 w10 => ob1 (f_Gr_scoreSteps w1 w3 w9 w10 gr_stepScores_6 x1_6) (fun w12 => ob1 (f_Gr_scoreLetters co_rowSets tr_lefts tr_rights w1 w2 w3 gr_letterScores_6 x1_6) (fun w14 => (f_Gr_make_L6 co_rowSets tr_lefts tr_rights tr_seconds w1 w2 w3 w4 w5 k6_42 n6) (x1_6 + (1 : Int32)) w9 w10 w12 w14)))))
def f_Gr_make (co_rows : Int32) (co_rowSets : (Nat → Int32)) (tr_kinds : (Nat → Int32)) (tr_lefts : (Nat → Int32)) (tr_rights : (Nat → Int32)) (tr_seconds : (Nat → Int32)) (tr_size : Int32) (gr_kinds : (Nat → Int32)) (gr_nodes : (Nat → Int32)) (gr_rowSets : (Nat → Int32)) (gr_firstStates : (Nat → Int32)) (gr_targetCounts : (Nat → Int32)) (gr_targets : (Nat → Int32)) (gr_stepScores : (Nat → Int32)) (gr_letterScores : (Nat → Int32)) (gr_size : Int32) : Option ((Nat → Int32) × (Nat → Int32) × (Nat → Int32) × (Nat → Int32) × (Nat → Int32) × (Nat → Int32) × (Nat → Int32) × (Nat → Int32) × Int32) := ob5 (f_Gr_layStates co_rows co_rowSets tr_kinds tr_lefts tr_rights tr_size gr_kinds gr_nodes gr_rowSets gr_firstStates gr_size) (fun w1 w2 w3 w4 w5 => f_Gr_make_L6 co_rowSets tr_lefts tr_rights tr_seconds w1 w2 w3 w4 w5 (f_Gr_make_K6_42 w1 w2 w3 w4 w5) 1000 (0 : Int32) gr_targetCounts gr_targets gr_stepScores gr_letterScores)
set_option maxHeartbeats 4000000 in
set_option maxRecDepth 100000 in
theorem c_Gr_make (l : Launch) (dC : Nat → ClassId) (dI : Nat → Nat → Nat) (ty : Nat → ClassId) (ad : Nat → Nat) (ta : Nat → Nat) (sz : Nat) (co_rows : Int32) (co_marks : (Nat → Int32)) (co_rowSets : (Nat → Int32)) (co_partners : (Nat → Int32)) (co_open : (Nat → Int32)) (co_count : Int32) (tr_kinds : (Nat → Int32)) (tr_lefts : (Nat → Int32)) (tr_rights : (Nat → Int32)) (tr_seconds : (Nat → Int32)) (tr_size : Int32) (gr_kinds : (Nat → Int32)) (gr_nodes : (Nat → Int32)) (gr_rowSets : (Nat → Int32)) (gr_firstStates : (Nat → Int32)) (gr_targetCounts : (Nat → Int32)) (gr_targets : (Nat → Int32)) (gr_stepScores : (Nat → Int32)) (gr_letterScores : (Nat → Int32)) (gr_size : Int32) (tx_letters : (Nat → Int32)) (tx_length : Int32) (va_scores : (Nat → Int32)) (va_knownEnds : Int32) (hi_begins : (Nat → Int32)) (hi_lengths : (Nat → Int32)) (hi_scores : (Nat → Int32)) (hi_taken : (Nat → Int32)) (hi_count : Int32) (de_states : (Nat → Int32)) (de_begins : (Nat → Int32)) (de_lengths : (Nat → Int32)) (de_length : Int32)  (n_gr_kinds : (Nat → Int32)) (n_gr_nodes : (Nat → Int32)) (n_gr_rowSets : (Nat → Int32)) (n_gr_firstStates : (Nat → Int32)) (n_gr_targetCounts : (Nat → Int32)) (n_gr_targets : (Nat → Int32)) (n_gr_stepScores : (Nat → Int32)) (n_gr_letterScores : (Nat → Int32)) (n_gr_size : Int32) (hf : f_Gr_make co_rows co_rowSets tr_kinds tr_lefts tr_rights tr_seconds tr_size gr_kinds gr_nodes gr_rowSets gr_firstStates gr_targetCounts gr_targets gr_stepScores gr_letterScores gr_size = some (n_gr_kinds, n_gr_nodes, n_gr_rowSets, n_gr_firstStates, n_gr_targetCounts, n_gr_targets, n_gr_stepScores, n_gr_letterScores, n_gr_size)) : Met l y_Gr_make (.code y_Gr_make prog_4_method_12_code 2 none :: gw) rm_Gr_make (xPre ta (dC, dI) classes (tys3 ty) (wX ty ad co_rows co_marks co_rowSets co_partners co_open co_count tr_kinds tr_lefts tr_rights tr_seconds tr_size gr_kinds gr_nodes gr_rowSets gr_firstStates gr_targetCounts gr_targets gr_stepScores gr_letterScores gr_size tx_letters tx_length va_scores va_knownEnds hi_begins hi_lengths hi_scores hi_taken hi_count de_states de_begins de_lengths de_length) sz [.ref (ad 11)]) (xQv (dC, dI) classes (wX ty ad co_rows co_marks co_rowSets co_partners co_open co_count tr_kinds tr_lefts tr_rights tr_seconds tr_size gr_kinds gr_nodes gr_rowSets gr_firstStates gr_targetCounts gr_targets gr_stepScores gr_letterScores gr_size tx_letters tx_length va_scores va_knownEnds hi_begins hi_lengths hi_scores hi_taken hi_count de_states de_begins de_lengths de_length) (wX ty ad co_rows co_marks co_rowSets co_partners co_open co_count tr_kinds tr_lefts tr_rights tr_seconds tr_size n_gr_kinds n_gr_nodes n_gr_rowSets n_gr_firstStates n_gr_targetCounts n_gr_targets n_gr_stepScores n_gr_letterScores n_gr_size tx_letters tx_length va_scores va_knownEnds hi_begins hi_lengths hi_scores hi_taken hi_count de_states de_begins de_lengths de_length) sz) 0 0 (va_A (wX ty ad co_rows co_marks co_rowSets co_partners co_open co_count tr_kinds tr_lefts tr_rights tr_seconds tr_size gr_kinds gr_nodes gr_rowSets gr_firstStates gr_targetCounts gr_targets gr_stepScores gr_letterScores gr_size tx_letters tx_length va_scores va_knownEnds hi_begins hi_lengths hi_scores hi_taken hi_count de_states de_begins de_lengths de_length) sz) := by
  refine xmet_v rfl (Nat.le_of_ble_eq_true rfl) ?_
  intro p e s m below meth c A ls Q hx hb hml hts hown hK hN hA hP hD hS hl hret
  replace hown : s.vm.findClass R_Gr = some m.cls := hown
  have hl : lv_has ls 2 [(0, .ref (ad 11))] := hl
  rw [f_Gr_make] at hf
  obtain ⟨H, eH⟩ : ∃ H : Heap, H = s.heap := ⟨_, rfl⟩
  obtain ⟨locs, eL⟩ : ∃ L : List Loc, L = [] := ⟨_, rfl⟩
  have hP : va_P (dC, dI) classes (wX ty ad co_rows co_marks co_rowSets co_partners co_open co_count tr_kinds tr_lefts tr_rights tr_seconds tr_size gr_kinds gr_nodes gr_rowSets gr_firstStates gr_targetCounts gr_targets gr_stepScores gr_letterScores gr_size tx_letters tx_length va_scores va_knownEnds hi_begins hi_lengths hi_scores hi_taken hi_count de_states de_begins de_lengths de_length) H := by rw [eH]; exact hP
  have hS : va_S A s.heap H locs := by rw [eH, eL]; exact hS
  rw [← eL]
  suffices hgoal : W p l e rm_Gr_make s m (List.toArray [.ref (ad 11)]) below meth c H locs 0 0 Q (F0 m 0 ls []) by rw [eH] at hgoal; exact hgoal
  clear eH eL
  refine lv_aload_n hx hb d_Gr_make_0 rfl (lv_at hl 0 rfl) ?_
  obtain ⟨w1, w2, w3, w4, w5, hc6, hf⟩ := ob5_inv hf
  refine xk_v (xrunV (C := R_Gr) (As := []) (rest := []) ⟨hx, hb, hml, hown, hts⟩ (c_Gr_layStates l dC dI ty ad ta H.size co_rows co_marks co_rowSets co_partners co_open co_count tr_kinds tr_lefts tr_rights tr_seconds tr_size gr_kinds gr_nodes gr_rowSets gr_firstStates gr_targetCounts gr_targets gr_stepScores gr_letterScores gr_size tx_letters tx_length va_scores va_knownEnds hi_begins hi_lengths hi_scores hi_taken hi_count de_states de_begins de_lengths de_length  w1 w2 w3 w4 w5 hc6) z_Gr_52 ⟨⟨rfl, rfl⟩, by decide, by decide⟩ hK hP hD hN hS hA (va_recv hK hP (ci := 3) (q0 := 11) rfl rfl) rfl hl.1 rfl (Nat.le_of_ble_eq_true rfl) d_Gr_make_1 ⟨Nat.zero_le _, Nat.zero_le _⟩) hS hD rfl hA (fun H locs hP hD hS => ?_)
  refine W.eq (g2 := F0 m 4 ls []) rfl ?_
  refine lv_iconst (v := 0) hx hb d_Gr_make_4 (by decide) ?_
  refine lv_istore_n (lv' := [(1, .int (0 : Int32)), (0, .ref (ad 11))]) hx hb d_Gr_make_5 rfl hl (by decide) rfl (fun ls hl => ?_)
  have K6_42 : ∀ (x1_6 : Int32) (gr_targetCounts_6 : (Nat → Int32)) (gr_targets_6 : (Nat → Int32)) (gr_stepScores_6 : (Nat → Int32)) (gr_letterScores_6 : (Nat → Int32)) (H : Heap) (locs : List Loc) (ls : Array Slot), va_P (dC, dI) classes (wX ty ad co_rows co_marks co_rowSets co_partners co_open co_count tr_kinds tr_lefts tr_rights tr_seconds tr_size w1 w2 w3 w4 gr_targetCounts_6 gr_targets_6 gr_stepScores_6 gr_letterScores_6 w5 tx_letters tx_length va_scores va_knownEnds hi_begins hi_lengths hi_scores hi_taken hi_count de_states de_begins de_lengths de_length) H → va_D A (wX ty ad co_rows co_marks co_rowSets co_partners co_open co_count tr_kinds tr_lefts tr_rights tr_seconds tr_size w1 w2 w3 w4 gr_targetCounts_6 gr_targets_6 gr_stepScores_6 gr_letterScores_6 w5 tx_letters tx_length va_scores va_knownEnds hi_begins hi_lengths hi_scores hi_taken hi_count de_states de_begins de_lengths de_length) → va_S A s.heap H locs → lv_has ls 2 [] → f_Gr_make_K6_42 w1 w2 w3 w4 w5 x1_6 gr_targetCounts_6 gr_targets_6 gr_stepScores_6 gr_letterScores_6 = some (n_gr_kinds, n_gr_nodes, n_gr_rowSets, n_gr_firstStates, n_gr_targetCounts, n_gr_targets, n_gr_stepScores, n_gr_letterScores, n_gr_size) → W p l e rm_Gr_make s m (List.toArray [.ref (ad 11)]) below meth c H locs 0 0 Q (F0 m 42 ls []) := by
    intro x1_6 gr_targetCounts_6 gr_targets_6 gr_stepScores_6 gr_letterScores_6 H locs ls hP hD hS hl hf
    rw [f_Gr_make_K6_42] at hf
    obtain ⟨rfl, rfl, rfl, rfl, rfl, rfl, rfl, rfl, rfl⟩ := os9 hf
    exact hret H locs _ _ d_Gr_make_42 hP hS
  have L6 : ∀ (n6 : Nat), ∀ (x1_6 : Int32) (gr_targetCounts_6 : (Nat → Int32)) (gr_targets_6 : (Nat → Int32)) (gr_stepScores_6 : (Nat → Int32)) (gr_letterScores_6 : (Nat → Int32)) (H : Heap) (locs : List Loc) (ls : Array Slot), va_P (dC, dI) classes (wX ty ad co_rows co_marks co_rowSets co_partners co_open co_count tr_kinds tr_lefts tr_rights tr_seconds tr_size w1 w2 w3 w4 gr_targetCounts_6 gr_targets_6 gr_stepScores_6 gr_letterScores_6 w5 tx_letters tx_length va_scores va_knownEnds hi_begins hi_lengths hi_scores hi_taken hi_count de_states de_begins de_lengths de_length) H → va_D A (wX ty ad co_rows co_marks co_rowSets co_partners co_open co_count tr_kinds tr_lefts tr_rights tr_seconds tr_size w1 w2 w3 w4 gr_targetCounts_6 gr_targets_6 gr_stepScores_6 gr_letterScores_6 w5 tx_letters tx_length va_scores va_knownEnds hi_begins hi_lengths hi_scores hi_taken hi_count de_states de_begins de_lengths de_length) → va_S A s.heap H locs → lv_has ls 2 [(0, .ref (ad 11)), (1, .int x1_6)] → f_Gr_make_L6 co_rowSets tr_lefts tr_rights tr_seconds w1 w2 w3 w4 w5 (f_Gr_make_K6_42 w1 w2 w3 w4 w5) n6 x1_6 gr_targetCounts_6 gr_targets_6 gr_stepScores_6 gr_letterScores_6 = some (n_gr_kinds, n_gr_nodes, n_gr_rowSets, n_gr_firstStates, n_gr_targetCounts, n_gr_targets, n_gr_stepScores, n_gr_letterScores, n_gr_size) → W p l e rm_Gr_make s m (List.toArray [.ref (ad 11)]) below meth c H locs 0 0 Q (F0 m 6 ls []) := by
    intro n6
    induction n6 with
    | zero =>
      intro x1_6 gr_targetCounts_6 gr_targets_6 gr_stepScores_6 gr_letterScores_6 H locs ls hP hD hS hl hf
      rw [f_Gr_make_L6] at hf
      cases hf
    | succ n6 ih6 =>
      intro x1_6 gr_targetCounts_6 gr_targets_6 gr_stepScores_6 gr_letterScores_6 H locs ls hP hD hS hl hf
      rw [f_Gr_make_L6] at hf
      refine lv_iload_n hx hb d_Gr_make_6 rfl (lv_at hl 1 rfl) ?_
      refine lv_aload_n hx hb d_Gr_make_7 rfl (lv_at hl 0 rfl) ?_
      refine va_get (D := (dC, dI)) (ci := 3) (v := .int w5) (C := R_Gr) (T := F_Gr) (N := 11) hx hb hts iw_Gr hown hK hP 11 rfl rfl 10 (by decide) (hts _ m_142) (fun _ h9 => h9) rfl d_Gr_make_8 ?_
      refine lv_icmp_ge (tgt := 42) hx hb d_Gr_make_11 (by decide) (fun c7 => ?_) (fun c7 => ?_)
      · have hf := xif_t c7 hf
        exact K6_42 x1_6 gr_targetCounts_6 gr_targets_6 gr_stepScores_6 gr_letterScores_6 _ _ _ hP hD hS (lv_sub hl [] rfl) hf
      · have hf := xif_f c7 hf
        refine lv_aload_n hx hb d_Gr_make_14 rfl (lv_at hl 0 rfl) ?_
        refine va_get (D := (dC, dI)) (ci := 3) (v := .ref (ad 16)) (C := R_Gr) (T := F_Gr) (N := 11) hx hb hts iw_Gr hown hK hP 11 rfl rfl 6 (by decide) (hts _ m_138) (fun _ h9 => h9) rfl d_Gr_make_15 ?_
        refine lv_iload_n hx hb d_Gr_make_18 rfl (lv_at hl 1 rfl) ?_
        refine lv_iconst (v := 0) hx hb d_Gr_make_19 (by decide) ?_
        obtain ⟨hi8, hf⟩ := gdi hf
        refine va_iast hx hb hK hP hD hS 16 0 rfl rfl hi8 d_Gr_make_20 (fun H locs hP hD hS => ?_)
        have hP : va_P (dC, dI) classes (wX ty ad co_rows co_marks co_rowSets co_partners co_open co_count tr_kinds tr_lefts tr_rights tr_seconds tr_size w1 w2 w3 w4 (upd gr_targetCounts_6 (Int32.toNatClampNeg x1_6) (0 : Int32)) gr_targets_6 gr_stepScores_6 gr_letterScores_6 w5 tx_letters tx_length va_scores va_knownEnds hi_begins hi_lengths hi_scores hi_taken hi_count de_states de_begins de_lengths de_length) H := hP
        have hD : va_D A (wX ty ad co_rows co_marks co_rowSets co_partners co_open co_count tr_kinds tr_lefts tr_rights tr_seconds tr_size w1 w2 w3 w4 (upd gr_targetCounts_6 (Int32.toNatClampNeg x1_6) (0 : Int32)) gr_targets_6 gr_stepScores_6 gr_letterScores_6 w5 tx_letters tx_length va_scores va_knownEnds hi_begins hi_lengths hi_scores hi_taken hi_count de_states de_begins de_lengths de_length) := hD
        refine lv_aload_n hx hb d_Gr_make_21 rfl (lv_at hl 0 rfl) ?_
        refine lv_iload_n hx hb d_Gr_make_22 rfl (lv_at hl 1 rfl) ?_
        obtain ⟨w9, w10, hc11, hf⟩ := ob2_inv hf
        refine xk_v (xrunV (C := R_Gr) (As := [.int x1_6]) (rest := []) ⟨hx, hb, hml, hown, hts⟩ (c_Gr_addTargets l dC dI ty ad ta H.size co_rows co_marks co_rowSets co_partners co_open co_count tr_kinds tr_lefts tr_rights tr_seconds tr_size w1 w2 w3 w4 (upd gr_targetCounts_6 (Int32.toNatClampNeg x1_6) (0 : Int32)) gr_targets_6 gr_stepScores_6 gr_letterScores_6 w5 tx_letters tx_length va_scores va_knownEnds hi_begins hi_lengths hi_scores hi_taken hi_count de_states de_begins de_lengths de_length x1_6 w9 w10 hc11) z_Gr_55 ⟨⟨rfl, rfl⟩, by decide, by decide⟩ hK hP hD hN hS hA (va_recv hK hP (ci := 3) (q0 := 11) rfl rfl) rfl hl.1 rfl (Nat.le_of_ble_eq_true rfl) d_Gr_make_23 ⟨Nat.zero_le _, Nat.zero_le _⟩) hS hD rfl hA (fun H locs hP hD hS => ?_)
        refine W.eq (g2 := F0 m 26 ls []) rfl ?_
        refine lv_aload_n hx hb d_Gr_make_26 rfl (lv_at hl 0 rfl) ?_
        refine lv_iload_n hx hb d_Gr_make_27 rfl (lv_at hl 1 rfl) ?_
        obtain ⟨w12, hc13, hf⟩ := ob1_inv hf
        refine xk_v (xrunV (C := R_Gr) (As := [.int x1_6]) (rest := []) ⟨hx, hb, hml, hown, hts⟩ (c_Gr_scoreSteps l dC dI ty ad ta H.size co_rows co_marks co_rowSets co_partners co_open co_count tr_kinds tr_lefts tr_rights tr_seconds tr_size w1 w2 w3 w4 w9 w10 gr_stepScores_6 gr_letterScores_6 w5 tx_letters tx_length va_scores va_knownEnds hi_begins hi_lengths hi_scores hi_taken hi_count de_states de_begins de_lengths de_length x1_6 w12 hc13) z_Gr_59 ⟨⟨rfl, rfl⟩, by decide, by decide⟩ hK hP hD hN hS hA (va_recv hK hP (ci := 3) (q0 := 11) rfl rfl) rfl hl.1 rfl (Nat.le_of_ble_eq_true rfl) d_Gr_make_28 ⟨Nat.zero_le _, Nat.zero_le _⟩) hS hD rfl hA (fun H locs hP hD hS => ?_)
        refine W.eq (g2 := F0 m 31 ls []) rfl ?_
        refine lv_aload_n hx hb d_Gr_make_31 rfl (lv_at hl 0 rfl) ?_
        refine lv_iload_n hx hb d_Gr_make_32 rfl (lv_at hl 1 rfl) ?_
        obtain ⟨w14, hc15, hf⟩ := ob1_inv hf
        refine xk_v (xrunV (C := R_Gr) (As := [.int x1_6]) (rest := []) ⟨hx, hb, hml, hown, hts⟩ (c_Gr_scoreLetters l dC dI ty ad ta H.size co_rows co_marks co_rowSets co_partners co_open co_count tr_kinds tr_lefts tr_rights tr_seconds tr_size w1 w2 w3 w4 w9 w10 w12 gr_letterScores_6 w5 tx_letters tx_length va_scores va_knownEnds hi_begins hi_lengths hi_scores hi_taken hi_count de_states de_begins de_lengths de_length x1_6 w14 hc15) z_Gr_62 ⟨⟨rfl, rfl⟩, by decide, by decide⟩ hK hP hD hN hS hA (va_recv hK hP (ci := 3) (q0 := 11) rfl rfl) rfl hl.1 rfl (Nat.le_of_ble_eq_true rfl) d_Gr_make_33 ⟨Nat.zero_le _, Nat.zero_le _⟩) hS hD rfl hA (fun H locs hP hD hS => ?_)
        refine W.eq (g2 := F0 m 36 ls []) rfl ?_
        refine lv_iinc (v := (x1_6 + (1 : Int32))) (lv' := [(1, .int (x1_6 + (1 : Int32))), (0, .ref (ad 11))]) hx hb d_Gr_make_36 hl (k := 1) rfl rfl (by decide) rfl (fun ls hl => ?_)
        refine lv_goto (tgt := 6) hx hb d_Gr_make_39 (by decide) ?_
        exact ih6 (x1_6 + (1 : Int32)) w9 w10 w12 w14 _ _ _ hP hD hS (lv_sub hl [1, 0] rfl) hf
  exact L6 1000 (0 : Int32) gr_targetCounts gr_targets gr_stepScores gr_letterScores _ _ _ hP hD hS (lv_sub hl [1, 0] rfl) hf
def f_Va_forget (va_knownEnds : Int32) : Option (Int32) := some ((0 : Int32))
set_option maxHeartbeats 4000000 in
set_option maxRecDepth 100000 in
theorem c_Va_forget (l : Launch) (dC : Nat → ClassId) (dI : Nat → Nat → Nat) (ty : Nat → ClassId) (ad : Nat → Nat) (ta : Nat → Nat) (sz : Nat) (co_rows : Int32) (co_marks : (Nat → Int32)) (co_rowSets : (Nat → Int32)) (co_partners : (Nat → Int32)) (co_open : (Nat → Int32)) (co_count : Int32) (tr_kinds : (Nat → Int32)) (tr_lefts : (Nat → Int32)) (tr_rights : (Nat → Int32)) (tr_seconds : (Nat → Int32)) (tr_size : Int32) (gr_kinds : (Nat → Int32)) (gr_nodes : (Nat → Int32)) (gr_rowSets : (Nat → Int32)) (gr_firstStates : (Nat → Int32)) (gr_targetCounts : (Nat → Int32)) (gr_targets : (Nat → Int32)) (gr_stepScores : (Nat → Int32)) (gr_letterScores : (Nat → Int32)) (gr_size : Int32) (tx_letters : (Nat → Int32)) (tx_length : Int32) (va_scores : (Nat → Int32)) (va_knownEnds : Int32) (hi_begins : (Nat → Int32)) (hi_lengths : (Nat → Int32)) (hi_scores : (Nat → Int32)) (hi_taken : (Nat → Int32)) (hi_count : Int32) (de_states : (Nat → Int32)) (de_begins : (Nat → Int32)) (de_lengths : (Nat → Int32)) (de_length : Int32)  (n_va_knownEnds : Int32) (hf : f_Va_forget va_knownEnds = some (n_va_knownEnds)) : Met l y_Va_forget (.code y_Va_forget prog_8_method_3_code 1 none :: gw) rm_Va_forget (xPre ta (dC, dI) classes (tys3 ty) (wX ty ad co_rows co_marks co_rowSets co_partners co_open co_count tr_kinds tr_lefts tr_rights tr_seconds tr_size gr_kinds gr_nodes gr_rowSets gr_firstStates gr_targetCounts gr_targets gr_stepScores gr_letterScores gr_size tx_letters tx_length va_scores va_knownEnds hi_begins hi_lengths hi_scores hi_taken hi_count de_states de_begins de_lengths de_length) sz [.ref (ad 22)]) (xQv (dC, dI) classes (wX ty ad co_rows co_marks co_rowSets co_partners co_open co_count tr_kinds tr_lefts tr_rights tr_seconds tr_size gr_kinds gr_nodes gr_rowSets gr_firstStates gr_targetCounts gr_targets gr_stepScores gr_letterScores gr_size tx_letters tx_length va_scores va_knownEnds hi_begins hi_lengths hi_scores hi_taken hi_count de_states de_begins de_lengths de_length) (wX ty ad co_rows co_marks co_rowSets co_partners co_open co_count tr_kinds tr_lefts tr_rights tr_seconds tr_size gr_kinds gr_nodes gr_rowSets gr_firstStates gr_targetCounts gr_targets gr_stepScores gr_letterScores gr_size tx_letters tx_length va_scores n_va_knownEnds hi_begins hi_lengths hi_scores hi_taken hi_count de_states de_begins de_lengths de_length) sz) 0 0 (va_A (wX ty ad co_rows co_marks co_rowSets co_partners co_open co_count tr_kinds tr_lefts tr_rights tr_seconds tr_size gr_kinds gr_nodes gr_rowSets gr_firstStates gr_targetCounts gr_targets gr_stepScores gr_letterScores gr_size tx_letters tx_length va_scores va_knownEnds hi_begins hi_lengths hi_scores hi_taken hi_count de_states de_begins de_lengths de_length) sz) := by
  refine xmet_v rfl (Nat.le_of_ble_eq_true rfl) ?_
  intro p e s m below meth c A ls Q hx hb hml hts hown hK hN hA hP hD hS hl hret
  replace hown : s.vm.findClass R_Va = some m.cls := hown
  have hl : lv_has ls 1 [(0, .ref (ad 22))] := hl
  rw [f_Va_forget] at hf
  obtain ⟨H, eH⟩ : ∃ H : Heap, H = s.heap := ⟨_, rfl⟩
  obtain ⟨locs, eL⟩ : ∃ L : List Loc, L = [] := ⟨_, rfl⟩
  have hP : va_P (dC, dI) classes (wX ty ad co_rows co_marks co_rowSets co_partners co_open co_count tr_kinds tr_lefts tr_rights tr_seconds tr_size gr_kinds gr_nodes gr_rowSets gr_firstStates gr_targetCounts gr_targets gr_stepScores gr_letterScores gr_size tx_letters tx_length va_scores va_knownEnds hi_begins hi_lengths hi_scores hi_taken hi_count de_states de_begins de_lengths de_length) H := by rw [eH]; exact hP
  have hS : va_S A s.heap H locs := by rw [eH, eL]; exact hS
  rw [← eL]
  suffices hgoal : W p l e rm_Va_forget s m (List.toArray [.ref (ad 22)]) below meth c H locs 0 0 Q (F0 m 0 ls []) by rw [eH] at hgoal; exact hgoal
  clear eH eL
  refine lv_aload_n hx hb d_Va_forget_0 rfl (lv_at hl 0 rfl) ?_
  refine lv_iconst (v := 0) hx hb d_Va_forget_1 (by decide) ?_
  refine va_put (D := (dC, dI)) (ci := 5) (v := .int (0 : Int32)) (ty := .int) (C := R_Va) (T := F_Va) (N := 4) hx hb hts iw_Va t_Va t_Va_ok n_Va hown hK hP hD hS 22 rfl rfl 3 (by decide) (hts _ m_188) (fun _ h9 => h9) rfl (by decide +kernel) rfl rfl (Nat.le_of_ble_eq_true rfl) d_Va_forget_2 (fun H locs hP hD hS => ?_)
  have hP : va_P (dC, dI) classes (wX ty ad co_rows co_marks co_rowSets co_partners co_open co_count tr_kinds tr_lefts tr_rights tr_seconds tr_size gr_kinds gr_nodes gr_rowSets gr_firstStates gr_targetCounts gr_targets gr_stepScores gr_letterScores gr_size tx_letters tx_length va_scores (0 : Int32) hi_begins hi_lengths hi_scores hi_taken hi_count de_states de_begins de_lengths de_length) H := hP
  have hD : va_D A (wX ty ad co_rows co_marks co_rowSets co_partners co_open co_count tr_kinds tr_lefts tr_rights tr_seconds tr_size gr_kinds gr_nodes gr_rowSets gr_firstStates gr_targetCounts gr_targets gr_stepScores gr_letterScores gr_size tx_letters tx_length va_scores (0 : Int32) hi_begins hi_lengths hi_scores hi_taken hi_count de_states de_begins de_lengths de_length) := hD
  obtain rfl := os1 hf
  exact hret H locs _ _ d_Va_forget_5 hP hS
def f_Gr_size (gr_size : Int32) : Option (Int32) := some (gr_size)
set_option maxHeartbeats 4000000 in
set_option maxRecDepth 100000 in
theorem c_Gr_size (l : Launch) (dC : Nat → ClassId) (dI : Nat → Nat → Nat) (ty : Nat → ClassId) (ad : Nat → Nat) (ta : Nat → Nat) (sz : Nat) (co_rows : Int32) (co_marks : (Nat → Int32)) (co_rowSets : (Nat → Int32)) (co_partners : (Nat → Int32)) (co_open : (Nat → Int32)) (co_count : Int32) (tr_kinds : (Nat → Int32)) (tr_lefts : (Nat → Int32)) (tr_rights : (Nat → Int32)) (tr_seconds : (Nat → Int32)) (tr_size : Int32) (gr_kinds : (Nat → Int32)) (gr_nodes : (Nat → Int32)) (gr_rowSets : (Nat → Int32)) (gr_firstStates : (Nat → Int32)) (gr_targetCounts : (Nat → Int32)) (gr_targets : (Nat → Int32)) (gr_stepScores : (Nat → Int32)) (gr_letterScores : (Nat → Int32)) (gr_size : Int32) (tx_letters : (Nat → Int32)) (tx_length : Int32) (va_scores : (Nat → Int32)) (va_knownEnds : Int32) (hi_begins : (Nat → Int32)) (hi_lengths : (Nat → Int32)) (hi_scores : (Nat → Int32)) (hi_taken : (Nat → Int32)) (hi_count : Int32) (de_states : (Nat → Int32)) (de_begins : (Nat → Int32)) (de_lengths : (Nat → Int32)) (de_length : Int32)  (r0 : Int32) (hf : f_Gr_size gr_size = some (r0)) : Met l y_Gr_size (.code y_Gr_size prog_4_method_2_code 1 (some .int) :: gw) rm_Gr_size (xPre ta (dC, dI) classes (tys3 ty) (wX ty ad co_rows co_marks co_rowSets co_partners co_open co_count tr_kinds tr_lefts tr_rights tr_seconds tr_size gr_kinds gr_nodes gr_rowSets gr_firstStates gr_targetCounts gr_targets gr_stepScores gr_letterScores gr_size tx_letters tx_length va_scores va_knownEnds hi_begins hi_lengths hi_scores hi_taken hi_count de_states de_begins de_lengths de_length) sz [.ref (ad 11)]) (xQi (dC, dI) classes (wX ty ad co_rows co_marks co_rowSets co_partners co_open co_count tr_kinds tr_lefts tr_rights tr_seconds tr_size gr_kinds gr_nodes gr_rowSets gr_firstStates gr_targetCounts gr_targets gr_stepScores gr_letterScores gr_size tx_letters tx_length va_scores va_knownEnds hi_begins hi_lengths hi_scores hi_taken hi_count de_states de_begins de_lengths de_length) (wX ty ad co_rows co_marks co_rowSets co_partners co_open co_count tr_kinds tr_lefts tr_rights tr_seconds tr_size gr_kinds gr_nodes gr_rowSets gr_firstStates gr_targetCounts gr_targets gr_stepScores gr_letterScores gr_size tx_letters tx_length va_scores va_knownEnds hi_begins hi_lengths hi_scores hi_taken hi_count de_states de_begins de_lengths de_length) sz r0) 0 0 (va_A (wX ty ad co_rows co_marks co_rowSets co_partners co_open co_count tr_kinds tr_lefts tr_rights tr_seconds tr_size gr_kinds gr_nodes gr_rowSets gr_firstStates gr_targetCounts gr_targets gr_stepScores gr_letterScores gr_size tx_letters tx_length va_scores va_knownEnds hi_begins hi_lengths hi_scores hi_taken hi_count de_states de_begins de_lengths de_length) sz) := by
  refine xmet_i rfl (Nat.le_of_ble_eq_true rfl) ?_
  intro p e s m below meth c A ls Q hx hb hml hts hown hK hN hA hP hD hS hl hret
  replace hown : s.vm.findClass R_Gr = some m.cls := hown
  have hl : lv_has ls 1 [(0, .ref (ad 11))] := hl
  rw [f_Gr_size] at hf
  obtain ⟨H, eH⟩ : ∃ H : Heap, H = s.heap := ⟨_, rfl⟩
  obtain ⟨locs, eL⟩ : ∃ L : List Loc, L = [] := ⟨_, rfl⟩
  have hP : va_P (dC, dI) classes (wX ty ad co_rows co_marks co_rowSets co_partners co_open co_count tr_kinds tr_lefts tr_rights tr_seconds tr_size gr_kinds gr_nodes gr_rowSets gr_firstStates gr_targetCounts gr_targets gr_stepScores gr_letterScores gr_size tx_letters tx_length va_scores va_knownEnds hi_begins hi_lengths hi_scores hi_taken hi_count de_states de_begins de_lengths de_length) H := by rw [eH]; exact hP
  have hS : va_S A s.heap H locs := by rw [eH, eL]; exact hS
  rw [← eL]
  suffices hgoal : W p l e rm_Gr_size s m (List.toArray [.ref (ad 11)]) below meth c H locs 0 0 Q (F0 m 0 ls []) by rw [eH] at hgoal; exact hgoal
  clear eH eL
  refine lv_aload_n hx hb d_Gr_size_0 rfl (lv_at hl 0 rfl) ?_
  refine va_get (D := (dC, dI)) (ci := 3) (v := .int gr_size) (C := R_Gr) (T := F_Gr) (N := 11) hx hb hts iw_Gr hown hK hP 11 rfl rfl 10 (by decide) (hts _ m_142) (fun _ h9 => h9) rfl d_Gr_size_1 ?_
  obtain rfl := os1 hf
  exact hret H locs _ _ _ d_Gr_size_4 rfl hP hS
def f_Fa_build (co_rows : Int32) (co_marks : (Nat → Int32)) (co_rowSets : (Nat → Int32)) (co_partners : (Nat → Int32)) (co_open : (Nat → Int32)) (co_count : Int32) (tr_kinds : (Nat → Int32)) (tr_lefts : (Nat → Int32)) (tr_rights : (Nat → Int32)) (tr_seconds : (Nat → Int32)) (tr_size : Int32) (gr_kinds : (Nat → Int32)) (gr_nodes : (Nat → Int32)) (gr_rowSets : (Nat → Int32)) (gr_firstStates : (Nat → Int32)) (gr_targetCounts : (Nat → Int32)) (gr_targets : (Nat → Int32)) (gr_stepScores : (Nat → Int32)) (gr_letterScores : (Nat → Int32)) (gr_size : Int32) (va_knownEnds : Int32) (hi_count : Int32) : Option (Int32 × (Nat → Int32) × (Nat → Int32) × (Nat → Int32) × (Nat → Int32) × (Nat → Int32) × (Nat → Int32) × Int32 × (Nat → Int32) × (Nat → Int32) × (Nat → Int32) × (Nat → Int32) × (Nat → Int32) × (Nat → Int32) × (Nat → Int32) × (Nat → Int32) × Int32 × Int32 × Int32) := ob3 (f_Co_pairUp co_marks co_partners co_open co_count) (fun r1 w2 w3 => if r1 = (0 : Int32) then (some ((-1000000 : Int32), w2, w3, tr_kinds, tr_lefts, tr_rights, tr_seconds, tr_size, gr_kinds, gr_nodes, gr_rowSets, gr_firstStates, gr_targetCounts, gr_targets, gr_stepScores, gr_letterScores, gr_size, va_knownEnds, hi_count)) else (ob5 (f_Tr_grow w2 co_count tr_kinds tr_lefts tr_rights tr_seconds tr_size) (fun w6 w7 w8 w9 w10 => ob9 (f_Gr_make co_rows co_rowSets w6 w7 w8 w9 w10 gr_kinds gr_nodes gr_rowSets gr_firstStates gr_targetCounts gr_targets gr_stepScores gr_letterScores gr_size) (fun w12 w13 w14 w15 w16 w17 w18 w19 w20 => ob1 (f_Va_forget va_knownEnds) (fun w22 => ob1 (f_Hi_forget hi_count) (fun w24 => ob1 (f_Gr_size w20) (fun r26 => some (r26, w2, w3, w6, w7, w8, w9, w10, w12, w13, w14, w15, w16, w17, w18, w19, w20, w22, w24))))))))
set_option maxHeartbeats 4000000 in
set_option maxRecDepth 100000 in
theorem c_Fa_build (l : Launch) (dC : Nat → ClassId) (dI : Nat → Nat → Nat) (ty : Nat → ClassId) (ad : Nat → Nat) (ta : Nat → Nat) (sz : Nat) (co_rows : Int32) (co_marks : (Nat → Int32)) (co_rowSets : (Nat → Int32)) (co_partners : (Nat → Int32)) (co_open : (Nat → Int32)) (co_count : Int32) (tr_kinds : (Nat → Int32)) (tr_lefts : (Nat → Int32)) (tr_rights : (Nat → Int32)) (tr_seconds : (Nat → Int32)) (tr_size : Int32) (gr_kinds : (Nat → Int32)) (gr_nodes : (Nat → Int32)) (gr_rowSets : (Nat → Int32)) (gr_firstStates : (Nat → Int32)) (gr_targetCounts : (Nat → Int32)) (gr_targets : (Nat → Int32)) (gr_stepScores : (Nat → Int32)) (gr_letterScores : (Nat → Int32)) (gr_size : Int32) (tx_letters : (Nat → Int32)) (tx_length : Int32) (va_scores : (Nat → Int32)) (va_knownEnds : Int32) (hi_begins : (Nat → Int32)) (hi_lengths : (Nat → Int32)) (hi_scores : (Nat → Int32)) (hi_taken : (Nat → Int32)) (hi_count : Int32) (de_states : (Nat → Int32)) (de_begins : (Nat → Int32)) (de_lengths : (Nat → Int32)) (de_length : Int32)  (r0 : Int32) (n_co_partners : (Nat → Int32)) (n_co_open : (Nat → Int32)) (n_tr_kinds : (Nat → Int32)) (n_tr_lefts : (Nat → Int32)) (n_tr_rights : (Nat → Int32)) (n_tr_seconds : (Nat → Int32)) (n_tr_size : Int32) (n_gr_kinds : (Nat → Int32)) (n_gr_nodes : (Nat → Int32)) (n_gr_rowSets : (Nat → Int32)) (n_gr_firstStates : (Nat → Int32)) (n_gr_targetCounts : (Nat → Int32)) (n_gr_targets : (Nat → Int32)) (n_gr_stepScores : (Nat → Int32)) (n_gr_letterScores : (Nat → Int32)) (n_gr_size : Int32) (n_va_knownEnds : Int32) (n_hi_count : Int32) (hf : f_Fa_build co_rows co_marks co_rowSets co_partners co_open co_count tr_kinds tr_lefts tr_rights tr_seconds tr_size gr_kinds gr_nodes gr_rowSets gr_firstStates gr_targetCounts gr_targets gr_stepScores gr_letterScores gr_size va_knownEnds hi_count = some (r0, n_co_partners, n_co_open, n_tr_kinds, n_tr_lefts, n_tr_rights, n_tr_seconds, n_tr_size, n_gr_kinds, n_gr_nodes, n_gr_rowSets, n_gr_firstStates, n_gr_targetCounts, n_gr_targets, n_gr_stepScores, n_gr_letterScores, n_gr_size, n_va_knownEnds, n_hi_count)) : Met l y_Fa_build (.code y_Fa_build prog_1_method_4_code 1 (some .int) :: gw) rm_Fa_build (xPre ta (dC, dI) classes (tys3 ty) (wX ty ad co_rows co_marks co_rowSets co_partners co_open co_count tr_kinds tr_lefts tr_rights tr_seconds tr_size gr_kinds gr_nodes gr_rowSets gr_firstStates gr_targetCounts gr_targets gr_stepScores gr_letterScores gr_size tx_letters tx_length va_scores va_knownEnds hi_begins hi_lengths hi_scores hi_taken hi_count de_states de_begins de_lengths de_length) sz [.ref (ad 0)]) (xQi (dC, dI) classes (wX ty ad co_rows co_marks co_rowSets co_partners co_open co_count tr_kinds tr_lefts tr_rights tr_seconds tr_size gr_kinds gr_nodes gr_rowSets gr_firstStates gr_targetCounts gr_targets gr_stepScores gr_letterScores gr_size tx_letters tx_length va_scores va_knownEnds hi_begins hi_lengths hi_scores hi_taken hi_count de_states de_begins de_lengths de_length) (wX ty ad co_rows co_marks co_rowSets n_co_partners n_co_open co_count n_tr_kinds n_tr_lefts n_tr_rights n_tr_seconds n_tr_size n_gr_kinds n_gr_nodes n_gr_rowSets n_gr_firstStates n_gr_targetCounts n_gr_targets n_gr_stepScores n_gr_letterScores n_gr_size tx_letters tx_length va_scores n_va_knownEnds hi_begins hi_lengths hi_scores hi_taken n_hi_count de_states de_begins de_lengths de_length) sz r0) 0 0 (va_A (wX ty ad co_rows co_marks co_rowSets co_partners co_open co_count tr_kinds tr_lefts tr_rights tr_seconds tr_size gr_kinds gr_nodes gr_rowSets gr_firstStates gr_targetCounts gr_targets gr_stepScores gr_letterScores gr_size tx_letters tx_length va_scores va_knownEnds hi_begins hi_lengths hi_scores hi_taken hi_count de_states de_begins de_lengths de_length) sz) := by
  refine xmet_i rfl (Nat.le_of_ble_eq_true rfl) ?_
  intro p e s m below meth c A ls Q hx hb hml hts hown hK hN hA hP hD hS hl hret
  replace hown : s.vm.findClass R_Fa = some m.cls := hown
  have hl : lv_has ls 1 [(0, .ref (ad 0))] := hl
  rw [f_Fa_build] at hf
  obtain ⟨H, eH⟩ : ∃ H : Heap, H = s.heap := ⟨_, rfl⟩
  obtain ⟨locs, eL⟩ : ∃ L : List Loc, L = [] := ⟨_, rfl⟩
  have hP : va_P (dC, dI) classes (wX ty ad co_rows co_marks co_rowSets co_partners co_open co_count tr_kinds tr_lefts tr_rights tr_seconds tr_size gr_kinds gr_nodes gr_rowSets gr_firstStates gr_targetCounts gr_targets gr_stepScores gr_letterScores gr_size tx_letters tx_length va_scores va_knownEnds hi_begins hi_lengths hi_scores hi_taken hi_count de_states de_begins de_lengths de_length) H := by rw [eH]; exact hP
  have hS : va_S A s.heap H locs := by rw [eH, eL]; exact hS
  rw [← eL]
  suffices hgoal : W p l e rm_Fa_build s m (List.toArray [.ref (ad 0)]) below meth c H locs 0 0 Q (F0 m 0 ls []) by rw [eH] at hgoal; exact hgoal
  clear eH eL
  refine lv_aload_n hx hb d_Fa_build_0 rfl (lv_at hl 0 rfl) ?_
  refine va_get (D := (dC, dI)) (ci := 0) (v := .ref (ad 1)) (C := R_Fa) (T := F_Fa) (N := 7) hx hb hts iw_Fa hown hK hP 0 rfl rfl 0 (by decide) (hts _ m_240) (fun _ h9 => h9) rfl d_Fa_build_1 ?_
  obtain ⟨r1, w2, w3, hc4, hf⟩ := ob3_inv hf
  refine xk_i (xrunV (C := R_Co) (As := []) (rest := []) ⟨hx, hb, hml, hown, hts⟩ (c_Co_pairUp l dC dI ty ad ta H.size co_rows co_marks co_rowSets co_partners co_open co_count tr_kinds tr_lefts tr_rights tr_seconds tr_size gr_kinds gr_nodes gr_rowSets gr_firstStates gr_targetCounts gr_targets gr_stepScores gr_letterScores gr_size tx_letters tx_length va_scores va_knownEnds hi_begins hi_lengths hi_scores hi_taken hi_count de_states de_begins de_lengths de_length  r1 w2 w3 hc4) z_Fa_93 ⟨⟨rfl, rfl⟩, by decide, by decide⟩ hK hP hD hN hS hA (va_recv hK hP (ci := 1) (q0 := 1) rfl rfl) rfl hl.1 rfl (Nat.le_of_ble_eq_true rfl) d_Fa_build_4 ⟨Nat.zero_le _, Nat.zero_le _⟩) hS hD rfl hA (fun H locs hP hD hS => ?_)
  refine W.eq (g2 := F0 m 7 ls [.int r1]) rfl ?_
  refine lv_if_ne (tgt := 13) hx hb d_Fa_build_7 (by decide) (fun c5 => ?_) (fun c5 => ?_)
  · have hf := xif_f c5 hf
    refine lv_aload_n hx hb d_Fa_build_13 rfl (lv_at hl 0 rfl) ?_
    refine va_get (D := (dC, dI)) (ci := 0) (v := .ref (ad 6)) (C := R_Fa) (T := F_Fa) (N := 7) hx hb hts iw_Fa hown hK hP 0 rfl rfl 1 (by decide) (hts _ m_241) (fun _ h9 => h9) rfl d_Fa_build_14 ?_
    obtain ⟨w6, w7, w8, w9, w10, hc11, hf⟩ := ob5_inv hf
    refine xk_v (xrunV (C := R_Tr) (As := []) (rest := []) ⟨hx, hb, hml, hown, hts⟩ (c_Tr_grow l dC dI ty ad ta H.size co_rows co_marks co_rowSets w2 w3 co_count tr_kinds tr_lefts tr_rights tr_seconds tr_size gr_kinds gr_nodes gr_rowSets gr_firstStates gr_targetCounts gr_targets gr_stepScores gr_letterScores gr_size tx_letters tx_length va_scores va_knownEnds hi_begins hi_lengths hi_scores hi_taken hi_count de_states de_begins de_lengths de_length  w6 w7 w8 w9 w10 hc11) z_Fa_97 ⟨⟨rfl, rfl⟩, by decide, by decide⟩ hK hP hD hN hS hA (va_recv hK hP (ci := 2) (q0 := 6) rfl rfl) rfl hl.1 rfl (Nat.le_of_ble_eq_true rfl) d_Fa_build_17 ⟨Nat.zero_le _, Nat.zero_le _⟩) hS hD rfl hA (fun H locs hP hD hS => ?_)
    refine W.eq (g2 := F0 m 20 ls []) rfl ?_
    refine lv_aload_n hx hb d_Fa_build_20 rfl (lv_at hl 0 rfl) ?_
    refine va_get (D := (dC, dI)) (ci := 0) (v := .ref (ad 11)) (C := R_Fa) (T := F_Fa) (N := 7) hx hb hts iw_Fa hown hK hP 0 rfl rfl 2 (by decide) (hts _ m_242) (fun _ h9 => h9) rfl d_Fa_build_21 ?_
    obtain ⟨w12, w13, w14, w15, w16, w17, w18, w19, w20, hc21, hf⟩ := ob9_inv hf
    refine xk_v (xrunV (C := R_Gr) (As := []) (rest := []) ⟨hx, hb, hml, hown, hts⟩ (c_Gr_make l dC dI ty ad ta H.size co_rows co_marks co_rowSets w2 w3 co_count w6 w7 w8 w9 w10 gr_kinds gr_nodes gr_rowSets gr_firstStates gr_targetCounts gr_targets gr_stepScores gr_letterScores gr_size tx_letters tx_length va_scores va_knownEnds hi_begins hi_lengths hi_scores hi_taken hi_count de_states de_begins de_lengths de_length  w12 w13 w14 w15 w16 w17 w18 w19 w20 hc21) z_Fa_100 ⟨⟨rfl, rfl⟩, by decide, by decide⟩ hK hP hD hN hS hA (va_recv hK hP (ci := 3) (q0 := 11) rfl rfl) rfl hl.1 rfl (Nat.le_of_ble_eq_true rfl) d_Fa_build_24 ⟨Nat.zero_le _, Nat.zero_le _⟩) hS hD rfl hA (fun H locs hP hD hS => ?_)
    refine W.eq (g2 := F0 m 27 ls []) rfl ?_
    refine lv_aload_n hx hb d_Fa_build_27 rfl (lv_at hl 0 rfl) ?_
    refine va_get (D := (dC, dI)) (ci := 0) (v := .ref (ad 22)) (C := R_Fa) (T := F_Fa) (N := 7) hx hb hts iw_Fa hown hK hP 0 rfl rfl 4 (by decide) (hts _ m_244) (fun _ h9 => h9) rfl d_Fa_build_28 ?_
    obtain ⟨w22, hc23, hf⟩ := ob1_inv hf
    refine xk_v (xrunV (C := R_Va) (As := []) (rest := []) ⟨hx, hb, hml, hown, hts⟩ (c_Va_forget l dC dI ty ad ta H.size co_rows co_marks co_rowSets w2 w3 co_count w6 w7 w8 w9 w10 w12 w13 w14 w15 w16 w17 w18 w19 w20 tx_letters tx_length va_scores va_knownEnds hi_begins hi_lengths hi_scores hi_taken hi_count de_states de_begins de_lengths de_length  w22 hc23) z_Fa_103 ⟨⟨rfl, rfl⟩, by decide, by decide⟩ hK hP hD hN hS hA (va_recv hK hP (ci := 5) (q0 := 22) rfl rfl) rfl hl.1 rfl (Nat.le_of_ble_eq_true rfl) d_Fa_build_31 ⟨Nat.zero_le _, Nat.zero_le _⟩) hS hD rfl hA (fun H locs hP hD hS => ?_)
    refine W.eq (g2 := F0 m 34 ls []) rfl ?_
    refine lv_aload_n hx hb d_Fa_build_34 rfl (lv_at hl 0 rfl) ?_
    refine va_get (D := (dC, dI)) (ci := 0) (v := .ref (ad 24)) (C := R_Fa) (T := F_Fa) (N := 7) hx hb hts iw_Fa hown hK hP 0 rfl rfl 5 (by decide) (hts _ m_245) (fun _ h9 => h9) rfl d_Fa_build_35 ?_
    obtain ⟨w24, hc25, hf⟩ := ob1_inv hf
    refine xk_v (xrunV (C := R_Hi) (As := []) (rest := []) ⟨hx, hb, hml, hown, hts⟩ (c_Hi_forget l dC dI ty ad ta H.size co_rows co_marks co_rowSets w2 w3 co_count w6 w7 w8 w9 w10 w12 w13 w14 w15 w16 w17 w18 w19 w20 tx_letters tx_length va_scores w22 hi_begins hi_lengths hi_scores hi_taken hi_count de_states de_begins de_lengths de_length  w24 hc25) z_Fa_106 ⟨⟨rfl, rfl⟩, by decide, by decide⟩ hK hP hD hN hS hA (va_recv hK hP (ci := 6) (q0 := 24) rfl rfl) rfl hl.1 rfl (Nat.le_of_ble_eq_true rfl) d_Fa_build_38 ⟨Nat.zero_le _, Nat.zero_le _⟩) hS hD rfl hA (fun H locs hP hD hS => ?_)
    refine W.eq (g2 := F0 m 41 ls []) rfl ?_
    refine lv_aload_n hx hb d_Fa_build_41 rfl (lv_at hl 0 rfl) ?_
    refine va_get (D := (dC, dI)) (ci := 0) (v := .ref (ad 11)) (C := R_Fa) (T := F_Fa) (N := 7) hx hb hts iw_Fa hown hK hP 0 rfl rfl 2 (by decide) (hts _ m_242) (fun _ h9 => h9) rfl d_Fa_build_42 ?_
    obtain ⟨r26, hc27, hf⟩ := ob1_inv hf
    refine xk_i (xrunV (C := R_Gr) (As := []) (rest := []) ⟨hx, hb, hml, hown, hts⟩ (c_Gr_size l dC dI ty ad ta H.size co_rows co_marks co_rowSets w2 w3 co_count w6 w7 w8 w9 w10 w12 w13 w14 w15 w16 w17 w18 w19 w20 tx_letters tx_length va_scores w22 hi_begins hi_lengths hi_scores hi_taken w24 de_states de_begins de_lengths de_length  r26 hc27) z_Fa_107 ⟨⟨rfl, rfl⟩, by decide, by decide⟩ hK hP hD hN hS hA (va_recv hK hP (ci := 3) (q0 := 11) rfl rfl) rfl hl.1 rfl (Nat.le_of_ble_eq_true rfl) d_Fa_build_45 ⟨Nat.zero_le _, Nat.zero_le _⟩) hS hD rfl hA (fun H locs hP hD hS => ?_)
    refine W.eq (g2 := F0 m 48 ls [.int r26]) rfl ?_
    obtain ⟨rfl, rfl, rfl, rfl, rfl, rfl, rfl, rfl, rfl, rfl, rfl, rfl, rfl, rfl, rfl, rfl, rfl, rfl, rfl⟩ := os19 hf
    exact hret H locs _ _ _ d_Fa_build_48 rfl hP hS
  · have hf := xif_t c5 hf
    refine lv_ldc (v := -1000000) hx hb hown (hts _ m_308) d_Fa_build_10 ?_
    obtain ⟨rfl, rfl, rfl, rfl, rfl, rfl, rfl, rfl, rfl, rfl, rfl, rfl, rfl, rfl, rfl, rfl, rfl, rfl, rfl⟩ := os19 hf
    exact hret H locs _ _ _ d_Fa_build_12 rfl hP hS
def f_Gr_hasState (gr_size : Int32) (a1 : Int32) : Option (Int32) := if a1 < (0 : Int32) then (some ((0 : Int32))) else (if gr_size ≤ a1 then (some ((0 : Int32))) else (some ((1 : Int32))))
set_option maxHeartbeats 4000000 in
set_option maxRecDepth 100000 in
theorem c_Gr_hasState (l : Launch) (dC : Nat → ClassId) (dI : Nat → Nat → Nat) (ty : Nat → ClassId) (ad : Nat → Nat) (ta : Nat → Nat) (sz : Nat) (co_rows : Int32) (co_marks : (Nat → Int32)) (co_rowSets : (Nat → Int32)) (co_partners : (Nat → Int32)) (co_open : (Nat → Int32)) (co_count : Int32) (tr_kinds : (Nat → Int32)) (tr_lefts : (Nat → Int32)) (tr_rights : (Nat → Int32)) (tr_seconds : (Nat → Int32)) (tr_size : Int32) (gr_kinds : (Nat → Int32)) (gr_nodes : (Nat → Int32)) (gr_rowSets : (Nat → Int32)) (gr_firstStates : (Nat → Int32)) (gr_targetCounts : (Nat → Int32)) (gr_targets : (Nat → Int32)) (gr_stepScores : (Nat → Int32)) (gr_letterScores : (Nat → Int32)) (gr_size : Int32) (tx_letters : (Nat → Int32)) (tx_length : Int32) (va_scores : (Nat → Int32)) (va_knownEnds : Int32) (hi_begins : (Nat → Int32)) (hi_lengths : (Nat → Int32)) (hi_scores : (Nat → Int32)) (hi_taken : (Nat → Int32)) (hi_count : Int32) (de_states : (Nat → Int32)) (de_begins : (Nat → Int32)) (de_lengths : (Nat → Int32)) (de_length : Int32) (a1 : Int32) (r0 : Int32) (hf : f_Gr_hasState gr_size a1 = some (r0)) : Met l y_Gr_hasState (.code y_Gr_hasState prog_4_method_4_code 2 (some .boolean) :: gw) rm_Gr_hasState (xPre ta (dC, dI) classes (tys3 ty) (wX ty ad co_rows co_marks co_rowSets co_partners co_open co_count tr_kinds tr_lefts tr_rights tr_seconds tr_size gr_kinds gr_nodes gr_rowSets gr_firstStates gr_targetCounts gr_targets gr_stepScores gr_letterScores gr_size tx_letters tx_length va_scores va_knownEnds hi_begins hi_lengths hi_scores hi_taken hi_count de_states de_begins de_lengths de_length) sz [.ref (ad 11), .int a1]) (xQi (dC, dI) classes (wX ty ad co_rows co_marks co_rowSets co_partners co_open co_count tr_kinds tr_lefts tr_rights tr_seconds tr_size gr_kinds gr_nodes gr_rowSets gr_firstStates gr_targetCounts gr_targets gr_stepScores gr_letterScores gr_size tx_letters tx_length va_scores va_knownEnds hi_begins hi_lengths hi_scores hi_taken hi_count de_states de_begins de_lengths de_length) (wX ty ad co_rows co_marks co_rowSets co_partners co_open co_count tr_kinds tr_lefts tr_rights tr_seconds tr_size gr_kinds gr_nodes gr_rowSets gr_firstStates gr_targetCounts gr_targets gr_stepScores gr_letterScores gr_size tx_letters tx_length va_scores va_knownEnds hi_begins hi_lengths hi_scores hi_taken hi_count de_states de_begins de_lengths de_length) sz r0) 0 0 (va_A (wX ty ad co_rows co_marks co_rowSets co_partners co_open co_count tr_kinds tr_lefts tr_rights tr_seconds tr_size gr_kinds gr_nodes gr_rowSets gr_firstStates gr_targetCounts gr_targets gr_stepScores gr_letterScores gr_size tx_letters tx_length va_scores va_knownEnds hi_begins hi_lengths hi_scores hi_taken hi_count de_states de_begins de_lengths de_length) sz) := by
  refine xmet_z rfl (Nat.le_of_ble_eq_true rfl) ?_
  intro p e s m below meth c A ls Q hx hb hml hts hown hK hN hA hP hD hS hl hret
  replace hown : s.vm.findClass R_Gr = some m.cls := hown
  have hl : lv_has ls 2 [(0, .ref (ad 11)), (1, .int a1)] := hl
  rw [f_Gr_hasState] at hf
  obtain ⟨H, eH⟩ : ∃ H : Heap, H = s.heap := ⟨_, rfl⟩
  obtain ⟨locs, eL⟩ : ∃ L : List Loc, L = [] := ⟨_, rfl⟩
  have hP : va_P (dC, dI) classes (wX ty ad co_rows co_marks co_rowSets co_partners co_open co_count tr_kinds tr_lefts tr_rights tr_seconds tr_size gr_kinds gr_nodes gr_rowSets gr_firstStates gr_targetCounts gr_targets gr_stepScores gr_letterScores gr_size tx_letters tx_length va_scores va_knownEnds hi_begins hi_lengths hi_scores hi_taken hi_count de_states de_begins de_lengths de_length) H := by rw [eH]; exact hP
  have hS : va_S A s.heap H locs := by rw [eH, eL]; exact hS
  rw [← eL]
  suffices hgoal : W p l e rm_Gr_hasState s m (List.toArray [.ref (ad 11), .int a1]) below meth c H locs 0 0 Q (F0 m 0 ls []) by rw [eH] at hgoal; exact hgoal
  clear eH eL
  refine lv_iload_n hx hb d_Gr_hasState_0 rfl (lv_at hl 1 rfl) ?_
  refine lv_if_lt (tgt := 16) hx hb d_Gr_hasState_1 (by decide) (fun c1 => ?_) (fun c1 => ?_)
  · have hf := xif_t c1 hf
    refine lv_iconst (v := 0) hx hb d_Gr_hasState_16 (by decide) ?_
    obtain rfl := os1 hf
    exact hret H locs _ _ _ d_Gr_hasState_17 rfl rfl hP hS
  · have hf := xif_f c1 hf
    refine lv_iload_n hx hb d_Gr_hasState_4 rfl (lv_at hl 1 rfl) ?_
    refine lv_aload_n hx hb d_Gr_hasState_5 rfl (lv_at hl 0 rfl) ?_
    refine va_get (D := (dC, dI)) (ci := 3) (v := .int gr_size) (C := R_Gr) (T := F_Gr) (N := 11) hx hb hts iw_Gr hown hK hP 11 rfl rfl 10 (by decide) (hts _ m_142) (fun _ h9 => h9) rfl d_Gr_hasState_6 ?_
    refine lv_icmp_ge (tgt := 16) hx hb d_Gr_hasState_9 (by decide) (fun c2 => ?_) (fun c2 => ?_)
    · have hf := xif_t c2 hf
      refine lv_iconst (v := 0) hx hb d_Gr_hasState_16 (by decide) ?_
      obtain rfl := os1 hf
      exact hret H locs _ _ _ d_Gr_hasState_17 rfl rfl hP hS
    · have hf := xif_f c2 hf
      refine lv_iconst (v := 1) hx hb d_Gr_hasState_12 (by decide) ?_
      refine lv_goto (tgt := 17) hx hb d_Gr_hasState_13 (by decide) ?_
      obtain rfl := os1 hf
      exact hret H locs _ _ _ d_Gr_hasState_17 rfl rfl hP hS
def f_Gr_kindOf (gr_kinds : (Nat → Int32)) (a1 : Int32) : Option (Int32) := gd (xin a1 43) (some ((gr_kinds (Int32.toNatClampNeg a1))))
set_option maxHeartbeats 4000000 in
set_option maxRecDepth 100000 in
theorem c_Gr_kindOf (l : Launch) (dC : Nat → ClassId) (dI : Nat → Nat → Nat) (ty : Nat → ClassId) (ad : Nat → Nat) (ta : Nat → Nat) (sz : Nat) (co_rows : Int32) (co_marks : (Nat → Int32)) (co_rowSets : (Nat → Int32)) (co_partners : (Nat → Int32)) (co_open : (Nat → Int32)) (co_count : Int32) (tr_kinds : (Nat → Int32)) (tr_lefts : (Nat → Int32)) (tr_rights : (Nat → Int32)) (tr_seconds : (Nat → Int32)) (tr_size : Int32) (gr_kinds : (Nat → Int32)) (gr_nodes : (Nat → Int32)) (gr_rowSets : (Nat → Int32)) (gr_firstStates : (Nat → Int32)) (gr_targetCounts : (Nat → Int32)) (gr_targets : (Nat → Int32)) (gr_stepScores : (Nat → Int32)) (gr_letterScores : (Nat → Int32)) (gr_size : Int32) (tx_letters : (Nat → Int32)) (tx_length : Int32) (va_scores : (Nat → Int32)) (va_knownEnds : Int32) (hi_begins : (Nat → Int32)) (hi_lengths : (Nat → Int32)) (hi_scores : (Nat → Int32)) (hi_taken : (Nat → Int32)) (hi_count : Int32) (de_states : (Nat → Int32)) (de_begins : (Nat → Int32)) (de_lengths : (Nat → Int32)) (de_length : Int32) (a1 : Int32) (r0 : Int32) (hf : f_Gr_kindOf gr_kinds a1 = some (r0)) : Met l y_Gr_kindOf (.code y_Gr_kindOf prog_4_method_5_code 2 (some .int) :: gw) rm_Gr_kindOf (xPre ta (dC, dI) classes (tys3 ty) (wX ty ad co_rows co_marks co_rowSets co_partners co_open co_count tr_kinds tr_lefts tr_rights tr_seconds tr_size gr_kinds gr_nodes gr_rowSets gr_firstStates gr_targetCounts gr_targets gr_stepScores gr_letterScores gr_size tx_letters tx_length va_scores va_knownEnds hi_begins hi_lengths hi_scores hi_taken hi_count de_states de_begins de_lengths de_length) sz [.ref (ad 11), .int a1]) (xQi (dC, dI) classes (wX ty ad co_rows co_marks co_rowSets co_partners co_open co_count tr_kinds tr_lefts tr_rights tr_seconds tr_size gr_kinds gr_nodes gr_rowSets gr_firstStates gr_targetCounts gr_targets gr_stepScores gr_letterScores gr_size tx_letters tx_length va_scores va_knownEnds hi_begins hi_lengths hi_scores hi_taken hi_count de_states de_begins de_lengths de_length) (wX ty ad co_rows co_marks co_rowSets co_partners co_open co_count tr_kinds tr_lefts tr_rights tr_seconds tr_size gr_kinds gr_nodes gr_rowSets gr_firstStates gr_targetCounts gr_targets gr_stepScores gr_letterScores gr_size tx_letters tx_length va_scores va_knownEnds hi_begins hi_lengths hi_scores hi_taken hi_count de_states de_begins de_lengths de_length) sz r0) 0 0 (va_A (wX ty ad co_rows co_marks co_rowSets co_partners co_open co_count tr_kinds tr_lefts tr_rights tr_seconds tr_size gr_kinds gr_nodes gr_rowSets gr_firstStates gr_targetCounts gr_targets gr_stepScores gr_letterScores gr_size tx_letters tx_length va_scores va_knownEnds hi_begins hi_lengths hi_scores hi_taken hi_count de_states de_begins de_lengths de_length) sz) := by
  refine xmet_i rfl (Nat.le_of_ble_eq_true rfl) ?_
  intro p e s m below meth c A ls Q hx hb hml hts hown hK hN hA hP hD hS hl hret
  replace hown : s.vm.findClass R_Gr = some m.cls := hown
  have hl : lv_has ls 2 [(0, .ref (ad 11)), (1, .int a1)] := hl
  rw [f_Gr_kindOf] at hf
  obtain ⟨H, eH⟩ : ∃ H : Heap, H = s.heap := ⟨_, rfl⟩
  obtain ⟨locs, eL⟩ : ∃ L : List Loc, L = [] := ⟨_, rfl⟩
  have hP : va_P (dC, dI) classes (wX ty ad co_rows co_marks co_rowSets co_partners co_open co_count tr_kinds tr_lefts tr_rights tr_seconds tr_size gr_kinds gr_nodes gr_rowSets gr_firstStates gr_targetCounts gr_targets gr_stepScores gr_letterScores gr_size tx_letters tx_length va_scores va_knownEnds hi_begins hi_lengths hi_scores hi_taken hi_count de_states de_begins de_lengths de_length) H := by rw [eH]; exact hP
  have hS : va_S A s.heap H locs := by rw [eH, eL]; exact hS
  rw [← eL]
  suffices hgoal : W p l e rm_Gr_kindOf s m (List.toArray [.ref (ad 11), .int a1]) below meth c H locs 0 0 Q (F0 m 0 ls []) by rw [eH] at hgoal; exact hgoal
  clear eH eL
  refine lv_aload_n hx hb d_Gr_kindOf_0 rfl (lv_at hl 0 rfl) ?_
  refine va_get (D := (dC, dI)) (ci := 3) (v := .ref (ad 12)) (C := R_Gr) (T := F_Gr) (N := 11) hx hb hts iw_Gr hown hK hP 11 rfl rfl 2 (by decide) (hts _ m_134) (fun _ h9 => h9) rfl d_Gr_kindOf_1 ?_
  refine lv_iload_n hx hb d_Gr_kindOf_4 rfl (lv_at hl 1 rfl) ?_
  obtain ⟨hi1, hf⟩ := gdi hf
  refine va_iald hx hb hK hP 12 0 rfl rfl hi1 d_Gr_kindOf_5 ?_
  obtain rfl := os1 hf
  exact hret H locs _ _ _ d_Gr_kindOf_6 rfl hP hS
def f_Fa_kind (gr_kinds : (Nat → Int32)) (gr_size : Int32) (a1 : Int32) : Option (Int32) := ob1 (f_Gr_hasState gr_size a1) (fun r1 => if r1 = (0 : Int32) then (some ((-1000000 : Int32))) else (ob1 (f_Gr_kindOf gr_kinds a1) (fun r4 => some (r4))))
set_option maxHeartbeats 4000000 in
set_option maxRecDepth 100000 in
theorem c_Fa_kind (l : Launch) (dC : Nat → ClassId) (dI : Nat → Nat → Nat) (ty : Nat → ClassId) (ad : Nat → Nat) (ta : Nat → Nat) (sz : Nat) (co_rows : Int32) (co_marks : (Nat → Int32)) (co_rowSets : (Nat → Int32)) (co_partners : (Nat → Int32)) (co_open : (Nat → Int32)) (co_count : Int32) (tr_kinds : (Nat → Int32)) (tr_lefts : (Nat → Int32)) (tr_rights : (Nat → Int32)) (tr_seconds : (Nat → Int32)) (tr_size : Int32) (gr_kinds : (Nat → Int32)) (gr_nodes : (Nat → Int32)) (gr_rowSets : (Nat → Int32)) (gr_firstStates : (Nat → Int32)) (gr_targetCounts : (Nat → Int32)) (gr_targets : (Nat → Int32)) (gr_stepScores : (Nat → Int32)) (gr_letterScores : (Nat → Int32)) (gr_size : Int32) (tx_letters : (Nat → Int32)) (tx_length : Int32) (va_scores : (Nat → Int32)) (va_knownEnds : Int32) (hi_begins : (Nat → Int32)) (hi_lengths : (Nat → Int32)) (hi_scores : (Nat → Int32)) (hi_taken : (Nat → Int32)) (hi_count : Int32) (de_states : (Nat → Int32)) (de_begins : (Nat → Int32)) (de_lengths : (Nat → Int32)) (de_length : Int32) (a1 : Int32) (r0 : Int32) (hf : f_Fa_kind gr_kinds gr_size a1 = some (r0)) : Met l y_Fa_kind (.code y_Fa_kind prog_1_method_5_code 2 (some .int) :: gw) rm_Fa_kind (xPre ta (dC, dI) classes (tys3 ty) (wX ty ad co_rows co_marks co_rowSets co_partners co_open co_count tr_kinds tr_lefts tr_rights tr_seconds tr_size gr_kinds gr_nodes gr_rowSets gr_firstStates gr_targetCounts gr_targets gr_stepScores gr_letterScores gr_size tx_letters tx_length va_scores va_knownEnds hi_begins hi_lengths hi_scores hi_taken hi_count de_states de_begins de_lengths de_length) sz [.ref (ad 0), .int a1]) (xQi (dC, dI) classes (wX ty ad co_rows co_marks co_rowSets co_partners co_open co_count tr_kinds tr_lefts tr_rights tr_seconds tr_size gr_kinds gr_nodes gr_rowSets gr_firstStates gr_targetCounts gr_targets gr_stepScores gr_letterScores gr_size tx_letters tx_length va_scores va_knownEnds hi_begins hi_lengths hi_scores hi_taken hi_count de_states de_begins de_lengths de_length) (wX ty ad co_rows co_marks co_rowSets co_partners co_open co_count tr_kinds tr_lefts tr_rights tr_seconds tr_size gr_kinds gr_nodes gr_rowSets gr_firstStates gr_targetCounts gr_targets gr_stepScores gr_letterScores gr_size tx_letters tx_length va_scores va_knownEnds hi_begins hi_lengths hi_scores hi_taken hi_count de_states de_begins de_lengths de_length) sz r0) 0 0 (va_A (wX ty ad co_rows co_marks co_rowSets co_partners co_open co_count tr_kinds tr_lefts tr_rights tr_seconds tr_size gr_kinds gr_nodes gr_rowSets gr_firstStates gr_targetCounts gr_targets gr_stepScores gr_letterScores gr_size tx_letters tx_length va_scores va_knownEnds hi_begins hi_lengths hi_scores hi_taken hi_count de_states de_begins de_lengths de_length) sz) := by
  refine xmet_i rfl (Nat.le_of_ble_eq_true rfl) ?_
  intro p e s m below meth c A ls Q hx hb hml hts hown hK hN hA hP hD hS hl hret
  replace hown : s.vm.findClass R_Fa = some m.cls := hown
  have hl : lv_has ls 2 [(0, .ref (ad 0)), (1, .int a1)] := hl
  rw [f_Fa_kind] at hf
  obtain ⟨H, eH⟩ : ∃ H : Heap, H = s.heap := ⟨_, rfl⟩
  obtain ⟨locs, eL⟩ : ∃ L : List Loc, L = [] := ⟨_, rfl⟩
  have hP : va_P (dC, dI) classes (wX ty ad co_rows co_marks co_rowSets co_partners co_open co_count tr_kinds tr_lefts tr_rights tr_seconds tr_size gr_kinds gr_nodes gr_rowSets gr_firstStates gr_targetCounts gr_targets gr_stepScores gr_letterScores gr_size tx_letters tx_length va_scores va_knownEnds hi_begins hi_lengths hi_scores hi_taken hi_count de_states de_begins de_lengths de_length) H := by rw [eH]; exact hP
  have hS : va_S A s.heap H locs := by rw [eH, eL]; exact hS
  rw [← eL]
  suffices hgoal : W p l e rm_Fa_kind s m (List.toArray [.ref (ad 0), .int a1]) below meth c H locs 0 0 Q (F0 m 0 ls []) by rw [eH] at hgoal; exact hgoal
  clear eH eL
  refine lv_aload_n hx hb d_Fa_kind_0 rfl (lv_at hl 0 rfl) ?_
  refine va_get (D := (dC, dI)) (ci := 0) (v := .ref (ad 11)) (C := R_Fa) (T := F_Fa) (N := 7) hx hb hts iw_Fa hown hK hP 0 rfl rfl 2 (by decide) (hts _ m_242) (fun _ h9 => h9) rfl d_Fa_kind_1 ?_
  refine lv_iload_n hx hb d_Fa_kind_4 rfl (lv_at hl 1 rfl) ?_
  obtain ⟨r1, hc2, hf⟩ := ob1_inv hf
  refine xk_i (xrunV (C := R_Gr) (As := [.int a1]) (rest := []) ⟨hx, hb, hml, hown, hts⟩ (c_Gr_hasState l dC dI ty ad ta H.size co_rows co_marks co_rowSets co_partners co_open co_count tr_kinds tr_lefts tr_rights tr_seconds tr_size gr_kinds gr_nodes gr_rowSets gr_firstStates gr_targetCounts gr_targets gr_stepScores gr_letterScores gr_size tx_letters tx_length va_scores va_knownEnds hi_begins hi_lengths hi_scores hi_taken hi_count de_states de_begins de_lengths de_length a1 r1 hc2) z_Fa_111 ⟨⟨rfl, rfl⟩, by decide, by decide⟩ hK hP hD hN hS hA (va_recv hK hP (ci := 3) (q0 := 11) rfl rfl) rfl hl.1 rfl (Nat.le_of_ble_eq_true rfl) d_Fa_kind_5 ⟨Nat.zero_le _, Nat.zero_le _⟩) hS hD rfl hA (fun H locs hP hD hS => ?_)
  refine W.eq (g2 := F0 m 8 ls [.int r1]) rfl ?_
  refine lv_if_eq (tgt := 22) hx hb d_Fa_kind_8 (by decide) (fun c3 => ?_) (fun c3 => ?_)
  · have hf := xif_t c3 hf
    refine lv_ldc (v := -1000000) hx hb hown (hts _ m_308) d_Fa_kind_22 ?_
    obtain rfl := os1 hf
    exact hret H locs _ _ _ d_Fa_kind_24 rfl hP hS
  · have hf := xif_f c3 hf
    refine lv_aload_n hx hb d_Fa_kind_11 rfl (lv_at hl 0 rfl) ?_
    refine va_get (D := (dC, dI)) (ci := 0) (v := .ref (ad 11)) (C := R_Fa) (T := F_Fa) (N := 7) hx hb hts iw_Fa hown hK hP 0 rfl rfl 2 (by decide) (hts _ m_242) (fun _ h9 => h9) rfl d_Fa_kind_12 ?_
    refine lv_iload_n hx hb d_Fa_kind_15 rfl (lv_at hl 1 rfl) ?_
    obtain ⟨r4, hc5, hf⟩ := ob1_inv hf
    refine xk_i (xrunV (C := R_Gr) (As := [.int a1]) (rest := []) ⟨hx, hb, hml, hown, hts⟩ (c_Gr_kindOf l dC dI ty ad ta H.size co_rows co_marks co_rowSets co_partners co_open co_count tr_kinds tr_lefts tr_rights tr_seconds tr_size gr_kinds gr_nodes gr_rowSets gr_firstStates gr_targetCounts gr_targets gr_stepScores gr_letterScores gr_size tx_letters tx_length va_scores va_knownEnds hi_begins hi_lengths hi_scores hi_taken hi_count de_states de_begins de_lengths de_length a1 r4 hc5) z_Fa_115 ⟨⟨rfl, rfl⟩, by decide, by decide⟩ hK hP hD hN hS hA (va_recv hK hP (ci := 3) (q0 := 11) rfl rfl) rfl hl.1 rfl (Nat.le_of_ble_eq_true rfl) d_Fa_kind_16 ⟨Nat.zero_le _, Nat.zero_le _⟩) hS hD rfl hA (fun H locs hP hD hS => ?_)
    refine W.eq (g2 := F0 m 19 ls [.int r4]) rfl ?_
    refine lv_goto (tgt := 24) hx hb d_Fa_kind_19 (by decide) ?_
    obtain rfl := os1 hf
    exact hret H locs _ _ _ d_Fa_kind_24 rfl hP hS
def f_Gr_nodeOf (gr_nodes : (Nat → Int32)) (a1 : Int32) : Option (Int32) := gd (xin a1 43) (some ((gr_nodes (Int32.toNatClampNeg a1))))
set_option maxHeartbeats 4000000 in
set_option maxRecDepth 100000 in
theorem c_Gr_nodeOf (l : Launch) (dC : Nat → ClassId) (dI : Nat → Nat → Nat) (ty : Nat → ClassId) (ad : Nat → Nat) (ta : Nat → Nat) (sz : Nat) (co_rows : Int32) (co_marks : (Nat → Int32)) (co_rowSets : (Nat → Int32)) (co_partners : (Nat → Int32)) (co_open : (Nat → Int32)) (co_count : Int32) (tr_kinds : (Nat → Int32)) (tr_lefts : (Nat → Int32)) (tr_rights : (Nat → Int32)) (tr_seconds : (Nat → Int32)) (tr_size : Int32) (gr_kinds : (Nat → Int32)) (gr_nodes : (Nat → Int32)) (gr_rowSets : (Nat → Int32)) (gr_firstStates : (Nat → Int32)) (gr_targetCounts : (Nat → Int32)) (gr_targets : (Nat → Int32)) (gr_stepScores : (Nat → Int32)) (gr_letterScores : (Nat → Int32)) (gr_size : Int32) (tx_letters : (Nat → Int32)) (tx_length : Int32) (va_scores : (Nat → Int32)) (va_knownEnds : Int32) (hi_begins : (Nat → Int32)) (hi_lengths : (Nat → Int32)) (hi_scores : (Nat → Int32)) (hi_taken : (Nat → Int32)) (hi_count : Int32) (de_states : (Nat → Int32)) (de_begins : (Nat → Int32)) (de_lengths : (Nat → Int32)) (de_length : Int32) (a1 : Int32) (r0 : Int32) (hf : f_Gr_nodeOf gr_nodes a1 = some (r0)) : Met l y_Gr_nodeOf (.code y_Gr_nodeOf prog_4_method_6_code 2 (some .int) :: gw) rm_Gr_nodeOf (xPre ta (dC, dI) classes (tys3 ty) (wX ty ad co_rows co_marks co_rowSets co_partners co_open co_count tr_kinds tr_lefts tr_rights tr_seconds tr_size gr_kinds gr_nodes gr_rowSets gr_firstStates gr_targetCounts gr_targets gr_stepScores gr_letterScores gr_size tx_letters tx_length va_scores va_knownEnds hi_begins hi_lengths hi_scores hi_taken hi_count de_states de_begins de_lengths de_length) sz [.ref (ad 11), .int a1]) (xQi (dC, dI) classes (wX ty ad co_rows co_marks co_rowSets co_partners co_open co_count tr_kinds tr_lefts tr_rights tr_seconds tr_size gr_kinds gr_nodes gr_rowSets gr_firstStates gr_targetCounts gr_targets gr_stepScores gr_letterScores gr_size tx_letters tx_length va_scores va_knownEnds hi_begins hi_lengths hi_scores hi_taken hi_count de_states de_begins de_lengths de_length) (wX ty ad co_rows co_marks co_rowSets co_partners co_open co_count tr_kinds tr_lefts tr_rights tr_seconds tr_size gr_kinds gr_nodes gr_rowSets gr_firstStates gr_targetCounts gr_targets gr_stepScores gr_letterScores gr_size tx_letters tx_length va_scores va_knownEnds hi_begins hi_lengths hi_scores hi_taken hi_count de_states de_begins de_lengths de_length) sz r0) 0 0 (va_A (wX ty ad co_rows co_marks co_rowSets co_partners co_open co_count tr_kinds tr_lefts tr_rights tr_seconds tr_size gr_kinds gr_nodes gr_rowSets gr_firstStates gr_targetCounts gr_targets gr_stepScores gr_letterScores gr_size tx_letters tx_length va_scores va_knownEnds hi_begins hi_lengths hi_scores hi_taken hi_count de_states de_begins de_lengths de_length) sz) := by
  refine xmet_i rfl (Nat.le_of_ble_eq_true rfl) ?_
  intro p e s m below meth c A ls Q hx hb hml hts hown hK hN hA hP hD hS hl hret
  replace hown : s.vm.findClass R_Gr = some m.cls := hown
  have hl : lv_has ls 2 [(0, .ref (ad 11)), (1, .int a1)] := hl
  rw [f_Gr_nodeOf] at hf
  obtain ⟨H, eH⟩ : ∃ H : Heap, H = s.heap := ⟨_, rfl⟩
  obtain ⟨locs, eL⟩ : ∃ L : List Loc, L = [] := ⟨_, rfl⟩
  have hP : va_P (dC, dI) classes (wX ty ad co_rows co_marks co_rowSets co_partners co_open co_count tr_kinds tr_lefts tr_rights tr_seconds tr_size gr_kinds gr_nodes gr_rowSets gr_firstStates gr_targetCounts gr_targets gr_stepScores gr_letterScores gr_size tx_letters tx_length va_scores va_knownEnds hi_begins hi_lengths hi_scores hi_taken hi_count de_states de_begins de_lengths de_length) H := by rw [eH]; exact hP
  have hS : va_S A s.heap H locs := by rw [eH, eL]; exact hS
  rw [← eL]
  suffices hgoal : W p l e rm_Gr_nodeOf s m (List.toArray [.ref (ad 11), .int a1]) below meth c H locs 0 0 Q (F0 m 0 ls []) by rw [eH] at hgoal; exact hgoal
  clear eH eL
  refine lv_aload_n hx hb d_Gr_nodeOf_0 rfl (lv_at hl 0 rfl) ?_
  refine va_get (D := (dC, dI)) (ci := 3) (v := .ref (ad 13)) (C := R_Gr) (T := F_Gr) (N := 11) hx hb hts iw_Gr hown hK hP 11 rfl rfl 3 (by decide) (hts _ m_135) (fun _ h9 => h9) rfl d_Gr_nodeOf_1 ?_
  refine lv_iload_n hx hb d_Gr_nodeOf_4 rfl (lv_at hl 1 rfl) ?_
  obtain ⟨hi1, hf⟩ := gdi hf
  refine va_iald hx hb hK hP 13 0 rfl rfl hi1 d_Gr_nodeOf_5 ?_
  obtain rfl := os1 hf
  exact hret H locs _ _ _ d_Gr_nodeOf_6 rfl hP hS
