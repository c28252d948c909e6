/-! pure functions and contracts of Fa_derived (written by wip/gen) -/
def f_Fa_derived (gr_kinds : (Nat → Int32)) (gr_targetCounts : (Nat → Int32)) (gr_targets : (Nat → Int32)) (gr_stepScores : (Nat → Int32)) (gr_letterScores : (Nat → Int32)) (tx_letters : (Nat → Int32)) (va_scores : (Nat → Int32)) (hi_begins : (Nat → Int32)) (hi_lengths : (Nat → Int32)) (hi_count : Int32) (de_states : (Nat → Int32)) (de_begins : (Nat → Int32)) (de_lengths : (Nat → Int32)) (de_length : Int32) (a1 : Int32) (a2 : Int32) (a3 : Int32) : Option (Int32 × (Nat → Int32) × (Nat → Int32) × (Nat → Int32) × Int32) := ob1 (f_Hi_has hi_count a1) (fun r1 => if r1 = (0 : Int32) then (some ((-1000000 : Int32), de_states, de_begins, de_lengths, de_length)) else (ob1 (f_Hi_begin hi_begins a1) (fun r4 => ob1 (f_Hi_letters hi_lengths a1) (fun r6 => ob4 (f_De_write gr_kinds gr_targetCounts gr_targets gr_stepScores gr_letterScores tx_letters va_scores de_states de_begins de_lengths de_length r4 r6) (fun w8 w9 w10 w11 => if a2 < (0 : Int32) then (some ((-1000000 : Int32), w8, w9, w10, w11)) else (ob1 (f_De_length w11) (fun r14 => if a2 < r14 then (if a3 = (0 : Int32) then (ob1 (f_De_state w8 a2) (fun r18 => some (r18, w8, w9, w10, w11))) else (if a3 = (1 : Int32) then (ob1 (f_De_begin w9 a2) (fun r21 => some (r21, w8, w9, w10, w11))) else (if a3 = (2 : Int32) then (ob1 (f_De_letters w10 a2) (fun r24 => some (r24, w8, w9, w10, w11))) else (some ((-1000000 : Int32), w8, w9, w10, w11))))) else (some ((-1000000 : Int32), w8, w9, w10, w11)))))))))
set_option maxHeartbeats 4000000 in
set_option maxRecDepth 100000 in
theorem c_Fa_derived (l : Launch) (dC : Nat → ClassId) (dI : Nat → Nat → Nat) (ty : Nat → ClassId) (ad : Nat → Nat) (sz : Nat) (co_rows : Int32) (co_marks : (Nat → Int32)) (co_rowSets : (Nat → Int32)) (co_partners : (Nat → Int32)) (co_open : (Nat → Int32)) (co_count : Int32) (tr_kinds : (Nat → Int32)) (tr_lefts : (Nat → Int32)) (tr_rights : (Nat → Int32)) (tr_seconds : (Nat → Int32)) (tr_size : Int32) (gr_kinds : (Nat → Int32)) (gr_nodes : (Nat → Int32)) (gr_rowSets : (Nat → Int32)) (gr_firstStates : (Nat → Int32)) (gr_targetCounts : (Nat → Int32)) (gr_targets : (Nat → Int32)) (gr_stepScores : (Nat → Int32)) (gr_letterScores : (Nat → Int32)) (gr_size : Int32) (tx_letters : (Nat → Int32)) (tx_length : Int32) (va_scores : (Nat → Int32)) (va_knownEnds : Int32) (hi_begins : (Nat → Int32)) (hi_lengths : (Nat → Int32)) (hi_scores : (Nat → Int32)) (hi_taken : (Nat → Int32)) (hi_count : Int32) (de_states : (Nat → Int32)) (de_begins : (Nat → Int32)) (de_lengths : (Nat → Int32)) (de_length : Int32) (a1 : Int32) (a2 : Int32) (a3 : Int32) (r0 : Int32) (n_de_states : (Nat → Int32)) (n_de_begins : (Nat → Int32)) (n_de_lengths : (Nat → Int32)) (n_de_length : Int32) (hf : f_Fa_derived gr_kinds gr_targetCounts gr_targets gr_stepScores gr_letterScores tx_letters va_scores hi_begins hi_lengths hi_count de_states de_begins de_lengths de_length a1 a2 a3 = some (r0, n_de_states, n_de_begins, n_de_lengths, n_de_length)) : Met l y_Fa_derived (.code y_Fa_derived prog_1_method_15_code 4 (some .int) :: gw) rm_Fa_derived (xPre (dC, dI) classes (tys3 ty) (wX ty ad co_rows co_marks co_rowSets co_partners co_open co_count tr_kinds tr_lefts tr_rights tr_seconds tr_size gr_kinds gr_nodes gr_rowSets gr_firstStates gr_targetCounts gr_targets gr_stepScores gr_letterScores gr_size tx_letters tx_length va_scores va_knownEnds hi_begins hi_lengths hi_scores hi_taken hi_count de_states de_begins de_lengths de_length) sz [.ref (ad 0), .int a1, .int a2, .int a3]) (xQi (dC, dI) classes (wX ty ad co_rows co_marks co_rowSets co_partners co_open co_count tr_kinds tr_lefts tr_rights tr_seconds tr_size gr_kinds gr_nodes gr_rowSets gr_firstStates gr_targetCounts gr_targets gr_stepScores gr_letterScores gr_size tx_letters tx_length va_scores va_knownEnds hi_begins hi_lengths hi_scores hi_taken hi_count de_states de_begins de_lengths de_length) (wX ty ad co_rows co_marks co_rowSets co_partners co_open co_count tr_kinds tr_lefts tr_rights tr_seconds tr_size gr_kinds gr_nodes gr_rowSets gr_firstStates gr_targetCounts gr_targets gr_stepScores gr_letterScores gr_size tx_letters tx_length va_scores va_knownEnds hi_begins hi_lengths hi_scores hi_taken hi_count n_de_states n_de_begins n_de_lengths n_de_length) sz r0) 0 0 (va_A (wX ty ad co_rows co_marks co_rowSets co_partners co_open co_count tr_kinds tr_lefts tr_rights tr_seconds tr_size gr_kinds gr_nodes gr_rowSets gr_firstStates gr_targetCounts gr_targets gr_stepScores gr_letterScores gr_size tx_letters tx_length va_scores va_knownEnds hi_begins hi_lengths hi_scores hi_taken hi_count de_states de_begins de_lengths de_length) sz) := by
  refine xmet_i rfl (Nat.le_of_ble_eq_true rfl) ?_
  intro p e s m below meth c A ls Q hx hb hml hts hown hK hN hA hP hD hS hl hret
  replace hown : s.vm.findClass R_Fa = some m.cls := hown
  have hl : lv_has ls 4 [(0, .ref (ad 0)), (1, .int a1), (2, .int a2), (3, .int a3)] := hl
  rw [f_Fa_derived] at hf
  obtain ⟨H, eH⟩ : ∃ H : Heap, H = s.heap := ⟨_, rfl⟩
  obtain ⟨locs, eL⟩ : ∃ L : List Loc, L = [] := ⟨_, rfl⟩
  have hP : va_P (dC, dI) classes (wX ty ad co_rows co_marks co_rowSets co_partners co_open co_count tr_kinds tr_lefts tr_rights tr_seconds tr_size gr_kinds gr_nodes gr_rowSets gr_firstStates gr_targetCounts gr_targets gr_stepScores gr_letterScores gr_size tx_letters tx_length va_scores va_knownEnds hi_begins hi_lengths hi_scores hi_taken hi_count de_states de_begins de_lengths de_length) H := by rw [eH]; exact hP
  have hS : va_S A s.heap H locs := by rw [eH, eL]; exact hS
  rw [← eL]
  suffices hgoal : W p l e rm_Fa_derived s m (List.toArray [.ref (ad 0), .int a1, .int a2, .int a3]) below meth c H locs 0 0 Q (F0 m 0 ls []) by rw [eH] at hgoal; exact hgoal
  clear eH eL
  refine lv_aload_n hx hb d_Fa_derived_0 rfl (lv_at hl 0 rfl) ?_
  refine va_get (D := (dC, dI)) (ci := 0) (v := .ref (ad 24)) (C := R_Fa) (T := F_Fa) (N := 7) hx hb hts iw_Fa hown hK hP 0 rfl rfl 5 (by decide) (hts _ m_245) (fun _ h9 => h9) rfl d_Fa_derived_1 ?_
  refine lv_iload_n hx hb d_Fa_derived_4 rfl (lv_at hl 1 rfl) ?_
  obtain ⟨r1, hc2, hf⟩ := ob1_inv hf
  refine xk_i (xrunV (C := R_Hi) (As := [.int a1]) (rest := []) ⟨hx, hb, hml, hown, hts⟩ (c_Hi_has l dC dI ty ad H.size co_rows co_marks co_rowSets co_partners co_open co_count tr_kinds tr_lefts tr_rights tr_seconds tr_size gr_kinds gr_nodes gr_rowSets gr_firstStates gr_targetCounts gr_targets gr_stepScores gr_letterScores gr_size tx_letters tx_length va_scores va_knownEnds hi_begins hi_lengths hi_scores hi_taken hi_count de_states de_begins de_lengths de_length a1 r1 hc2) z_Fa_171 ⟨⟨rfl, rfl⟩, by decide, by decide⟩ hK hP hD hN (va_recv hK hP (ci := 6) (q0 := 24) rfl rfl) rfl hl.1 rfl (Nat.le_of_ble_eq_true rfl) d_Fa_derived_5 ⟨Nat.zero_le _, Nat.zero_le _⟩) hS hD rfl hA (fun H locs hP hD hS => ?_)
  refine W.eq (g2 := F0 m 8 ls [.int r1]) rfl ?_
  refine lv_if_ne (tgt := 14) hx hb d_Fa_derived_8 (by decide) (fun c3 => ?_) (fun c3 => ?_)
  · have hf := xif_f c3 hf
    refine lv_aload_n hx hb d_Fa_derived_14 rfl (lv_at hl 0 rfl) ?_
    refine va_get (D := (dC, dI)) (ci := 0) (v := .ref (ad 29)) (C := R_Fa) (T := F_Fa) (N := 7) hx hb hts iw_Fa hown hK hP 0 rfl rfl 6 (by decide) (hts _ m_246) (fun _ h9 => h9) rfl d_Fa_derived_15 ?_
    refine lv_aload_n hx hb d_Fa_derived_18 rfl (lv_at hl 0 rfl) ?_
    refine va_get (D := (dC, dI)) (ci := 0) (v := .ref (ad 22)) (C := R_Fa) (T := F_Fa) (N := 7) hx hb hts iw_Fa hown hK hP 0 rfl rfl 4 (by decide) (hts _ m_244) (fun _ h9 => h9) rfl d_Fa_derived_19 ?_
    refine lv_aload_n hx hb d_Fa_derived_22 rfl (lv_at hl 0 rfl) ?_
    refine va_get (D := (dC, dI)) (ci := 0) (v := .ref (ad 24)) (C := R_Fa) (T := F_Fa) (N := 7) hx hb hts iw_Fa hown hK hP 0 rfl rfl 5 (by decide) (hts _ m_245) (fun _ h9 => h9) rfl d_Fa_derived_23 ?_
    refine lv_iload_n hx hb d_Fa_derived_26 rfl (lv_at hl 1 rfl) ?_
    obtain ⟨r4, hc5, hf⟩ := ob1_inv hf
    refine xk_i (xrunV (C := R_Hi) (As := [.int a1]) (rest := [.ref (ad 22), .ref (ad 29)]) ⟨hx, hb, hml, hown, hts⟩ (c_Hi_begin l dC dI ty ad H.size co_rows co_marks co_rowSets co_partners co_open co_count tr_kinds tr_lefts tr_rights tr_seconds tr_size gr_kinds gr_nodes gr_rowSets gr_firstStates gr_targetCounts gr_targets gr_stepScores gr_letterScores gr_size tx_letters tx_length va_scores va_knownEnds hi_begins hi_lengths hi_scores hi_taken hi_count de_states de_begins de_lengths de_length a1 r4 hc5) z_Fa_174 ⟨⟨rfl, rfl⟩, by decide, by decide⟩ hK hP hD hN (va_recv hK hP (ci := 6) (q0 := 24) rfl rfl) rfl hl.1 rfl (Nat.le_of_ble_eq_true rfl) d_Fa_derived_27 ⟨Nat.zero_le _, Nat.zero_le _⟩) hS hD rfl hA (fun H locs hP hD hS => ?_)
    refine W.eq (g2 := F0 m 30 ls [.int r4, .ref (ad 22), .ref (ad 29)]) rfl ?_
    refine lv_aload_n hx hb d_Fa_derived_30 rfl (lv_at hl 0 rfl) ?_
    refine va_get (D := (dC, dI)) (ci := 0) (v := .ref (ad 24)) (C := R_Fa) (T := F_Fa) (N := 7) hx hb hts iw_Fa hown hK hP 0 rfl rfl 5 (by decide) (hts _ m_245) (fun _ h9 => h9) rfl d_Fa_derived_31 ?_
    refine lv_iload_n hx hb d_Fa_derived_34 rfl (lv_at hl 1 rfl) ?_
    obtain ⟨r6, hc7, hf⟩ := ob1_inv hf
    refine xk_i (xrunV (C := R_Hi) (As := [.int a1]) (rest := [.int r4, .ref (ad 22), .ref (ad 29)]) ⟨hx, hb, hml, hown, hts⟩ (c_Hi_letters l dC dI ty ad H.size co_rows co_marks co_rowSets co_partners co_open co_count tr_kinds tr_lefts tr_rights tr_seconds tr_size gr_kinds gr_nodes gr_rowSets gr_firstStates gr_targetCounts gr_targets gr_stepScores gr_letterScores gr_size tx_letters tx_length va_scores va_knownEnds hi_begins hi_lengths hi_scores hi_taken hi_count de_states de_begins de_lengths de_length a1 r6 hc7) z_Fa_177 ⟨⟨rfl, rfl⟩, by decide, by decide⟩ hK hP hD hN (va_recv hK hP (ci := 6) (q0 := 24) rfl rfl) rfl hl.1 rfl (Nat.le_of_ble_eq_true rfl) d_Fa_derived_35 ⟨Nat.zero_le _, Nat.zero_le _⟩) hS hD rfl hA (fun H locs hP hD hS => ?_)
    refine W.eq (g2 := F0 m 38 ls [.int r6, .int r4, .ref (ad 22), .ref (ad 29)]) rfl ?_
    obtain ⟨w8, w9, w10, w11, hc12, hf⟩ := ob4_inv hf
    refine xk_v (xrunV (C := R_De) (As := [.ref (ad 22), .int r4, .int r6]) (rest := []) ⟨hx, hb, hml, hown, hts⟩ (c_De_write l dC dI ty ad H.size co_rows co_marks co_rowSets co_partners co_open co_count tr_kinds tr_lefts tr_rights tr_seconds tr_size gr_kinds gr_nodes gr_rowSets gr_firstStates gr_targetCounts gr_targets gr_stepScores gr_letterScores gr_size tx_letters tx_length va_scores va_knownEnds hi_begins hi_lengths hi_scores hi_taken hi_count de_states de_begins de_lengths de_length r4 r6 w8 w9 w10 w11 hc12) z_Fa_183 ⟨⟨rfl, rfl⟩, by decide, by decide⟩ hK hP hD hN (va_recv hK hP (ci := 7) (q0 := 29) rfl rfl) rfl hl.1 rfl (Nat.le_of_ble_eq_true rfl) d_Fa_derived_38 ⟨Nat.zero_le _, Nat.zero_le _⟩) hS hD rfl hA (fun H locs hP hD hS => ?_)
    refine W.eq (g2 := F0 m 41 ls []) rfl ?_
    refine lv_iload_n hx hb d_Fa_derived_41 rfl (lv_at hl 2 rfl) ?_
    refine lv_if_lt (tgt := 56) hx hb d_Fa_derived_42 (by decide) (fun c13 => ?_) (fun c13 => ?_)
    · have hf := xif_t c13 hf
      refine lv_ldc (v := -1000000) hx hb hown (hts _ m_308) d_Fa_derived_56 ?_
      obtain ⟨rfl, rfl, rfl, rfl, rfl⟩ := os5 hf
      exact hret H locs _ _ _ d_Fa_derived_58 rfl hP hS
    · have hf := xif_f c13 hf
      refine lv_iload_n hx hb d_Fa_derived_45 rfl (lv_at hl 2 rfl) ?_
      refine lv_aload_n hx hb d_Fa_derived_46 rfl (lv_at hl 0 rfl) ?_
      refine va_get (D := (dC, dI)) (ci := 0) (v := .ref (ad 29)) (C := R_Fa) (T := F_Fa) (N := 7) hx hb hts iw_Fa hown hK hP 0 rfl rfl 6 (by decide) (hts _ m_246) (fun _ h9 => h9) rfl d_Fa_derived_47 ?_
      obtain ⟨r14, hc15, hf⟩ := ob1_inv hf
      refine xk_i (xrunV (C := R_De) (As := []) (rest := [.int a2]) ⟨hx, hb, hml, hown, hts⟩ (c_De_length l dC dI ty ad H.size co_rows co_marks co_rowSets co_partners co_open co_count tr_kinds tr_lefts tr_rights tr_seconds tr_size gr_kinds gr_nodes gr_rowSets gr_firstStates gr_targetCounts gr_targets gr_stepScores gr_letterScores gr_size tx_letters tx_length va_scores va_knownEnds hi_begins hi_lengths hi_scores hi_taken hi_count w8 w9 w10 w11  r14 hc15) z_Fa_187 ⟨⟨rfl, rfl⟩, by decide, by decide⟩ hK hP hD hN (va_recv hK hP (ci := 7) (q0 := 29) rfl rfl) rfl hl.1 rfl (Nat.le_of_ble_eq_true rfl) d_Fa_derived_50 ⟨Nat.zero_le _, Nat.zero_le _⟩) hS hD rfl hA (fun H locs hP hD hS => ?_)
      refine W.eq (g2 := F0 m 53 ls [.int r14, .int a2]) rfl ?_
      refine lv_icmp_lt (tgt := 59) hx hb d_Fa_derived_53 (by decide) (fun c16 => ?_) (fun c16 => ?_)
      · have hf := xif_t c16 hf
        refine lv_iload_n hx hb d_Fa_derived_59 rfl (lv_at hl 3 rfl) ?_
        by_cases c17 : a3 = (0 : Int32)
        · have hf := xif_t c17 hf
          refine lv_tableIn (off := 28) (tgt := 88) hx hb d_Fa_derived_60 (by rw [c17]; decide) (by rw [c17]; decide) (by rw [c17]; rfl) (by decide) ?_
          refine lv_aload_n hx hb d_Fa_derived_88 rfl (lv_at hl 0 rfl) ?_
          refine va_get (D := (dC, dI)) (ci := 0) (v := .ref (ad 29)) (C := R_Fa) (T := F_Fa) (N := 7) hx hb hts iw_Fa hown hK hP 0 rfl rfl 6 (by decide) (hts _ m_246) (fun _ h9 => h9) rfl d_Fa_derived_89 ?_
          refine lv_iload_n hx hb d_Fa_derived_92 rfl (lv_at hl 2 rfl) ?_
          obtain ⟨r18, hc19, hf⟩ := ob1_inv hf
          refine xk_i (xrunV (C := R_De) (As := [.int a2]) (rest := []) ⟨hx, hb, hml, hown, hts⟩ (c_De_state l dC dI ty ad H.size co_rows co_marks co_rowSets co_partners co_open co_count tr_kinds tr_lefts tr_rights tr_seconds tr_size gr_kinds gr_nodes gr_rowSets gr_firstStates gr_targetCounts gr_targets gr_stepScores gr_letterScores gr_size tx_letters tx_length va_scores va_knownEnds hi_begins hi_lengths hi_scores hi_taken hi_count w8 w9 w10 w11 a2 r18 hc19) z_Fa_188 ⟨⟨rfl, rfl⟩, by decide, by decide⟩ hK hP hD hN (va_recv hK hP (ci := 7) (q0 := 29) rfl rfl) rfl hl.1 rfl (Nat.le_of_ble_eq_true rfl) d_Fa_derived_93 ⟨Nat.zero_le _, Nat.zero_le _⟩) hS hD rfl hA (fun H locs hP hD hS => ?_)
          refine W.eq (g2 := F0 m 96 ls [.int r18]) rfl ?_
          obtain ⟨rfl, rfl, rfl, rfl, rfl⟩ := os5 hf
          exact hret H locs _ _ _ d_Fa_derived_96 rfl hP hS
        · have hf := xif_f c17 hf
          by_cases c20 : a3 = (1 : Int32)
          · have hf := xif_t c20 hf
            refine lv_tableIn (off := 37) (tgt := 97) hx hb d_Fa_derived_60 (by rw [c20]; decide) (by rw [c20]; decide) (by rw [c20]; rfl) (by decide) ?_
            refine lv_aload_n hx hb d_Fa_derived_97 rfl (lv_at hl 0 rfl) ?_
            refine va_get (D := (dC, dI)) (ci := 0) (v := .ref (ad 29)) (C := R_Fa) (T := F_Fa) (N := 7) hx hb hts iw_Fa hown hK hP 0 rfl rfl 6 (by decide) (hts _ m_246) (fun _ h9 => h9) rfl d_Fa_derived_98 ?_
            refine lv_iload_n hx hb d_Fa_derived_101 rfl (lv_at hl 2 rfl) ?_
            obtain ⟨r21, hc22, hf⟩ := ob1_inv hf
            refine xk_i (xrunV (C := R_De) (As := [.int a2]) (rest := []) ⟨hx, hb, hml, hown, hts⟩ (c_De_begin l dC dI ty ad H.size co_rows co_marks co_rowSets co_partners co_open co_count tr_kinds tr_lefts tr_rights tr_seconds tr_size gr_kinds gr_nodes gr_rowSets gr_firstStates gr_targetCounts gr_targets gr_stepScores gr_letterScores gr_size tx_letters tx_length va_scores va_knownEnds hi_begins hi_lengths hi_scores hi_taken hi_count w8 w9 w10 w11 a2 r21 hc22) z_Fa_191 ⟨⟨rfl, rfl⟩, by decide, by decide⟩ hK hP hD hN (va_recv hK hP (ci := 7) (q0 := 29) rfl rfl) rfl hl.1 rfl (Nat.le_of_ble_eq_true rfl) d_Fa_derived_102 ⟨Nat.zero_le _, Nat.zero_le _⟩) hS hD rfl hA (fun H locs hP hD hS => ?_)
            refine W.eq (g2 := F0 m 105 ls [.int r21]) rfl ?_
            obtain ⟨rfl, rfl, rfl, rfl, rfl⟩ := os5 hf
            exact hret H locs _ _ _ d_Fa_derived_105 rfl hP hS
          · have hf := xif_f c20 hf
            by_cases c23 : a3 = (2 : Int32)
            · have hf := xif_t c23 hf
              refine lv_tableIn (off := 46) (tgt := 106) hx hb d_Fa_derived_60 (by rw [c23]; decide) (by rw [c23]; decide) (by rw [c23]; rfl) (by decide) ?_
              refine lv_aload_n hx hb d_Fa_derived_106 rfl (lv_at hl 0 rfl) ?_
              refine va_get (D := (dC, dI)) (ci := 0) (v := .ref (ad 29)) (C := R_Fa) (T := F_Fa) (N := 7) hx hb hts iw_Fa hown hK hP 0 rfl rfl 6 (by decide) (hts _ m_246) (fun _ h9 => h9) rfl d_Fa_derived_107 ?_
              refine lv_iload_n hx hb d_Fa_derived_110 rfl (lv_at hl 2 rfl) ?_
              obtain ⟨r24, hc25, hf⟩ := ob1_inv hf
              refine xk_i (xrunV (C := R_De) (As := [.int a2]) (rest := []) ⟨hx, hb, hml, hown, hts⟩ (c_De_letters l dC dI ty ad H.size co_rows co_marks co_rowSets co_partners co_open co_count tr_kinds tr_lefts tr_rights tr_seconds tr_size gr_kinds gr_nodes gr_rowSets gr_firstStates gr_targetCounts gr_targets gr_stepScores gr_letterScores gr_size tx_letters tx_length va_scores va_knownEnds hi_begins hi_lengths hi_scores hi_taken hi_count w8 w9 w10 w11 a2 r24 hc25) z_Fa_192 ⟨⟨rfl, rfl⟩, by decide, by decide⟩ hK hP hD hN (va_recv hK hP (ci := 7) (q0 := 29) rfl rfl) rfl hl.1 rfl (Nat.le_of_ble_eq_true rfl) d_Fa_derived_111 ⟨Nat.zero_le _, Nat.zero_le _⟩) hS hD rfl hA (fun H locs hP hD hS => ?_)
              refine W.eq (g2 := F0 m 114 ls [.int r24]) rfl ?_
              obtain ⟨rfl, rfl, rfl, rfl, rfl⟩ := os5 hf
              exact hret H locs _ _ _ d_Fa_derived_114 rfl hP hS
            · have hf := xif_f c23 hf
              have qc17 := lv_neT (a := 0) c17 rfl
              have qc20 := lv_neT (a := 1) c20 rfl
              have qc23 := lv_neT (a := 2) c23 rfl
              refine lv_tableOut (tgt := 115) hx hb d_Fa_derived_60 (by omega) (by decide) ?_
              refine lv_ldc (v := -1000000) hx hb hown (hts _ m_308) d_Fa_derived_115 ?_
              obtain ⟨rfl, rfl, rfl, rfl, rfl⟩ := os5 hf
              exact hret H locs _ _ _ d_Fa_derived_117 rfl hP hS
      · have hf := xif_f c16 hf
        refine lv_ldc (v := -1000000) hx hb hown (hts _ m_308) d_Fa_derived_56 ?_
        obtain ⟨rfl, rfl, rfl, rfl, rfl⟩ := os5 hf
        exact hret H locs _ _ _ d_Fa_derived_58 rfl hP hS
  · have hf := xif_t c3 hf
    refine lv_ldc (v := -1000000) hx hb hown (hts _ m_308) d_Fa_derived_11 ?_
    obtain ⟨rfl, rfl, rfl, rfl, rfl⟩ := os5 hf
    exact hret H locs _ _ _ d_Fa_derived_13 rfl hP hS
