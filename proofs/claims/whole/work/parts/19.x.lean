/-! pure functions and contracts of Hi_takeNoted, Hi_findNext, Hi_find, Hi_count, Fa_scan, Hi_has, Hi_begin, Hi_letters (written by wip/gen) -/
def f_Hi_takeNoted_K2_38 (hi_count : Int32) (x1_2 : Int32) (hi_taken_2 : (Nat → Int32)) : Option ((Nat → Int32) × Int32) := some (hi_taken_2, (hi_count + (1 : Int32)))
def f_Hi_takeNoted_L2 (hi_begins : (Nat → Int32)) (hi_lengths : (Nat → Int32)) (hi_count : Int32) (k2_38 : (Int32 → (Nat → Int32) → Option ((Nat → Int32) × Int32))) : Nat → Int32 → (Nat → Int32) → Option ((Nat → Int32) × Int32)
  | 0, _, _ => none
  | n2 + 1, x1_2, hi_taken_2 => gd (xin hi_count 24) (if (hi_lengths (Int32.toNatClampNeg hi_count)) ≤ x1_2 then (k2_38 x1_2 hi_taken_2) else (gd (xin hi_count 24) (gd (xin ((hi_begins (Int32.toNatClampNeg hi_count)) + x1_2) 24) ((f_Hi_takeNoted_L2 hi_begins hi_lengths hi_count k2_38 n2) (x1_2 + (1 : Int32)) (upd hi_taken_2 (Int32.toNatClampNeg ((hi_begins (Int32.toNatClampNeg hi_count)) + x1_2)) (vp_nar .boolean (1 : Int32)))))))
def f_Hi_takeNoted (hi_begins : (Nat → Int32)) (hi_lengths : (Nat → Int32)) (hi_taken : (Nat → Int32)) (hi_count : Int32) : Option ((Nat → Int32) × Int32) := f_Hi_takeNoted_L2 hi_begins hi_lengths hi_count (f_Hi_takeNoted_K2_38 hi_count) 1000 (0 : Int32) hi_taken
set_option maxHeartbeats 4000000 in
set_option maxRecDepth 100000 in
theorem c_Hi_takeNoted (l : Launch) (dC : Nat → ClassId) (dI : Nat → Nat → Nat) (ty : Nat → ClassId) (ad : Nat → Nat) (ta : Nat → Nat) (sz : Nat) (co_rows : Int32) (co_marks : (Nat → Int32)) (co_rowSets : (Nat → Int32)) (co_partners : (Nat → Int32)) (co_open : (Nat → Int32)) (co_count : Int32) (tr_kinds : (Nat → Int32)) (tr_lefts : (Nat → Int32)) (tr_rights : (Nat → Int32)) (tr_seconds : (Nat → Int32)) (tr_size : Int32) (gr_kinds : (Nat → Int32)) (gr_nodes : (Nat → Int32)) (gr_rowSets : (Nat → Int32)) (gr_firstStates : (Nat → Int32)) (gr_targetCounts : (Nat → Int32)) (gr_targets : (Nat → Int32)) (gr_stepScores : (Nat → Int32)) (gr_letterScores : (Nat → Int32)) (gr_size : Int32) (tx_letters : (Nat → Int32)) (tx_length : Int32) (va_scores : (Nat → Int32)) (va_knownEnds : Int32) (hi_begins : (Nat → Int32)) (hi_lengths : (Nat → Int32)) (hi_scores : (Nat → Int32)) (hi_taken : (Nat → Int32)) (hi_count : Int32) (de_states : (Nat → Int32)) (de_begins : (Nat → Int32)) (de_lengths : (Nat → Int32)) (de_length : Int32)  (n_hi_taken : (Nat → Int32)) (n_hi_count : Int32) (hf : f_Hi_takeNoted hi_begins hi_lengths hi_taken hi_count = some (n_hi_taken, n_hi_count)) : Met l y_Hi_takeNoted (.code y_Hi_takeNoted prog_5_method_12_code 2 none :: gw) rm_Hi_takeNoted (xPre ta (dC, dI) classes (tys3 ty) (wX ty ad co_rows co_marks co_rowSets co_partners co_open co_count tr_kinds tr_lefts tr_rights tr_seconds tr_size gr_kinds gr_nodes gr_rowSets gr_firstStates gr_targetCounts gr_targets gr_stepScores gr_letterScores gr_size tx_letters tx_length va_scores va_knownEnds hi_begins hi_lengths hi_scores hi_taken hi_count de_states de_begins de_lengths de_length) sz [.ref (ad 24)]) (xQv (dC, dI) classes (wX ty ad co_rows co_marks co_rowSets co_partners co_open co_count tr_kinds tr_lefts tr_rights tr_seconds tr_size gr_kinds gr_nodes gr_rowSets gr_firstStates gr_targetCounts gr_targets gr_stepScores gr_letterScores gr_size tx_letters tx_length va_scores va_knownEnds hi_begins hi_lengths hi_scores hi_taken hi_count de_states de_begins de_lengths de_length) (wX ty ad co_rows co_marks co_rowSets co_partners co_open co_count tr_kinds tr_lefts tr_rights tr_seconds tr_size gr_kinds gr_nodes gr_rowSets gr_firstStates gr_targetCounts gr_targets gr_stepScores gr_letterScores gr_size tx_letters tx_length va_scores va_knownEnds hi_begins hi_lengths hi_scores n_hi_taken n_hi_count de_states de_begins de_lengths de_length) sz) 0 0 (va_A (wX ty ad co_rows co_marks co_rowSets co_partners co_open co_count tr_kinds tr_lefts tr_rights tr_seconds tr_size gr_kinds gr_nodes gr_rowSets gr_firstStates gr_targetCounts gr_targets gr_stepScores gr_letterScores gr_size tx_letters tx_length va_scores va_knownEnds hi_begins hi_lengths hi_scores hi_taken hi_count de_states de_begins de_lengths de_length) sz) := by
  refine xmet_v rfl (Nat.le_of_ble_eq_true rfl) ?_
  intro p e s m below meth c A ls Q hx hb hml hts hown hK hN hA hP hD hS hl hret
  replace hown : s.vm.findClass R_Hi = some m.cls := hown
  have hl : lv_has ls 2 [(0, .ref (ad 24))] := hl
  rw [f_Hi_takeNoted] at hf
  obtain ⟨H, eH⟩ : ∃ H : Heap, H = s.heap := ⟨_, rfl⟩
  obtain ⟨locs, eL⟩ : ∃ L : List Loc, L = [] := ⟨_, rfl⟩
  have hP : va_P (dC, dI) classes (wX ty ad co_rows co_marks co_rowSets co_partners co_open co_count tr_kinds tr_lefts tr_rights tr_seconds tr_size gr_kinds gr_nodes gr_rowSets gr_firstStates gr_targetCounts gr_targets gr_stepScores gr_letterScores gr_size tx_letters tx_length va_scores va_knownEnds hi_begins hi_lengths hi_scores hi_taken hi_count de_states de_begins de_lengths de_length) H := by rw [eH]; exact hP
  have hS : va_S A s.heap H locs := by rw [eH, eL]; exact hS
  rw [← eL]
  suffices hgoal : W p l e rm_Hi_takeNoted s m (List.toArray [.ref (ad 24)]) below meth c H locs 0 0 Q (F0 m 0 ls []) by rw [eH] at hgoal; exact hgoal
  clear eH eL
  refine lv_iconst (v := 0) hx hb d_Hi_takeNoted_0 (by decide) ?_
  refine lv_istore_n (lv' := [(1, .int (0 : Int32)), (0, .ref (ad 24))]) hx hb d_Hi_takeNoted_1 rfl hl (by decide) rfl (fun ls hl => ?_)
  have K2_38 : ∀ (x1_2 : Int32) (hi_taken_2 : (Nat → Int32)) (H : Heap) (locs : List Loc) (ls : Array Slot), va_P (dC, dI) classes (wX ty ad co_rows co_marks co_rowSets co_partners co_open co_count tr_kinds tr_lefts tr_rights tr_seconds tr_size gr_kinds gr_nodes gr_rowSets gr_firstStates gr_targetCounts gr_targets gr_stepScores gr_letterScores gr_size tx_letters tx_length va_scores va_knownEnds hi_begins hi_lengths hi_scores hi_taken_2 hi_count de_states de_begins de_lengths de_length) H → va_D A (wX ty ad co_rows co_marks co_rowSets co_partners co_open co_count tr_kinds tr_lefts tr_rights tr_seconds tr_size gr_kinds gr_nodes gr_rowSets gr_firstStates gr_targetCounts gr_targets gr_stepScores gr_letterScores gr_size tx_letters tx_length va_scores va_knownEnds hi_begins hi_lengths hi_scores hi_taken_2 hi_count de_states de_begins de_lengths de_length) → va_S A s.heap H locs → lv_has ls 2 [(0, .ref (ad 24))] → f_Hi_takeNoted_K2_38 hi_count x1_2 hi_taken_2 = some (n_hi_taken, n_hi_count) → W p l e rm_Hi_takeNoted s m (List.toArray [.ref (ad 24)]) below meth c H locs 0 0 Q (F0 m 38 ls []) := by
    intro x1_2 hi_taken_2 H locs ls hP hD hS hl hf
    rw [f_Hi_takeNoted_K2_38] at hf
    refine lv_aload_n hx hb d_Hi_takeNoted_38 rfl (lv_at hl 0 rfl) ?_
    refine lv_dup hx hb d_Hi_takeNoted_39 rfl ?_
    refine va_get (D := (dC, dI)) (ci := 6) (v := .int hi_count) (C := R_Hi) (T := F_Hi) (N := 5) hx hb hts iw_Hi hown hK hP 24 rfl rfl 4 (by decide) (hts _ m_208) (fun _ h9 => h9) rfl d_Hi_takeNoted_40 ?_
    refine lv_iconst (v := 1) hx hb d_Hi_takeNoted_43 (by decide) ?_
    refine lv_iadd hx hb d_Hi_takeNoted_44 ?_
    refine va_put (D := (dC, dI)) (ci := 6) (v := .int (hi_count + (1 : Int32))) (ty := .int) (C := R_Hi) (T := F_Hi) (N := 5) hx hb hts iw_Hi t_Hi t_Hi_ok n_Hi hown hK hP hD hS 24 rfl rfl 4 (by decide) (hts _ m_208) (fun _ h9 => h9) rfl (by decide +kernel) rfl rfl (Nat.le_of_ble_eq_true rfl) d_Hi_takeNoted_45 (fun H locs hP hD hS => ?_)
    have hP : va_P (dC, dI) classes (wX ty ad co_rows co_marks co_rowSets co_partners co_open co_count tr_kinds tr_lefts tr_rights tr_seconds tr_size gr_kinds gr_nodes gr_rowSets gr_firstStates gr_targetCounts gr_targets gr_stepScores gr_letterScores gr_size tx_letters tx_length va_scores va_knownEnds hi_begins hi_lengths hi_scores hi_taken_2 (hi_count + (1 : Int32)) de_states de_begins de_lengths de_length) H := hP
    have hD : va_D A (wX ty ad co_rows co_marks co_rowSets co_partners co_open co_count tr_kinds tr_lefts tr_rights tr_seconds tr_size gr_kinds gr_nodes gr_rowSets gr_firstStates gr_targetCounts gr_targets gr_stepScores gr_letterScores gr_size tx_letters tx_length va_scores va_knownEnds hi_begins hi_lengths hi_scores hi_taken_2 (hi_count + (1 : Int32)) de_states de_begins de_lengths de_length) := hD
    obtain ⟨rfl, rfl⟩ := os2 hf
    exact hret H locs _ _ d_Hi_takeNoted_48 hP hS
  have L2 : ∀ (n2 : Nat), ∀ (x1_2 : Int32) (hi_taken_2 : (Nat → Int32)) (H : Heap) (locs : List Loc) (ls : Array Slot), va_P (dC, dI) classes (wX ty ad co_rows co_marks co_rowSets co_partners co_open co_count tr_kinds tr_lefts tr_rights tr_seconds tr_size gr_kinds gr_nodes gr_rowSets gr_firstStates gr_targetCounts gr_targets gr_stepScores gr_letterScores gr_size tx_letters tx_length va_scores va_knownEnds hi_begins hi_lengths hi_scores hi_taken_2 hi_count de_states de_begins de_lengths de_length) H → va_D A (wX ty ad co_rows co_marks co_rowSets co_partners co_open co_count tr_kinds tr_lefts tr_rights tr_seconds tr_size gr_kinds gr_nodes gr_rowSets gr_firstStates gr_targetCounts gr_targets gr_stepScores gr_letterScores gr_size tx_letters tx_length va_scores va_knownEnds hi_begins hi_lengths hi_scores hi_taken_2 hi_count de_states de_begins de_lengths de_length) → va_S A s.heap H locs → lv_has ls 2 [(0, .ref (ad 24)), (1, .int x1_2)] → f_Hi_takeNoted_L2 hi_begins hi_lengths hi_count (f_Hi_takeNoted_K2_38 hi_count) n2 x1_2 hi_taken_2 = some (n_hi_taken, n_hi_count) → W p l e rm_Hi_takeNoted s m (List.toArray [.ref (ad 24)]) below meth c H locs 0 0 Q (F0 m 2 ls []) := by
    intro n2
    induction n2 with
    | zero =>
      intro x1_2 hi_taken_2 H locs ls hP hD hS hl hf
      rw [f_Hi_takeNoted_L2] at hf
      cases hf
    | succ n2 ih2 =>
      intro x1_2 hi_taken_2 H locs ls hP hD hS hl hf
      rw [f_Hi_takeNoted_L2] at hf
      refine lv_iload_n hx hb d_Hi_takeNoted_2 rfl (lv_at hl 1 rfl) ?_
      refine lv_aload_n hx hb d_Hi_takeNoted_3 rfl (lv_at hl 0 rfl) ?_
      refine va_get (D := (dC, dI)) (ci := 6) (v := .ref (ad 26)) (C := R_Hi) (T := F_Hi) (N := 5) hx hb hts iw_Hi hown hK hP 24 rfl rfl 1 (by decide) (hts _ m_205) (fun _ h9 => h9) rfl d_Hi_takeNoted_4 ?_
      refine lv_aload_n hx hb d_Hi_takeNoted_7 rfl (lv_at hl 0 rfl) ?_
      refine va_get (D := (dC, dI)) (ci := 6) (v := .int hi_count) (C := R_Hi) (T := F_Hi) (N := 5) hx hb hts iw_Hi hown hK hP 24 rfl rfl 4 (by decide) (hts _ m_208) (fun _ h9 => h9) rfl d_Hi_takeNoted_8 ?_
      obtain ⟨hi1, hf⟩ := gdi hf
      refine va_iald hx hb hK hP 26 0 rfl rfl hi1 d_Hi_takeNoted_11 ?_
      refine lv_icmp_ge (tgt := 38) hx hb d_Hi_takeNoted_12 (by decide) (fun c2 => ?_) (fun c2 => ?_)
      · have hf := xif_t c2 hf
        exact K2_38 x1_2 hi_taken_2 _ _ _ hP hD hS (lv_sub hl [0] rfl) hf
      · have hf := xif_f c2 hf
        refine lv_aload_n hx hb d_Hi_takeNoted_15 rfl (lv_at hl 0 rfl) ?_
        refine va_get (D := (dC, dI)) (ci := 6) (v := .ref (ad 28)) (C := R_Hi) (T := F_Hi) (N := 5) hx hb hts iw_Hi hown hK hP 24 rfl rfl 3 (by decide) (hts _ m_207) (fun _ h9 => h9) rfl d_Hi_takeNoted_16 ?_
        refine lv_aload_n hx hb d_Hi_takeNoted_19 rfl (lv_at hl 0 rfl) ?_
        refine va_get (D := (dC, dI)) (ci := 6) (v := .ref (ad 25)) (C := R_Hi) (T := F_Hi) (N := 5) hx hb hts iw_Hi hown hK hP 24 rfl rfl 0 (by decide) (hts _ m_204) (fun _ h9 => h9) rfl d_Hi_takeNoted_20 ?_
        refine lv_aload_n hx hb d_Hi_takeNoted_23 rfl (lv_at hl 0 rfl) ?_
        refine va_get (D := (dC, dI)) (ci := 6) (v := .int hi_count) (C := R_Hi) (T := F_Hi) (N := 5) hx hb hts iw_Hi hown hK hP 24 rfl rfl 4 (by decide) (hts _ m_208) (fun _ h9 => h9) rfl d_Hi_takeNoted_24 ?_
        obtain ⟨hi3, hf⟩ := gdi hf
        refine va_iald hx hb hK hP 25 0 rfl rfl hi3 d_Hi_takeNoted_27 ?_
        refine lv_iload_n hx hb d_Hi_takeNoted_28 rfl (lv_at hl 1 rfl) ?_
        refine lv_iadd hx hb d_Hi_takeNoted_29 ?_
        refine lv_iconst (v := 1) hx hb d_Hi_takeNoted_30 (by decide) ?_
        obtain ⟨hi4, hf⟩ := gdi hf
        refine va_zast hx hb hK hP hD hS 28 2 rfl rfl hi4 d_Hi_takeNoted_31 (fun H locs hP hD hS => ?_)
        have hP : va_P (dC, dI) classes (wX ty ad co_rows co_marks co_rowSets co_partners co_open co_count tr_kinds tr_lefts tr_rights tr_seconds tr_size gr_kinds gr_nodes gr_rowSets gr_firstStates gr_targetCounts gr_targets gr_stepScores gr_letterScores gr_size tx_letters tx_length va_scores va_knownEnds hi_begins hi_lengths hi_scores (upd hi_taken_2 (Int32.toNatClampNeg ((hi_begins (Int32.toNatClampNeg hi_count)) + x1_2)) (vp_nar .boolean (1 : Int32))) hi_count de_states de_begins de_lengths de_length) H := hP
        have hD : va_D A (wX ty ad co_rows co_marks co_rowSets co_partners co_open co_count tr_kinds tr_lefts tr_rights tr_seconds tr_size gr_kinds gr_nodes gr_rowSets gr_firstStates gr_targetCounts gr_targets gr_stepScores gr_letterScores gr_size tx_letters tx_length va_scores va_knownEnds hi_begins hi_lengths hi_scores (upd hi_taken_2 (Int32.toNatClampNeg ((hi_begins (Int32.toNatClampNeg hi_count)) + x1_2)) (vp_nar .boolean (1 : Int32))) hi_count de_states de_begins de_lengths de_length) := hD
        refine lv_iinc (v := (x1_2 + (1 : Int32))) (lv' := [(1, .int (x1_2 + (1 : Int32))), (0, .ref (ad 24))]) hx hb d_Hi_takeNoted_32 hl (k := 1) rfl rfl (by decide) rfl (fun ls hl => ?_)
        refine lv_goto (tgt := 2) hx hb d_Hi_takeNoted_35 (by decide) ?_
        exact ih2 (x1_2 + (1 : Int32)) (upd hi_taken_2 (Int32.toNatClampNeg ((hi_begins (Int32.toNatClampNeg hi_count)) + x1_2)) (vp_nar .boolean (1 : Int32))) _ _ _ hP hD hS (lv_sub hl [1, 0] rfl) hf
  exact L2 1000 (0 : Int32) hi_taken _ _ _ hP hD hS (lv_sub hl [1, 0] rfl) hf
def f_Hi_findNext_J85 (hi_count : Int32) (x6_6 : Int32) (x8_31 : Int32) (hi_begins_31 : (Nat → Int32)) (hi_lengths_31 : (Nat → Int32)) (hi_scores_31 : (Nat → Int32)) (rec31 : (Int32 → Int32 → (Nat → Int32) → (Nat → Int32) → (Nat → Int32) → Option (Int32 × (Nat → Int32) × (Nat → Int32) × (Nat → Int32) × (Nat → Int32) × Int32))) (r5 : Int32)  : Option (Int32 × (Nat → Int32) × (Nat → Int32) × (Nat → Int32) × (Nat → Int32) × Int32) := ob3 (f_Hi_note hi_begins_31 hi_lengths_31 hi_scores_31 hi_count x6_6 x8_31 r5) (fun w9 w10 w11 => rec31 (1 : Int32) (x8_31 + (1 : Int32)) w9 w10 w11)
def f_Hi_findNext_K31_104 (x6_6 : Int32) (rec6 : (Int32 → Int32 → (Nat → Int32) → (Nat → Int32) → (Nat → Int32) → Option (Int32 × (Nat → Int32) × (Nat → Int32) × (Nat → Int32) × (Nat → Int32) × Int32))) (x5_31 : Int32) (x8_31 : Int32) (hi_begins_31 : (Nat → Int32)) (hi_lengths_31 : (Nat → Int32)) (hi_scores_31 : (Nat → Int32)) : Option (Int32 × (Nat → Int32) × (Nat → Int32) × (Nat → Int32) × (Nat → Int32) × Int32) := rec6 x5_31 (x6_6 + (1 : Int32)) hi_begins_31 hi_lengths_31 hi_scores_31
def f_Hi_findNext_L31 (va_scores : (Nat → Int32)) (hi_count : Int32) (a4 : Int32) (x6_6 : Int32) (r2 : Int32) (k31_104 : (Int32 → Int32 → (Nat → Int32) → (Nat → Int32) → (Nat → Int32) → Option (Int32 × (Nat → Int32) × (Nat → Int32) × (Nat → Int32) × (Nat → Int32) × Int32))) : Nat → Int32 → Int32 → (Nat → Int32) → (Nat → Int32) → (Nat → Int32) → Option (Int32 × (Nat → Int32) × (Nat → Int32) × (Nat → Int32) × (Nat → Int32) × Int32)
  | 0, _, _, _, _, _ => none
  | n31 + 1, x5_31, x8_31, hi_begins_31, hi_lengths_31, hi_scores_31 => if (r2 - x6_6) < x8_31 then (k31_104 x5_31 x8_31 hi_begins_31 hi_lengths_31 hi_scores_31) else (ob1 (f_Va_of va_scores (0 : Int32) x6_6 x8_31) (fun r5 => if r5 = (-1000000 : Int32) then ((f_Hi_findNext_L31 va_scores hi_count a4 x6_6 r2 k31_104 n31) x5_31 (x8_31 + (1 : Int32)) hi_begins_31 hi_lengths_31 hi_scores_31) else (if r5 < a4 then ((f_Hi_findNext_L31 va_scores hi_count a4 x6_6 r2 k31_104 n31) x5_31 (x8_31 + (1 : Int32)) hi_begins_31 hi_lengths_31 hi_scores_31) else (if x5_31 = (0 : Int32) then (f_Hi_findNext_J85 hi_count x6_6 x8_31 hi_begins_31 hi_lengths_31 hi_scores_31 (f_Hi_findNext_L31 va_scores hi_count a4 x6_6 r2 k31_104 n31) r5) else (gd (xin hi_count 24) (if r5 ≤ (hi_scores_31 (Int32.toNatClampNeg hi_count)) then ((f_Hi_findNext_L31 va_scores hi_count a4 x6_6 r2 k31_104 n31) x5_31 (x8_31 + (1 : Int32)) hi_begins_31 hi_lengths_31 hi_scores_31) else (f_Hi_findNext_J85 hi_count x6_6 x8_31 hi_begins_31 hi_lengths_31 hi_scores_31 (f_Hi_findNext_L31 va_scores hi_count a4 x6_6 r2 k31_104 n31) r5)))))))
def f_Hi_findNext_K6_110 (hi_taken : (Nat → Int32)) (hi_count : Int32) (x5_6 : Int32) (x6_6 : Int32) (hi_begins_6 : (Nat → Int32)) (hi_lengths_6 : (Nat → Int32)) (hi_scores_6 : (Nat → Int32)) : Option (Int32 × (Nat → Int32) × (Nat → Int32) × (Nat → Int32) × (Nat → Int32) × Int32) := if x5_6 = (0 : Int32) then (gd (xbool x5_6) (some (x5_6, hi_begins_6, hi_lengths_6, hi_scores_6, hi_taken, hi_count))) else (ob2 (f_Hi_takeNoted hi_begins_6 hi_lengths_6 hi_taken hi_count) (fun w18 w19 => gd (xbool x5_6) (some (x5_6, hi_begins_6, hi_lengths_6, hi_scores_6, w18, w19))))
def f_Hi_findNext_L6 (va_scores : (Nat → Int32)) (hi_taken : (Nat → Int32)) (hi_count : Int32) (a2 : Int32) (a3 : Int32) (a4 : Int32) (k6_110 : (Int32 → Int32 → (Nat → Int32) → (Nat → Int32) → (Nat → Int32) → Option (Int32 × (Nat → Int32) × (Nat → Int32) × (Nat → Int32) × (Nat → Int32) × Int32))) : Nat → Int32 → Int32 → (Nat → Int32) → (Nat → Int32) → (Nat → Int32) → Option (Int32 × (Nat → Int32) × (Nat → Int32) × (Nat → Int32) × (Nat → Int32) × Int32)
  | 0, _, _, _, _, _ => none
  | n6 + 1, x5_6, x6_6, hi_begins_6, hi_lengths_6, hi_scores_6 => if a2 ≤ x6_6 then (k6_110 x5_6 x6_6 hi_begins_6 hi_lengths_6 hi_scores_6) else (ob1 (f_Hi_freeEnd hi_taken x6_6 (imin a2 (x6_6 + a3))) (fun r2 => f_Hi_findNext_L31 va_scores hi_count a4 x6_6 r2 (f_Hi_findNext_K31_104 x6_6 (f_Hi_findNext_L6 va_scores hi_taken hi_count a2 a3 a4 k6_110 n6)) 1000 x5_6 (1 : Int32) hi_begins_6 hi_lengths_6 hi_scores_6))
def f_Hi_findNext (va_scores : (Nat → Int32)) (hi_begins : (Nat → Int32)) (hi_lengths : (Nat → Int32)) (hi_scores : (Nat → Int32)) (hi_taken : (Nat → Int32)) (hi_count : Int32) (a2 : Int32) (a3 : Int32) (a4 : Int32) : Option (Int32 × (Nat → Int32) × (Nat → Int32) × (Nat → Int32) × (Nat → Int32) × Int32) := f_Hi_findNext_L6 va_scores hi_taken hi_count a2 a3 a4 (f_Hi_findNext_K6_110 hi_taken hi_count) 1000 (0 : Int32) (0 : Int32) hi_begins hi_lengths hi_scores
set_option maxHeartbeats 4000000 in
set_option maxRecDepth 100000 in
theorem c_Hi_findNext (l : Launch) (dC : Nat → ClassId) (dI : Nat → Nat → Nat) (ty : Nat → ClassId) (ad : Nat → Nat) (ta : Nat → Nat) (sz : Nat) (co_rows : Int32) (co_marks : (Nat → Int32)) (co_rowSets : (Nat → Int32)) (co_partners : (Nat → Int32)) (co_open : (Nat → Int32)) (co_count : Int32) (tr_kinds : (Nat → Int32)) (tr_lefts : (Nat → Int32)) (tr_rights : (Nat → Int32)) (tr_seconds : (Nat → Int32)) (tr_size : Int32) (gr_kinds : (Nat → Int32)) (gr_nodes : (Nat → Int32)) (gr_rowSets : (Nat → Int32)) (gr_firstStates : (Nat → Int32)) (gr_targetCounts : (Nat → Int32)) (gr_targets : (Nat → Int32)) (gr_stepScores : (Nat → Int32)) (gr_letterScores : (Nat → Int32)) (gr_size : Int32) (tx_letters : (Nat → Int32)) (tx_length : Int32) (va_scores : (Nat → Int32)) (va_knownEnds : Int32) (hi_begins : (Nat → Int32)) (hi_lengths : (Nat → Int32)) (hi_scores : (Nat → Int32)) (hi_taken : (Nat → Int32)) (hi_count : Int32) (de_states : (Nat → Int32)) (de_begins : (Nat → Int32)) (de_lengths : (Nat → Int32)) (de_length : Int32) (a2 : Int32) (a3 : Int32) (a4 : Int32) (r0 : Int32) (n_hi_begins : (Nat → Int32)) (n_hi_lengths : (Nat → Int32)) (n_hi_scores : (Nat → Int32)) (n_hi_taken : (Nat → Int32)) (n_hi_count : Int32) (hf : f_Hi_findNext va_scores hi_begins hi_lengths hi_scores hi_taken hi_count a2 a3 a4 = some (r0, n_hi_begins, n_hi_lengths, n_hi_scores, n_hi_taken, n_hi_count)) : Met l y_Hi_findNext (.code y_Hi_findNext prog_5_method_9_code 10 (some .boolean) :: gw) rm_Hi_findNext (xPre ta (dC, dI) classes (tys3 ty) (wX ty ad co_rows co_marks co_rowSets co_partners co_open co_count tr_kinds tr_lefts tr_rights tr_seconds tr_size gr_kinds gr_nodes gr_rowSets gr_firstStates gr_targetCounts gr_targets gr_stepScores gr_letterScores gr_size tx_letters tx_length va_scores va_knownEnds hi_begins hi_lengths hi_scores hi_taken hi_count de_states de_begins de_lengths de_length) sz [.ref (ad 24), .ref (ad 22), .int a2, .int a3, .int a4]) (xQi (dC, dI) classes (wX ty ad co_rows co_marks co_rowSets co_partners co_open co_count tr_kinds tr_lefts tr_rights tr_seconds tr_size gr_kinds gr_nodes gr_rowSets gr_firstStates gr_targetCounts gr_targets gr_stepScores gr_letterScores gr_size tx_letters tx_length va_scores va_knownEnds hi_begins hi_lengths hi_scores hi_taken hi_count de_states de_begins de_lengths de_length) (wX ty ad co_rows co_marks co_rowSets co_partners co_open co_count tr_kinds tr_lefts tr_rights tr_seconds tr_size gr_kinds gr_nodes gr_rowSets gr_firstStates gr_targetCounts gr_targets gr_stepScores gr_letterScores gr_size tx_letters tx_length va_scores va_knownEnds n_hi_begins n_hi_lengths n_hi_scores n_hi_taken n_hi_count de_states de_begins de_lengths de_length) sz r0) 0 0 (va_A (wX ty ad co_rows co_marks co_rowSets co_partners co_open co_count tr_kinds tr_lefts tr_rights tr_seconds tr_size gr_kinds gr_nodes gr_rowSets gr_firstStates gr_targetCounts gr_targets gr_stepScores gr_letterScores gr_size tx_letters tx_length va_scores va_knownEnds hi_begins hi_lengths hi_scores hi_taken hi_count de_states de_begins de_lengths de_length) sz) := by
  refine xmet_z rfl (Nat.le_of_ble_eq_true rfl) ?_
  intro p e s m below meth c A ls Q hx hb hml hts hown hK hN hA hP hD hS hl hret
  replace hown : s.vm.findClass R_Hi = some m.cls := hown
  have hl : lv_has ls 10 [(0, .ref (ad 24)), (1, .ref (ad 22)), (2, .int a2), (3, .int a3), (4, .int a4)] := hl
  rw [f_Hi_findNext] at hf
  obtain ⟨H, eH⟩ : ∃ H : Heap, H = s.heap := ⟨_, rfl⟩
  obtain ⟨locs, eL⟩ : ∃ L : List Loc, L = [] := ⟨_, rfl⟩
  have hP : va_P (dC, dI) classes (wX ty ad co_rows co_marks co_rowSets co_partners co_open co_count tr_kinds tr_lefts tr_rights tr_seconds tr_size gr_kinds gr_nodes gr_rowSets gr_firstStates gr_targetCounts gr_targets gr_stepScores gr_letterScores gr_size tx_letters tx_length va_scores va_knownEnds hi_begins hi_lengths hi_scores hi_taken hi_count de_states de_begins de_lengths de_length) H := by rw [eH]; exact hP
  have hS : va_S A s.heap H locs := by rw [eH, eL]; exact hS
  rw [← eL]
  suffices hgoal : W p l e rm_Hi_findNext s m (List.toArray [.ref (ad 24), .ref (ad 22), .int a2, .int a3, .int a4]) below meth c H locs 0 0 Q (F0 m 0 ls []) by rw [eH] at hgoal; exact hgoal
  clear eH eL
  refine lv_iconst (v := 0) hx hb d_Hi_findNext_0 (by decide) ?_
  refine lv_istore (lv' := [(5, .int (0 : Int32)), (0, .ref (ad 24)), (1, .ref (ad 22)), (2, .int a2), (3, .int a3), (4, .int a4)]) hx hb d_Hi_findNext_1 hl (by decide) rfl (fun ls hl => ?_)
  refine lv_iconst (v := 0) hx hb d_Hi_findNext_3 (by decide) ?_
  refine lv_istore (lv' := [(6, .int (0 : Int32)), (5, .int (0 : Int32)), (0, .ref (ad 24)), (1, .ref (ad 22)), (2, .int a2), (3, .int a3), (4, .int a4)]) hx hb d_Hi_findNext_4 hl (by decide) rfl (fun ls hl => ?_)
  have K6_110 : ∀ (x5_6 : Int32) (x6_6 : Int32) (hi_begins_6 : (Nat → Int32)) (hi_lengths_6 : (Nat → Int32)) (hi_scores_6 : (Nat → Int32)) (H : Heap) (locs : List Loc) (ls : Array Slot), va_P (dC, dI) classes (wX ty ad co_rows co_marks co_rowSets co_partners co_open co_count tr_kinds tr_lefts tr_rights tr_seconds tr_size gr_kinds gr_nodes gr_rowSets gr_firstStates gr_targetCounts gr_targets gr_stepScores gr_letterScores gr_size tx_letters tx_length va_scores va_knownEnds hi_begins_6 hi_lengths_6 hi_scores_6 hi_taken hi_count de_states de_begins de_lengths de_length) H → va_D A (wX ty ad co_rows co_marks co_rowSets co_partners co_open co_count tr_kinds tr_lefts tr_rights tr_seconds tr_size gr_kinds gr_nodes gr_rowSets gr_firstStates gr_targetCounts gr_targets gr_stepScores gr_letterScores gr_size tx_letters tx_length va_scores va_knownEnds hi_begins_6 hi_lengths_6 hi_scores_6 hi_taken hi_count de_states de_begins de_lengths de_length) → va_S A s.heap H locs → lv_has ls 10 [(0, .ref (ad 24)), (5, .int x5_6)] → f_Hi_findNext_K6_110 hi_taken hi_count x5_6 x6_6 hi_begins_6 hi_lengths_6 hi_scores_6 = some (r0, n_hi_begins, n_hi_lengths, n_hi_scores, n_hi_taken, n_hi_count) → W p l e rm_Hi_findNext s m (List.toArray [.ref (ad 24), .ref (ad 22), .int a2, .int a3, .int a4]) below meth c H locs 0 0 Q (F0 m 110 ls []) := by
    intro x5_6 x6_6 hi_begins_6 hi_lengths_6 hi_scores_6 H locs ls hP hD hS hl hf
    rw [f_Hi_findNext_K6_110] at hf
    refine lv_iload hx hb d_Hi_findNext_110 (lv_at hl 1 rfl) ?_
    refine lv_if_eq (tgt := 119) hx hb d_Hi_findNext_112 (by decide) (fun c16 => ?_) (fun c16 => ?_)
    · have hf := xif_t c16 hf
      refine lv_iload hx hb d_Hi_findNext_119 (lv_at hl 1 rfl) ?_
      obtain ⟨hz17, hf⟩ := gd_inv hf
      obtain ⟨rfl, rfl, rfl, rfl, rfl, rfl⟩ := os6 hf
      exact hret H locs _ _ _ d_Hi_findNext_121 rfl (xbool_nar hz17) hP hS
    · have hf := xif_f c16 hf
      refine lv_aload_n hx hb d_Hi_findNext_115 rfl (lv_at hl 0 rfl) ?_
      obtain ⟨w18, w19, hc20, hf⟩ := ob2_inv hf
      refine xk_v (xrunV (C := R_Hi) (As := []) (rest := []) ⟨hx, hb, hml, hown, hts⟩ (c_Hi_takeNoted l dC dI ty ad ta H.size co_rows co_marks co_rowSets co_partners co_open co_count tr_kinds tr_lefts tr_rights tr_seconds tr_size gr_kinds gr_nodes gr_rowSets gr_firstStates gr_targetCounts gr_targets gr_stepScores gr_letterScores gr_size tx_letters tx_length va_scores va_knownEnds hi_begins_6 hi_lengths_6 hi_scores_6 hi_taken hi_count de_states de_begins de_lengths de_length  w18 w19 hc20) z_Hi_53 ⟨⟨rfl, rfl⟩, by decide, by decide⟩ hK hP hD hN hS hA (va_recv hK hP (ci := 6) (q0 := 24) rfl rfl) rfl hl.1 rfl (Nat.le_of_ble_eq_true rfl) d_Hi_findNext_116 ⟨Nat.zero_le _, Nat.zero_le _⟩) hS hD rfl hA (fun H locs hP hD hS => ?_)
      refine W.eq (g2 := F0 m 119 ls []) rfl ?_
      refine lv_iload hx hb d_Hi_findNext_119 (lv_at hl 1 rfl) ?_
      obtain ⟨hz21, hf⟩ := gd_inv hf
      obtain ⟨rfl, rfl, rfl, rfl, rfl, rfl⟩ := os6 hf
      exact hret H locs _ _ _ d_Hi_findNext_121 rfl (xbool_nar hz21) hP hS
  have L6 : ∀ (n6 : Nat), ∀ (x5_6 : Int32) (x6_6 : Int32) (hi_begins_6 : (Nat → Int32)) (hi_lengths_6 : (Nat → Int32)) (hi_scores_6 : (Nat → Int32)) (H : Heap) (locs : List Loc) (ls : Array Slot), va_P (dC, dI) classes (wX ty ad co_rows co_marks co_rowSets co_partners co_open co_count tr_kinds tr_lefts tr_rights tr_seconds tr_size gr_kinds gr_nodes gr_rowSets gr_firstStates gr_targetCounts gr_targets gr_stepScores gr_letterScores gr_size tx_letters tx_length va_scores va_knownEnds hi_begins_6 hi_lengths_6 hi_scores_6 hi_taken hi_count de_states de_begins de_lengths de_length) H → va_D A (wX ty ad co_rows co_marks co_rowSets co_partners co_open co_count tr_kinds tr_lefts tr_rights tr_seconds tr_size gr_kinds gr_nodes gr_rowSets gr_firstStates gr_targetCounts gr_targets gr_stepScores gr_letterScores gr_size tx_letters tx_length va_scores va_knownEnds hi_begins_6 hi_lengths_6 hi_scores_6 hi_taken hi_count de_states de_begins de_lengths de_length) → va_S A s.heap H locs → lv_has ls 10 [(0, .ref (ad 24)), (1, .ref (ad 22)), (2, .int a2), (3, .int a3), (4, .int a4), (5, .int x5_6), (6, .int x6_6)] → f_Hi_findNext_L6 va_scores hi_taken hi_count a2 a3 a4 (f_Hi_findNext_K6_110 hi_taken hi_count) n6 x5_6 x6_6 hi_begins_6 hi_lengths_6 hi_scores_6 = some (r0, n_hi_begins, n_hi_lengths, n_hi_scores, n_hi_taken, n_hi_count) → W p l e rm_Hi_findNext s m (List.toArray [.ref (ad 24), .ref (ad 22), .int a2, .int a3, .int a4]) below meth c H locs 0 0 Q (F0 m 6 ls []) := by
    intro n6
    induction n6 with
    | zero =>
      intro x5_6 x6_6 hi_begins_6 hi_lengths_6 hi_scores_6 H locs ls hP hD hS hl hf
      rw [f_Hi_findNext_L6] at hf
      cases hf
    | succ n6 ih6 =>
      intro x5_6 x6_6 hi_begins_6 hi_lengths_6 hi_scores_6 H locs ls hP hD hS hl hf
      rw [f_Hi_findNext_L6] at hf
      refine lv_iload hx hb d_Hi_findNext_6 (lv_at hl 6 rfl) ?_
      refine lv_iload_n hx hb d_Hi_findNext_8 rfl (lv_at hl 2 rfl) ?_
      refine lv_icmp_ge (tgt := 110) hx hb d_Hi_findNext_9 (by decide) (fun c1 => ?_) (fun c1 => ?_)
      · have hf := xif_t c1 hf
        exact K6_110 x5_6 x6_6 hi_begins_6 hi_lengths_6 hi_scores_6 _ _ _ hP hD hS (lv_sub hl [0, 5] rfl) hf
      · have hf := xif_f c1 hf
        refine lv_aload_n hx hb d_Hi_findNext_12 rfl (lv_at hl 0 rfl) ?_
        refine lv_iload hx hb d_Hi_findNext_13 (lv_at hl 6 rfl) ?_
        refine lv_iload_n hx hb d_Hi_findNext_15 rfl (lv_at hl 2 rfl) ?_
        refine lv_iload hx hb d_Hi_findNext_16 (lv_at hl 6 rfl) ?_
        refine lv_iload_n hx hb d_Hi_findNext_18 rfl (lv_at hl 3 rfl) ?_
        refine lv_iadd hx hb d_Hi_findNext_19 ?_
        refine va_mmin hx hb (hml.trans hl.1.symm) hown (hts _ m_612) (hts _ m_71) (hts _ m_51) (hts _ m_72) (Nat.le_of_ble_eq_true rfl) (Nat.le_of_ble_eq_true rfl) (Nat.zero_le _) (Nat.zero_le _) d_Hi_findNext_20 ?_
        refine W.eq (g2 := F0 m 23 ls [.int (imin a2 (x6_6 + a3)), .int x6_6, .ref (ad 24)]) rfl ?_
        obtain ⟨r2, hc3, hf⟩ := ob1_inv hf
        refine xk_i (xrunV (C := R_Hi) (As := [.int x6_6, .int (imin a2 (x6_6 + a3))]) (rest := []) ⟨hx, hb, hml, hown, hts⟩ (c_Hi_freeEnd l dC dI ty ad ta H.size co_rows co_marks co_rowSets co_partners co_open co_count tr_kinds tr_lefts tr_rights tr_seconds tr_size gr_kinds gr_nodes gr_rowSets gr_firstStates gr_targetCounts gr_targets gr_stepScores gr_letterScores gr_size tx_letters tx_length va_scores va_knownEnds hi_begins_6 hi_lengths_6 hi_scores_6 hi_taken hi_count de_states de_begins de_lengths de_length x6_6 (imin a2 (x6_6 + a3)) r2 hc3) z_Hi_39 ⟨⟨rfl, rfl⟩, by decide, by decide⟩ hK hP hD hN hS hA (va_recv hK hP (ci := 6) (q0 := 24) rfl rfl) rfl hl.1 rfl (Nat.le_of_ble_eq_true rfl) d_Hi_findNext_23 ⟨Nat.zero_le _, Nat.zero_le _⟩) hS hD rfl hA (fun H locs hP hD hS => ?_)
        refine W.eq (g2 := F0 m 26 ls [.int r2]) rfl ?_
        refine lv_istore (lv' := [(7, .int r2), (0, .ref (ad 24)), (1, .ref (ad 22)), (2, .int a2), (3, .int a3), (4, .int a4), (5, .int x5_6), (6, .int x6_6)]) hx hb d_Hi_findNext_26 hl (by decide) rfl (fun ls hl => ?_)
        refine lv_iconst (v := 1) hx hb d_Hi_findNext_28 (by decide) ?_
        refine lv_istore (lv' := [(8, .int (1 : Int32)), (7, .int r2), (0, .ref (ad 24)), (1, .ref (ad 22)), (2, .int a2), (3, .int a3), (4, .int a4), (5, .int x5_6), (6, .int x6_6)]) hx hb d_Hi_findNext_29 hl (by decide) rfl (fun ls hl => ?_)
        have K31_104 : ∀ (x5_31 : Int32) (x8_31 : Int32) (hi_begins_31 : (Nat → Int32)) (hi_lengths_31 : (Nat → Int32)) (hi_scores_31 : (Nat → Int32)) (H : Heap) (locs : List Loc) (ls : Array Slot), va_P (dC, dI) classes (wX ty ad co_rows co_marks co_rowSets co_partners co_open co_count tr_kinds tr_lefts tr_rights tr_seconds tr_size gr_kinds gr_nodes gr_rowSets gr_firstStates gr_targetCounts gr_targets gr_stepScores gr_letterScores gr_size tx_letters tx_length va_scores va_knownEnds hi_begins_31 hi_lengths_31 hi_scores_31 hi_taken hi_count de_states de_begins de_lengths de_length) H → va_D A (wX ty ad co_rows co_marks co_rowSets co_partners co_open co_count tr_kinds tr_lefts tr_rights tr_seconds tr_size gr_kinds gr_nodes gr_rowSets gr_firstStates gr_targetCounts gr_targets gr_stepScores gr_letterScores gr_size tx_letters tx_length va_scores va_knownEnds hi_begins_31 hi_lengths_31 hi_scores_31 hi_taken hi_count de_states de_begins de_lengths de_length) → va_S A s.heap H locs → lv_has ls 10 [(0, .ref (ad 24)), (1, .ref (ad 22)), (2, .int a2), (3, .int a3), (4, .int a4), (5, .int x5_31), (6, .int x6_6)] → f_Hi_findNext_K31_104 x6_6 (f_Hi_findNext_L6 va_scores hi_taken hi_count a2 a3 a4 (f_Hi_findNext_K6_110 hi_taken hi_count) n6) x5_31 x8_31 hi_begins_31 hi_lengths_31 hi_scores_31 = some (r0, n_hi_begins, n_hi_lengths, n_hi_scores, n_hi_taken, n_hi_count) → W p l e rm_Hi_findNext s m (List.toArray [.ref (ad 24), .ref (ad 22), .int a2, .int a3, .int a4]) below meth c H locs 0 0 Q (F0 m 104 ls []) := by
          intro x5_31 x8_31 hi_begins_31 hi_lengths_31 hi_scores_31 H locs ls hP hD hS hl hf
          rw [f_Hi_findNext_K31_104] at hf
          refine lv_iinc (v := (x6_6 + (1 : Int32))) (lv' := [(6, .int (x6_6 + (1 : Int32))), (0, .ref (ad 24)), (1, .ref (ad 22)), (2, .int a2), (3, .int a3), (4, .int a4), (5, .int x5_31)]) hx hb d_Hi_findNext_104 hl (k := 6) rfl rfl (by decide) rfl (fun ls hl => ?_)
          refine lv_goto (tgt := 6) hx hb d_Hi_findNext_107 (by decide) ?_
          exact ih6 x5_31 (x6_6 + (1 : Int32)) hi_begins_31 hi_lengths_31 hi_scores_31 _ _ _ hP hD hS (lv_sub hl [1, 2, 3, 4, 5, 6, 0] rfl) hf
        have L31 : ∀ (n31 : Nat), ∀ (x5_31 : Int32) (x8_31 : Int32) (hi_begins_31 : (Nat → Int32)) (hi_lengths_31 : (Nat → Int32)) (hi_scores_31 : (Nat → Int32)) (H : Heap) (locs : List Loc) (ls : Array Slot), va_P (dC, dI) classes (wX ty ad co_rows co_marks co_rowSets co_partners co_open co_count tr_kinds tr_lefts tr_rights tr_seconds tr_size gr_kinds gr_nodes gr_rowSets gr_firstStates gr_targetCounts gr_targets gr_stepScores gr_letterScores gr_size tx_letters tx_length va_scores va_knownEnds hi_begins_31 hi_lengths_31 hi_scores_31 hi_taken hi_count de_states de_begins de_lengths de_length) H → va_D A (wX ty ad co_rows co_marks co_rowSets co_partners co_open co_count tr_kinds tr_lefts tr_rights tr_seconds tr_size gr_kinds gr_nodes gr_rowSets gr_firstStates gr_targetCounts gr_targets gr_stepScores gr_letterScores gr_size tx_letters tx_length va_scores va_knownEnds hi_begins_31 hi_lengths_31 hi_scores_31 hi_taken hi_count de_states de_begins de_lengths de_length) → va_S A s.heap H locs → lv_has ls 10 [(0, .ref (ad 24)), (1, .ref (ad 22)), (2, .int a2), (3, .int a3), (4, .int a4), (5, .int x5_31), (6, .int x6_6), (7, .int r2), (8, .int x8_31)] → f_Hi_findNext_L31 va_scores hi_count a4 x6_6 r2 (f_Hi_findNext_K31_104 x6_6 (f_Hi_findNext_L6 va_scores hi_taken hi_count a2 a3 a4 (f_Hi_findNext_K6_110 hi_taken hi_count) n6)) n31 x5_31 x8_31 hi_begins_31 hi_lengths_31 hi_scores_31 = some (r0, n_hi_begins, n_hi_lengths, n_hi_scores, n_hi_taken, n_hi_count) → W p l e rm_Hi_findNext s m (List.toArray [.ref (ad 24), .ref (ad 22), .int a2, .int a3, .int a4]) below meth c H locs 0 0 Q (F0 m 31 ls []) := by
          intro n31
          induction n31 with
          | zero =>
            intro x5_31 x8_31 hi_begins_31 hi_lengths_31 hi_scores_31 H locs ls hP hD hS hl hf
            rw [f_Hi_findNext_L31] at hf
            cases hf
          | succ n31 ih31 =>
            intro x5_31 x8_31 hi_begins_31 hi_lengths_31 hi_scores_31 H locs ls hP hD hS hl hf
            rw [f_Hi_findNext_L31] at hf
            refine lv_iload hx hb d_Hi_findNext_31 (lv_at hl 8 rfl) ?_
            refine lv_iload hx hb d_Hi_findNext_33 (lv_at hl 7 rfl) ?_
            refine lv_iload hx hb d_Hi_findNext_35 (lv_at hl 6 rfl) ?_
            refine lv_isub hx hb d_Hi_findNext_37 ?_
            refine lv_icmp_gt (tgt := 104) hx hb d_Hi_findNext_38 (by decide) (fun c4 => ?_) (fun c4 => ?_)
            · have hf := xif_t c4 hf
              exact K31_104 x5_31 x8_31 hi_begins_31 hi_lengths_31 hi_scores_31 _ _ _ hP hD hS (lv_sub hl [0, 1, 2, 3, 4, 5, 6] rfl) hf
            · have hf := xif_f c4 hf
              refine lv_aload_n hx hb d_Hi_findNext_41 rfl (lv_at hl 1 rfl) ?_
              refine lv_iconst (v := 0) hx hb d_Hi_findNext_42 (by decide) ?_
              refine lv_iload hx hb d_Hi_findNext_43 (lv_at hl 6 rfl) ?_
              refine lv_iload hx hb d_Hi_findNext_45 (lv_at hl 8 rfl) ?_
              obtain ⟨r5, hc6, hf⟩ := ob1_inv hf
              refine xk_i (xrunV (C := R_Va) (As := [.int (0 : Int32), .int x6_6, .int x8_31]) (rest := []) ⟨hx, hb, hml, hown, hts⟩ (c_Va_of l dC dI ty ad ta H.size co_rows co_marks co_rowSets co_partners co_open co_count tr_kinds tr_lefts tr_rights tr_seconds tr_size gr_kinds gr_nodes gr_rowSets gr_firstStates gr_targetCounts gr_targets gr_stepScores gr_letterScores gr_size tx_letters tx_length va_scores va_knownEnds hi_begins_31 hi_lengths_31 hi_scores_31 hi_taken hi_count de_states de_begins de_lengths de_length (0 : Int32) x6_6 x8_31 r5 hc6) z_Hi_42 ⟨⟨rfl, rfl⟩, by decide, by decide⟩ hK hP hD hN hS hA (va_recv hK hP (ci := 5) (q0 := 22) rfl rfl) rfl hl.1 rfl (Nat.le_of_ble_eq_true rfl) d_Hi_findNext_47 ⟨Nat.zero_le _, Nat.zero_le _⟩) hS hD rfl hA (fun H locs hP hD hS => ?_)
              refine W.eq (g2 := F0 m 50 ls [.int r5]) rfl ?_
              refine lv_istore (lv' := [(9, .int r5), (0, .ref (ad 24)), (1, .ref (ad 22)), (2, .int a2), (3, .int a3), (4, .int a4), (5, .int x5_31), (6, .int x6_6), (7, .int r2), (8, .int x8_31)]) hx hb d_Hi_findNext_50 hl (by decide) rfl (fun ls hl => ?_)
              refine lv_iload hx hb d_Hi_findNext_52 (lv_at hl 0 rfl) ?_
              refine lv_ldc (v := -1000000) hx hb hown (hts _ m_618) d_Hi_findNext_54 ?_
              refine lv_icmp_eq (tgt := 98) hx hb d_Hi_findNext_56 (by decide) (fun c7 => ?_) (fun c7 => ?_)
              · have hf := xif_t c7 hf
                refine lv_iinc (v := (x8_31 + (1 : Int32))) (lv' := [(8, .int (x8_31 + (1 : Int32))), (9, .int r5), (0, .ref (ad 24)), (1, .ref (ad 22)), (2, .int a2), (3, .int a3), (4, .int a4), (5, .int x5_31), (6, .int x6_6), (7, .int r2)]) hx hb d_Hi_findNext_98 hl (k := 9) rfl rfl (by decide) rfl (fun ls hl => ?_)
                refine lv_goto (tgt := 31) hx hb d_Hi_findNext_101 (by decide) ?_
                exact ih31 x5_31 (x8_31 + (1 : Int32)) hi_begins_31 hi_lengths_31 hi_scores_31 _ _ _ hP hD hS (lv_sub hl [2, 3, 4, 5, 6, 7, 8, 9, 0] rfl) hf
              · have hf := xif_f c7 hf
                refine lv_iload hx hb d_Hi_findNext_59 (lv_at hl 0 rfl) ?_
                refine lv_iload hx hb d_Hi_findNext_61 (lv_at hl 5 rfl) ?_
                refine lv_icmp_lt (tgt := 98) hx hb d_Hi_findNext_63 (by decide) (fun c8 => ?_) (fun c8 => ?_)
                · have hf := xif_t c8 hf
                  refine lv_iinc (v := (x8_31 + (1 : Int32))) (lv' := [(8, .int (x8_31 + (1 : Int32))), (9, .int r5), (0, .ref (ad 24)), (1, .ref (ad 22)), (2, .int a2), (3, .int a3), (4, .int a4), (5, .int x5_31), (6, .int x6_6), (7, .int r2)]) hx hb d_Hi_findNext_98 hl (k := 9) rfl rfl (by decide) rfl (fun ls hl => ?_)
                  refine lv_goto (tgt := 31) hx hb d_Hi_findNext_101 (by decide) ?_
                  exact ih31 x5_31 (x8_31 + (1 : Int32)) hi_begins_31 hi_lengths_31 hi_scores_31 _ _ _ hP hD hS (lv_sub hl [2, 3, 4, 5, 6, 7, 8, 9, 0] rfl) hf
                · have hf := xif_f c8 hf
                  refine lv_iload hx hb d_Hi_findNext_66 (lv_at hl 6 rfl) ?_
                  have J85 : ∀  (H : Heap) (locs : List Loc) (ls : Array Slot), va_P (dC, dI) classes (wX ty ad co_rows co_marks co_rowSets co_partners co_open co_count tr_kinds tr_lefts tr_rights tr_seconds tr_size gr_kinds gr_nodes gr_rowSets gr_firstStates gr_targetCounts gr_targets gr_stepScores gr_letterScores gr_size tx_letters tx_length va_scores va_knownEnds hi_begins_31 hi_lengths_31 hi_scores_31 hi_taken hi_count de_states de_begins de_lengths de_length) H → va_D A (wX ty ad co_rows co_marks co_rowSets co_partners co_open co_count tr_kinds tr_lefts tr_rights tr_seconds tr_size gr_kinds gr_nodes gr_rowSets gr_firstStates gr_targetCounts gr_targets gr_stepScores gr_letterScores gr_size tx_letters tx_length va_scores va_knownEnds hi_begins_31 hi_lengths_31 hi_scores_31 hi_taken hi_count de_states de_begins de_lengths de_length) → va_S A s.heap H locs → lv_has ls 10 [(0, .ref (ad 24)), (1, .ref (ad 22)), (2, .int a2), (3, .int a3), (4, .int a4), (6, .int x6_6), (7, .int r2), (8, .int x8_31), (9, .int r5)] → f_Hi_findNext_J85 hi_count x6_6 x8_31 hi_begins_31 hi_lengths_31 hi_scores_31 (f_Hi_findNext_L31 va_scores hi_count a4 x6_6 r2 (f_Hi_findNext_K31_104 x6_6 (f_Hi_findNext_L6 va_scores hi_taken hi_count a2 a3 a4 (f_Hi_findNext_K6_110 hi_taken hi_count) n6)) n31) r5 = some (r0, n_hi_begins, n_hi_lengths, n_hi_scores, n_hi_taken, n_hi_count) → W p l e rm_Hi_findNext s m (List.toArray [.ref (ad 24), .ref (ad 22), .int a2, .int a3, .int a4]) below meth c H locs 0 0 Q (F0 m 85 ls []) := by
                    intro  H locs ls hP hD hS hl hf
                    rw [f_Hi_findNext_J85] at hf
                    refine lv_aload_n hx hb d_Hi_findNext_85 rfl (lv_at hl 0 rfl) ?_
                    refine lv_iload hx hb d_Hi_findNext_86 (lv_at hl 5 rfl) ?_
                    refine lv_iload hx hb d_Hi_findNext_88 (lv_at hl 7 rfl) ?_
                    refine lv_iload hx hb d_Hi_findNext_90 (lv_at hl 8 rfl) ?_
                    obtain ⟨w9, w10, w11, hc12, hf⟩ := ob3_inv hf
                    refine xk_v (xrunV (C := R_Hi) (As := [.int x6_6, .int x8_31, .int r5]) (rest := []) ⟨hx, hb, hml, hown, hts⟩ (c_Hi_note l dC dI ty ad ta H.size co_rows co_marks co_rowSets co_partners co_open co_count tr_kinds tr_lefts tr_rights tr_seconds tr_size gr_kinds gr_nodes gr_rowSets gr_firstStates gr_targetCounts gr_targets gr_stepScores gr_letterScores gr_size tx_letters tx_length va_scores va_knownEnds hi_begins_31 hi_lengths_31 hi_scores_31 hi_taken hi_count de_states de_begins de_lengths de_length x6_6 x8_31 r5 w9 w10 w11 hc12) z_Hi_49 ⟨⟨rfl, rfl⟩, by decide, by decide⟩ hK hP hD hN hS hA (va_recv hK hP (ci := 6) (q0 := 24) rfl rfl) rfl hl.1 rfl (Nat.le_of_ble_eq_true rfl) d_Hi_findNext_92 ⟨Nat.zero_le _, Nat.zero_le _⟩) hS hD rfl hA (fun H locs hP hD hS => ?_)
                    refine W.eq (g2 := F0 m 95 ls []) rfl ?_
                    refine lv_iconst (v := 1) hx hb d_Hi_findNext_95 (by decide) ?_
                    refine lv_istore (lv' := [(5, .int (1 : Int32)), (0, .ref (ad 24)), (1, .ref (ad 22)), (2, .int a2), (3, .int a3), (4, .int a4), (6, .int x6_6), (7, .int r2), (8, .int x8_31), (9, .int r5)]) hx hb d_Hi_findNext_96 hl (by decide) rfl (fun ls hl => ?_)
                    refine lv_iinc (v := (x8_31 + (1 : Int32))) (lv' := [(8, .int (x8_31 + (1 : Int32))), (5, .int (1 : Int32)), (0, .ref (ad 24)), (1, .ref (ad 22)), (2, .int a2), (3, .int a3), (4, .int a4), (6, .int x6_6), (7, .int r2), (9, .int r5)]) hx hb d_Hi_findNext_98 hl (k := 8) rfl rfl (by decide) rfl (fun ls hl => ?_)
                    refine lv_goto (tgt := 31) hx hb d_Hi_findNext_101 (by decide) ?_
                    exact ih31 (1 : Int32) (x8_31 + (1 : Int32)) w9 w10 w11 _ _ _ hP hD hS (lv_sub hl [2, 3, 4, 5, 6, 1, 7, 8, 0] rfl) hf
                  refine lv_if_eq (tgt := 85) hx hb d_Hi_findNext_68 (by decide) (fun c13 => ?_) (fun c13 => ?_)
                  · have hf := xif_t c13 hf
                    exact J85  _ _ _ hP hD hS (lv_sub hl [1, 2, 3, 4, 5, 7, 8, 9, 0] rfl) hf
                  · have hf := xif_f c13 hf
                    refine lv_iload hx hb d_Hi_findNext_71 (lv_at hl 0 rfl) ?_
                    refine lv_aload_n hx hb d_Hi_findNext_73 rfl (lv_at hl 1 rfl) ?_
                    refine va_get (D := (dC, dI)) (ci := 6) (v := .ref (ad 27)) (C := R_Hi) (T := F_Hi) (N := 5) hx hb hts iw_Hi hown hK hP 24 rfl rfl 2 (by decide) (hts _ m_206) (fun _ h9 => h9) rfl d_Hi_findNext_74 ?_
                    refine lv_aload_n hx hb d_Hi_findNext_77 rfl (lv_at hl 1 rfl) ?_
                    refine va_get (D := (dC, dI)) (ci := 6) (v := .int hi_count) (C := R_Hi) (T := F_Hi) (N := 5) hx hb hts iw_Hi hown hK hP 24 rfl rfl 4 (by decide) (hts _ m_208) (fun _ h9 => h9) rfl d_Hi_findNext_78 ?_
                    obtain ⟨hi14, hf⟩ := gdi hf
                    refine va_iald hx hb hK hP 27 0 rfl rfl hi14 d_Hi_findNext_81 ?_
                    refine lv_icmp_le (tgt := 98) hx hb d_Hi_findNext_82 (by decide) (fun c15 => ?_) (fun c15 => ?_)
                    · have hf := xif_t c15 hf
                      refine lv_iinc (v := (x8_31 + (1 : Int32))) (lv' := [(8, .int (x8_31 + (1 : Int32))), (9, .int r5), (0, .ref (ad 24)), (1, .ref (ad 22)), (2, .int a2), (3, .int a3), (4, .int a4), (5, .int x5_31), (6, .int x6_6), (7, .int r2)]) hx hb d_Hi_findNext_98 hl (k := 9) rfl rfl (by decide) rfl (fun ls hl => ?_)
                      refine lv_goto (tgt := 31) hx hb d_Hi_findNext_101 (by decide) ?_
                      exact ih31 x5_31 (x8_31 + (1 : Int32)) hi_begins_31 hi_lengths_31 hi_scores_31 _ _ _ hP hD hS (lv_sub hl [2, 3, 4, 5, 6, 7, 8, 9, 0] rfl) hf
                    · have hf := xif_f c15 hf
                      exact J85  _ _ _ hP hD hS (lv_sub hl [1, 2, 3, 4, 5, 7, 8, 9, 0] rfl) hf
        exact L31 1000 x5_6 (1 : Int32) hi_begins_6 hi_lengths_6 hi_scores_6 _ _ _ hP hD hS (lv_sub hl [2, 3, 4, 5, 6, 7, 8, 1, 0] rfl) hf
  exact L6 1000 (0 : Int32) (0 : Int32) hi_begins hi_lengths hi_scores _ _ _ hP hD hS (lv_sub hl [2, 3, 4, 5, 6, 1, 0] rfl) hf
def f_Hi_find_K35_63  (x5_35 : Int32) (x6_35 : Int32) (hi_begins_35 : (Nat → Int32)) (hi_lengths_35 : (Nat → Int32)) (hi_scores_35 : (Nat → Int32)) (hi_taken_35 : (Nat → Int32)) (hi_count_35 : Int32) : Option ((Nat → Int32) × (Nat → Int32) × (Nat → Int32) × (Nat → Int32) × Int32) := some (hi_begins_35, hi_lengths_35, hi_scores_35, hi_taken_35, hi_count_35)
def f_Hi_find_L35 (va_scores : (Nat → Int32)) (a2 : Int32) (a3 : Int32) (a4 : Int32) (k35_63 : (Int32 → Int32 → (Nat → Int32) → (Nat → Int32) → (Nat → Int32) → (Nat → Int32) → Int32 → Option ((Nat → Int32) × (Nat → Int32) × (Nat → Int32) × (Nat → Int32) × Int32))) : Nat → Int32 → Int32 → (Nat → Int32) → (Nat → Int32) → (Nat → Int32) → (Nat → Int32) → Int32 → Option ((Nat → Int32) × (Nat → Int32) × (Nat → Int32) × (Nat → Int32) × Int32)
  | 0, _, _, _, _, _, _, _ => none
  | n35 + 1, x5_35, x6_35, hi_begins_35, hi_lengths_35, hi_scores_35, hi_taken_35, hi_count_35 => if a2 ≤ x6_35 then (k35_63 x5_35 x6_35 hi_begins_35 hi_lengths_35 hi_scores_35 hi_taken_35 hi_count_35) else (if x5_35 = (0 : Int32) then (k35_63 x5_35 x6_35 hi_begins_35 hi_lengths_35 hi_scores_35 hi_taken_35 hi_count_35) else (ob6 (f_Hi_findNext va_scores hi_begins_35 hi_lengths_35 hi_scores_35 hi_taken_35 hi_count_35 a2 a3 a4) (fun r5 w6 w7 w8 w9 w10 => (f_Hi_find_L35 va_scores a2 a3 a4 k35_63 n35) r5 (x6_35 + (1 : Int32)) w6 w7 w8 w9 w10)))
def f_Hi_find_K8_29 (va_scores : (Nat → Int32)) (hi_begins : (Nat → Int32)) (hi_lengths : (Nat → Int32)) (hi_scores : (Nat → Int32)) (a2 : Int32) (a3 : Int32) (a4 : Int32) (x5_8 : Int32) (hi_taken_8 : (Nat → Int32)) : Option ((Nat → Int32) × (Nat → Int32) × (Nat → Int32) × (Nat → Int32) × Int32) := f_Hi_find_L35 va_scores a2 a3 a4 (f_Hi_find_K35_63) 1000 (1 : Int32) (0 : Int32) hi_begins hi_lengths hi_scores hi_taken_8 (0 : Int32)
def f_Hi_find_L8 (k8_29 : (Int32 → (Nat → Int32) → Option ((Nat → Int32) × (Nat → Int32) × (Nat → Int32) × (Nat → Int32) × Int32))) : Nat → Int32 → (Nat → Int32) → Option ((Nat → Int32) × (Nat → Int32) × (Nat → Int32) × (Nat → Int32) × Int32)
  | 0, _, _ => none
  | n8 + 1, x5_8, hi_taken_8 => if (24 : Int32) ≤ x5_8 then (k8_29 x5_8 hi_taken_8) else (gd (xin x5_8 24) ((f_Hi_find_L8 k8_29 n8) (x5_8 + (1 : Int32)) (upd hi_taken_8 (Int32.toNatClampNeg x5_8) (vp_nar .boolean (0 : Int32)))))
def f_Hi_find (va_scores : (Nat → Int32)) (hi_begins : (Nat → Int32)) (hi_lengths : (Nat → Int32)) (hi_scores : (Nat → Int32)) (hi_taken : (Nat → Int32)) (hi_count : Int32) (a2 : Int32) (a3 : Int32) (a4 : Int32) : Option ((Nat → Int32) × (Nat → Int32) × (Nat → Int32) × (Nat → Int32) × Int32) := f_Hi_find_L8 (f_Hi_find_K8_29 va_scores hi_begins hi_lengths hi_scores a2 a3 a4) 1000 (0 : Int32) hi_taken
set_option maxHeartbeats 4000000 in
set_option maxRecDepth 100000 in
theorem c_Hi_find (l : Launch) (dC : Nat → ClassId) (dI : Nat → Nat → Nat) (ty : Nat → ClassId) (ad : Nat → Nat) (ta : Nat → Nat) (sz : Nat) (co_rows : Int32) (co_marks : (Nat → Int32)) (co_rowSets : (Nat → Int32)) (co_partners : (Nat → Int32)) (co_open : (Nat → Int32)) (co_count : Int32) (tr_kinds : (Nat → Int32)) (tr_lefts : (Nat → Int32)) (tr_rights : (Nat → Int32)) (tr_seconds : (Nat → Int32)) (tr_size : Int32) (gr_kinds : (Nat → Int32)) (gr_nodes : (Nat → Int32)) (gr_rowSets : (Nat → Int32)) (gr_firstStates : (Nat → Int32)) (gr_targetCounts : (Nat → Int32)) (gr_targets : (Nat → Int32)) (gr_stepScores : (Nat → Int32)) (gr_letterScores : (Nat → Int32)) (gr_size : Int32) (tx_letters : (Nat → Int32)) (tx_length : Int32) (va_scores : (Nat → Int32)) (va_knownEnds : Int32) (hi_begins : (Nat → Int32)) (hi_lengths : (Nat → Int32)) (hi_scores : (Nat → Int32)) (hi_taken : (Nat → Int32)) (hi_count : Int32) (de_states : (Nat → Int32)) (de_begins : (Nat → Int32)) (de_lengths : (Nat → Int32)) (de_length : Int32) (a2 : Int32) (a3 : Int32) (a4 : Int32) (n_hi_begins : (Nat → Int32)) (n_hi_lengths : (Nat → Int32)) (n_hi_scores : (Nat → Int32)) (n_hi_taken : (Nat → Int32)) (n_hi_count : Int32) (hf : f_Hi_find va_scores hi_begins hi_lengths hi_scores hi_taken hi_count a2 a3 a4 = some (n_hi_begins, n_hi_lengths, n_hi_scores, n_hi_taken, n_hi_count)) : Met l y_Hi_find (.code y_Hi_find prog_5_method_8_code 7 none :: gw) rm_Hi_find (xPre ta (dC, dI) classes (tys3 ty) (wX ty ad co_rows co_marks co_rowSets co_partners co_open co_count tr_kinds tr_lefts tr_rights tr_seconds tr_size gr_kinds gr_nodes gr_rowSets gr_firstStates gr_targetCounts gr_targets gr_stepScores gr_letterScores gr_size tx_letters tx_length va_scores va_knownEnds hi_begins hi_lengths hi_scores hi_taken hi_count de_states de_begins de_lengths de_length) sz [.ref (ad 24), .ref (ad 22), .int a2, .int a3, .int a4]) (xQv (dC, dI) classes (wX ty ad co_rows co_marks co_rowSets co_partners co_open co_count tr_kinds tr_lefts tr_rights tr_seconds tr_size gr_kinds gr_nodes gr_rowSets gr_firstStates gr_targetCounts gr_targets gr_stepScores gr_letterScores gr_size tx_letters tx_length va_scores va_knownEnds hi_begins hi_lengths hi_scores hi_taken hi_count de_states de_begins de_lengths de_length) (wX ty ad co_rows co_marks co_rowSets co_partners co_open co_count tr_kinds tr_lefts tr_rights tr_seconds tr_size gr_kinds gr_nodes gr_rowSets gr_firstStates gr_targetCounts gr_targets gr_stepScores gr_letterScores gr_size tx_letters tx_length va_scores va_knownEnds n_hi_begins n_hi_lengths n_hi_scores n_hi_taken n_hi_count de_states de_begins de_lengths de_length) sz) 0 0 (va_A (wX ty ad co_rows co_marks co_rowSets co_partners co_open co_count tr_kinds tr_lefts tr_rights tr_seconds tr_size gr_kinds gr_nodes gr_rowSets gr_firstStates gr_targetCounts gr_targets gr_stepScores gr_letterScores gr_size tx_letters tx_length va_scores va_knownEnds hi_begins hi_lengths hi_scores hi_taken hi_count de_states de_begins de_lengths de_length) sz) := by
  refine xmet_v rfl (Nat.le_of_ble_eq_true rfl) ?_
  intro p e s m below meth c A ls Q hx hb hml hts hown hK hN hA hP hD hS hl hret
  replace hown : s.vm.findClass R_Hi = some m.cls := hown
  have hl : lv_has ls 7 [(0, .ref (ad 24)), (1, .ref (ad 22)), (2, .int a2), (3, .int a3), (4, .int a4)] := hl
  rw [f_Hi_find] at hf
  obtain ⟨H, eH⟩ : ∃ H : Heap, H = s.heap := ⟨_, rfl⟩
  obtain ⟨locs, eL⟩ : ∃ L : List Loc, L = [] := ⟨_, rfl⟩
  have hP : va_P (dC, dI) classes (wX ty ad co_rows co_marks co_rowSets co_partners co_open co_count tr_kinds tr_lefts tr_rights tr_seconds tr_size gr_kinds gr_nodes gr_rowSets gr_firstStates gr_targetCounts gr_targets gr_stepScores gr_letterScores gr_size tx_letters tx_length va_scores va_knownEnds hi_begins hi_lengths hi_scores hi_taken hi_count de_states de_begins de_lengths de_length) H := by rw [eH]; exact hP
  have hS : va_S A s.heap H locs := by rw [eH, eL]; exact hS
  rw [← eL]
  suffices hgoal : W p l e rm_Hi_find s m (List.toArray [.ref (ad 24), .ref (ad 22), .int a2, .int a3, .int a4]) below meth c H locs 0 0 Q (F0 m 0 ls []) by rw [eH] at hgoal; exact hgoal
  clear eH eL
  refine lv_aload_n hx hb d_Hi_find_0 rfl (lv_at hl 0 rfl) ?_
  refine lv_iconst (v := 0) hx hb d_Hi_find_1 (by decide) ?_
  refine va_put (D := (dC, dI)) (ci := 6) (v := .int (0 : Int32)) (ty := .int) (C := R_Hi) (T := F_Hi) (N := 5) hx hb hts iw_Hi t_Hi t_Hi_ok n_Hi hown hK hP hD hS 24 rfl rfl 4 (by decide) (hts _ m_208) (fun _ h9 => h9) rfl (by decide +kernel) rfl rfl (Nat.le_of_ble_eq_true rfl) d_Hi_find_2 (fun H locs hP hD hS => ?_)
  have hP : va_P (dC, dI) classes (wX ty ad co_rows co_marks co_rowSets co_partners co_open co_count tr_kinds tr_lefts tr_rights tr_seconds tr_size gr_kinds gr_nodes gr_rowSets gr_firstStates gr_targetCounts gr_targets gr_stepScores gr_letterScores gr_size tx_letters tx_length va_scores va_knownEnds hi_begins hi_lengths hi_scores hi_taken (0 : Int32) de_states de_begins de_lengths de_length) H := hP
  have hD : va_D A (wX ty ad co_rows co_marks co_rowSets co_partners co_open co_count tr_kinds tr_lefts tr_rights tr_seconds tr_size gr_kinds gr_nodes gr_rowSets gr_firstStates gr_targetCounts gr_targets gr_stepScores gr_letterScores gr_size tx_letters tx_length va_scores va_knownEnds hi_begins hi_lengths hi_scores hi_taken (0 : Int32) de_states de_begins de_lengths de_length) := hD
  refine lv_iconst (v := 0) hx hb d_Hi_find_5 (by decide) ?_
  refine lv_istore (lv' := [(5, .int (0 : Int32)), (0, .ref (ad 24)), (1, .ref (ad 22)), (2, .int a2), (3, .int a3), (4, .int a4)]) hx hb d_Hi_find_6 hl (by decide) rfl (fun ls hl => ?_)
  have K8_29 : ∀ (x5_8 : Int32) (hi_taken_8 : (Nat → Int32)) (H : Heap) (locs : List Loc) (ls : Array Slot), va_P (dC, dI) classes (wX ty ad co_rows co_marks co_rowSets co_partners co_open co_count tr_kinds tr_lefts tr_rights tr_seconds tr_size gr_kinds gr_nodes gr_rowSets gr_firstStates gr_targetCounts gr_targets gr_stepScores gr_letterScores gr_size tx_letters tx_length va_scores va_knownEnds hi_begins hi_lengths hi_scores hi_taken_8 (0 : Int32) de_states de_begins de_lengths de_length) H → va_D A (wX ty ad co_rows co_marks co_rowSets co_partners co_open co_count tr_kinds tr_lefts tr_rights tr_seconds tr_size gr_kinds gr_nodes gr_rowSets gr_firstStates gr_targetCounts gr_targets gr_stepScores gr_letterScores gr_size tx_letters tx_length va_scores va_knownEnds hi_begins hi_lengths hi_scores hi_taken_8 (0 : Int32) de_states de_begins de_lengths de_length) → va_S A s.heap H locs → lv_has ls 7 [(0, .ref (ad 24)), (1, .ref (ad 22)), (2, .int a2), (3, .int a3), (4, .int a4)] → f_Hi_find_K8_29 va_scores hi_begins hi_lengths hi_scores a2 a3 a4 x5_8 hi_taken_8 = some (n_hi_begins, n_hi_lengths, n_hi_scores, n_hi_taken, n_hi_count) → W p l e rm_Hi_find s m (List.toArray [.ref (ad 24), .ref (ad 22), .int a2, .int a3, .int a4]) below meth c H locs 0 0 Q (F0 m 29 ls []) := by
    intro x5_8 hi_taken_8 H locs ls hP hD hS hl hf
    rw [f_Hi_find_K8_29] at hf
    refine lv_iconst (v := 1) hx hb d_Hi_find_29 (by decide) ?_
    refine lv_istore (lv' := [(5, .int (1 : Int32)), (0, .ref (ad 24)), (1, .ref (ad 22)), (2, .int a2), (3, .int a3), (4, .int a4)]) hx hb d_Hi_find_30 hl (by decide) rfl (fun ls hl => ?_)
    refine lv_iconst (v := 0) hx hb d_Hi_find_32 (by decide) ?_
    refine lv_istore (lv' := [(6, .int (0 : Int32)), (5, .int (1 : Int32)), (0, .ref (ad 24)), (1, .ref (ad 22)), (2, .int a2), (3, .int a3), (4, .int a4)]) hx hb d_Hi_find_33 hl (by decide) rfl (fun ls hl => ?_)
    have K35_63 : ∀ (x5_35 : Int32) (x6_35 : Int32) (hi_begins_35 : (Nat → Int32)) (hi_lengths_35 : (Nat → Int32)) (hi_scores_35 : (Nat → Int32)) (hi_taken_35 : (Nat → Int32)) (hi_count_35 : Int32) (H : Heap) (locs : List Loc) (ls : Array Slot), va_P (dC, dI) classes (wX ty ad co_rows co_marks co_rowSets co_partners co_open co_count tr_kinds tr_lefts tr_rights tr_seconds tr_size gr_kinds gr_nodes gr_rowSets gr_firstStates gr_targetCounts gr_targets gr_stepScores gr_letterScores gr_size tx_letters tx_length va_scores va_knownEnds hi_begins_35 hi_lengths_35 hi_scores_35 hi_taken_35 hi_count_35 de_states de_begins de_lengths de_length) H → va_D A (wX ty ad co_rows co_marks co_rowSets co_partners co_open co_count tr_kinds tr_lefts tr_rights tr_seconds tr_size gr_kinds gr_nodes gr_rowSets gr_firstStates gr_targetCounts gr_targets gr_stepScores gr_letterScores gr_size tx_letters tx_length va_scores va_knownEnds hi_begins_35 hi_lengths_35 hi_scores_35 hi_taken_35 hi_count_35 de_states de_begins de_lengths de_length) → va_S A s.heap H locs → lv_has ls 7 [] → f_Hi_find_K35_63 x5_35 x6_35 hi_begins_35 hi_lengths_35 hi_scores_35 hi_taken_35 hi_count_35 = some (n_hi_begins, n_hi_lengths, n_hi_scores, n_hi_taken, n_hi_count) → W p l e rm_Hi_find s m (List.toArray [.ref (ad 24), .ref (ad 22), .int a2, .int a3, .int a4]) below meth c H locs 0 0 Q (F0 m 63 ls []) := by
      intro x5_35 x6_35 hi_begins_35 hi_lengths_35 hi_scores_35 hi_taken_35 hi_count_35 H locs ls hP hD hS hl hf
      rw [f_Hi_find_K35_63] at hf
      obtain ⟨rfl, rfl, rfl, rfl, rfl⟩ := os5 hf
      exact hret H locs _ _ d_Hi_find_63 hP hS
    have L35 : ∀ (n35 : Nat), ∀ (x5_35 : Int32) (x6_35 : Int32) (hi_begins_35 : (Nat → Int32)) (hi_lengths_35 : (Nat → Int32)) (hi_scores_35 : (Nat → Int32)) (hi_taken_35 : (Nat → Int32)) (hi_count_35 : Int32) (H : Heap) (locs : List Loc) (ls : Array Slot), va_P (dC, dI) classes (wX ty ad co_rows co_marks co_rowSets co_partners co_open co_count tr_kinds tr_lefts tr_rights tr_seconds tr_size gr_kinds gr_nodes gr_rowSets gr_firstStates gr_targetCounts gr_targets gr_stepScores gr_letterScores gr_size tx_letters tx_length va_scores va_knownEnds hi_begins_35 hi_lengths_35 hi_scores_35 hi_taken_35 hi_count_35 de_states de_begins de_lengths de_length) H → va_D A (wX ty ad co_rows co_marks co_rowSets co_partners co_open co_count tr_kinds tr_lefts tr_rights tr_seconds tr_size gr_kinds gr_nodes gr_rowSets gr_firstStates gr_targetCounts gr_targets gr_stepScores gr_letterScores gr_size tx_letters tx_length va_scores va_knownEnds hi_begins_35 hi_lengths_35 hi_scores_35 hi_taken_35 hi_count_35 de_states de_begins de_lengths de_length) → va_S A s.heap H locs → lv_has ls 7 [(0, .ref (ad 24)), (1, .ref (ad 22)), (2, .int a2), (3, .int a3), (4, .int a4), (5, .int x5_35), (6, .int x6_35)] → f_Hi_find_L35 va_scores a2 a3 a4 (f_Hi_find_K35_63) n35 x5_35 x6_35 hi_begins_35 hi_lengths_35 hi_scores_35 hi_taken_35 hi_count_35 = some (n_hi_begins, n_hi_lengths, n_hi_scores, n_hi_taken, n_hi_count) → W p l e rm_Hi_find s m (List.toArray [.ref (ad 24), .ref (ad 22), .int a2, .int a3, .int a4]) below meth c H locs 0 0 Q (F0 m 35 ls []) := by
      intro n35
      induction n35 with
      | zero =>
        intro x5_35 x6_35 hi_begins_35 hi_lengths_35 hi_scores_35 hi_taken_35 hi_count_35 H locs ls hP hD hS hl hf
        rw [f_Hi_find_L35] at hf
        cases hf
      | succ n35 ih35 =>
        intro x5_35 x6_35 hi_begins_35 hi_lengths_35 hi_scores_35 hi_taken_35 hi_count_35 H locs ls hP hD hS hl hf
        rw [f_Hi_find_L35] at hf
        refine lv_iload hx hb d_Hi_find_35 (lv_at hl 6 rfl) ?_
        refine lv_iload_n hx hb d_Hi_find_37 rfl (lv_at hl 2 rfl) ?_
        refine lv_icmp_ge (tgt := 63) hx hb d_Hi_find_38 (by decide) (fun c3 => ?_) (fun c3 => ?_)
        · have hf := xif_t c3 hf
          exact K35_63 x5_35 x6_35 hi_begins_35 hi_lengths_35 hi_scores_35 hi_taken_35 hi_count_35 _ _ _ hP hD hS (lv_sub hl [] rfl) hf
        · have hf := xif_f c3 hf
          refine lv_iload hx hb d_Hi_find_41 (lv_at hl 5 rfl) ?_
          refine lv_if_eq (tgt := 63) hx hb d_Hi_find_43 (by decide) (fun c4 => ?_) (fun c4 => ?_)
          · have hf := xif_t c4 hf
            exact K35_63 x5_35 x6_35 hi_begins_35 hi_lengths_35 hi_scores_35 hi_taken_35 hi_count_35 _ _ _ hP hD hS (lv_sub hl [] rfl) hf
          · have hf := xif_f c4 hf
            refine lv_aload_n hx hb d_Hi_find_46 rfl (lv_at hl 0 rfl) ?_
            refine lv_aload_n hx hb d_Hi_find_47 rfl (lv_at hl 1 rfl) ?_
            refine lv_iload_n hx hb d_Hi_find_48 rfl (lv_at hl 2 rfl) ?_
            refine lv_iload_n hx hb d_Hi_find_49 rfl (lv_at hl 3 rfl) ?_
            refine lv_iload hx hb d_Hi_find_50 (lv_at hl 4 rfl) ?_
            obtain ⟨r5, w6, w7, w8, w9, w10, hc11, hf⟩ := ob6_inv hf
            refine xk_i (xrunV (C := R_Hi) (As := [.ref (ad 22), .int a2, .int a3, .int a4]) (rest := []) ⟨hx, hb, hml, hown, hts⟩ (c_Hi_findNext l dC dI ty ad ta H.size co_rows co_marks co_rowSets co_partners co_open co_count tr_kinds tr_lefts tr_rights tr_seconds tr_size gr_kinds gr_nodes gr_rowSets gr_firstStates gr_targetCounts gr_targets gr_stepScores gr_letterScores gr_size tx_letters tx_length va_scores va_knownEnds hi_begins_35 hi_lengths_35 hi_scores_35 hi_taken_35 hi_count_35 de_states de_begins de_lengths de_length a2 a3 a4 r5 w6 w7 w8 w9 w10 hc11) z_Hi_29 ⟨⟨rfl, rfl⟩, by decide, by decide⟩ hK hP hD hN hS hA (va_recv hK hP (ci := 6) (q0 := 24) rfl rfl) rfl hl.1 rfl (Nat.le_of_ble_eq_true rfl) d_Hi_find_52 ⟨Nat.zero_le _, Nat.zero_le _⟩) hS hD rfl hA (fun H locs hP hD hS => ?_)
            refine W.eq (g2 := F0 m 55 ls [.int r5]) rfl ?_
            refine lv_istore (lv' := [(5, .int r5), (0, .ref (ad 24)), (1, .ref (ad 22)), (2, .int a2), (3, .int a3), (4, .int a4), (6, .int x6_35)]) hx hb d_Hi_find_55 hl (by decide) rfl (fun ls hl => ?_)
            refine lv_iinc (v := (x6_35 + (1 : Int32))) (lv' := [(6, .int (x6_35 + (1 : Int32))), (5, .int r5), (0, .ref (ad 24)), (1, .ref (ad 22)), (2, .int a2), (3, .int a3), (4, .int a4)]) hx hb d_Hi_find_57 hl (k := 6) rfl rfl (by decide) rfl (fun ls hl => ?_)
            refine lv_goto (tgt := 35) hx hb d_Hi_find_60 (by decide) ?_
            exact ih35 r5 (x6_35 + (1 : Int32)) w6 w7 w8 w9 w10 _ _ _ hP hD hS (lv_sub hl [2, 3, 4, 5, 6, 1, 0] rfl) hf
    exact L35 1000 (1 : Int32) (0 : Int32) hi_begins hi_lengths hi_scores hi_taken_8 (0 : Int32) _ _ _ hP hD hS (lv_sub hl [2, 3, 4, 5, 6, 1, 0] rfl) hf
  have L8 : ∀ (n8 : Nat), ∀ (x5_8 : Int32) (hi_taken_8 : (Nat → Int32)) (H : Heap) (locs : List Loc) (ls : Array Slot), va_P (dC, dI) classes (wX ty ad co_rows co_marks co_rowSets co_partners co_open co_count tr_kinds tr_lefts tr_rights tr_seconds tr_size gr_kinds gr_nodes gr_rowSets gr_firstStates gr_targetCounts gr_targets gr_stepScores gr_letterScores gr_size tx_letters tx_length va_scores va_knownEnds hi_begins hi_lengths hi_scores hi_taken_8 (0 : Int32) de_states de_begins de_lengths de_length) H → va_D A (wX ty ad co_rows co_marks co_rowSets co_partners co_open co_count tr_kinds tr_lefts tr_rights tr_seconds tr_size gr_kinds gr_nodes gr_rowSets gr_firstStates gr_targetCounts gr_targets gr_stepScores gr_letterScores gr_size tx_letters tx_length va_scores va_knownEnds hi_begins hi_lengths hi_scores hi_taken_8 (0 : Int32) de_states de_begins de_lengths de_length) → va_S A s.heap H locs → lv_has ls 7 [(0, .ref (ad 24)), (1, .ref (ad 22)), (2, .int a2), (3, .int a3), (4, .int a4), (5, .int x5_8)] → f_Hi_find_L8 (f_Hi_find_K8_29 va_scores hi_begins hi_lengths hi_scores a2 a3 a4) n8 x5_8 hi_taken_8 = some (n_hi_begins, n_hi_lengths, n_hi_scores, n_hi_taken, n_hi_count) → W p l e rm_Hi_find s m (List.toArray [.ref (ad 24), .ref (ad 22), .int a2, .int a3, .int a4]) below meth c H locs 0 0 Q (F0 m 8 ls []) := by
    intro n8
    induction n8 with
    | zero =>
      intro x5_8 hi_taken_8 H locs ls hP hD hS hl hf
      rw [f_Hi_find_L8] at hf
      cases hf
    | succ n8 ih8 =>
      intro x5_8 hi_taken_8 H locs ls hP hD hS hl hf
      rw [f_Hi_find_L8] at hf
      refine lv_iload hx hb d_Hi_find_8 (lv_at hl 5 rfl) ?_
      refine lv_bipush (v := 24) hx hb d_Hi_find_10 (by decide) ?_
      refine lv_icmp_ge (tgt := 29) hx hb d_Hi_find_12 (by decide) (fun c1 => ?_) (fun c1 => ?_)
      · have hf := xif_t c1 hf
        exact K8_29 x5_8 hi_taken_8 _ _ _ hP hD hS (lv_sub hl [0, 1, 2, 3, 4] rfl) hf
      · have hf := xif_f c1 hf
        refine lv_aload_n hx hb d_Hi_find_15 rfl (lv_at hl 0 rfl) ?_
        refine va_get (D := (dC, dI)) (ci := 6) (v := .ref (ad 28)) (C := R_Hi) (T := F_Hi) (N := 5) hx hb hts iw_Hi hown hK hP 24 rfl rfl 3 (by decide) (hts _ m_207) (fun _ h9 => h9) rfl d_Hi_find_16 ?_
        refine lv_iload hx hb d_Hi_find_19 (lv_at hl 5 rfl) ?_
        refine lv_iconst (v := 0) hx hb d_Hi_find_21 (by decide) ?_
        obtain ⟨hi2, hf⟩ := gdi hf
        refine va_zast hx hb hK hP hD hS 28 2 rfl rfl hi2 d_Hi_find_22 (fun H locs hP hD hS => ?_)
        have hP : va_P (dC, dI) classes (wX ty ad co_rows co_marks co_rowSets co_partners co_open co_count tr_kinds tr_lefts tr_rights tr_seconds tr_size gr_kinds gr_nodes gr_rowSets gr_firstStates gr_targetCounts gr_targets gr_stepScores gr_letterScores gr_size tx_letters tx_length va_scores va_knownEnds hi_begins hi_lengths hi_scores (upd hi_taken_8 (Int32.toNatClampNeg x5_8) (vp_nar .boolean (0 : Int32))) (0 : Int32) de_states de_begins de_lengths de_length) H := hP
        have hD : va_D A (wX ty ad co_rows co_marks co_rowSets co_partners co_open co_count tr_kinds tr_lefts tr_rights tr_seconds tr_size gr_kinds gr_nodes gr_rowSets gr_firstStates gr_targetCounts gr_targets gr_stepScores gr_letterScores gr_size tx_letters tx_length va_scores va_knownEnds hi_begins hi_lengths hi_scores (upd hi_taken_8 (Int32.toNatClampNeg x5_8) (vp_nar .boolean (0 : Int32))) (0 : Int32) de_states de_begins de_lengths de_length) := hD
        refine lv_iinc (v := (x5_8 + (1 : Int32))) (lv' := [(5, .int (x5_8 + (1 : Int32))), (0, .ref (ad 24)), (1, .ref (ad 22)), (2, .int a2), (3, .int a3), (4, .int a4)]) hx hb d_Hi_find_23 hl (k := 5) rfl rfl (by decide) rfl (fun ls hl => ?_)
        refine lv_goto (tgt := 8) hx hb d_Hi_find_26 (by decide) ?_
        exact ih8 (x5_8 + (1 : Int32)) (upd hi_taken_8 (Int32.toNatClampNeg x5_8) (vp_nar .boolean (0 : Int32))) _ _ _ hP hD hS (lv_sub hl [1, 2, 3, 4, 5, 0] rfl) hf
  exact L8 1000 (0 : Int32) hi_taken _ _ _ hP hD hS (lv_sub hl [1, 2, 3, 4, 5, 0] rfl) hf
def f_Hi_count (hi_count : Int32) : Option (Int32) := some (hi_count)
set_option maxHeartbeats 4000000 in
set_option maxRecDepth 100000 in
theorem c_Hi_count (l : Launch) (dC : Nat → ClassId) (dI : Nat → Nat → Nat) (ty : Nat → ClassId) (ad : Nat → Nat) (ta : Nat → Nat) (sz : Nat) (co_rows : Int32) (co_marks : (Nat → Int32)) (co_rowSets : (Nat → Int32)) (co_partners : (Nat → Int32)) (co_open : (Nat → Int32)) (co_count : Int32) (tr_kinds : (Nat → Int32)) (tr_lefts : (Nat → Int32)) (tr_rights : (Nat → Int32)) (tr_seconds : (Nat → Int32)) (tr_size : Int32) (gr_kinds : (Nat → Int32)) (gr_nodes : (Nat → Int32)) (gr_rowSets : (Nat → Int32)) (gr_firstStates : (Nat → Int32)) (gr_targetCounts : (Nat → Int32)) (gr_targets : (Nat → Int32)) (gr_stepScores : (Nat → Int32)) (gr_letterScores : (Nat → Int32)) (gr_size : Int32) (tx_letters : (Nat → Int32)) (tx_length : Int32) (va_scores : (Nat → Int32)) (va_knownEnds : Int32) (hi_begins : (Nat → Int32)) (hi_lengths : (Nat → Int32)) (hi_scores : (Nat → Int32)) (hi_taken : (Nat → Int32)) (hi_count : Int32) (de_states : (Nat → Int32)) (de_begins : (Nat → Int32)) (de_lengths : (Nat → Int32)) (de_length : Int32)  (r0 : Int32) (hf : f_Hi_count hi_count = some (r0)) : Met l y_Hi_count (.code y_Hi_count prog_5_method_2_code 1 (some .int) :: gw) rm_Hi_count (xPre ta (dC, dI) classes (tys3 ty) (wX ty ad co_rows co_marks co_rowSets co_partners co_open co_count tr_kinds tr_lefts tr_rights tr_seconds tr_size gr_kinds gr_nodes gr_rowSets gr_firstStates gr_targetCounts gr_targets gr_stepScores gr_letterScores gr_size tx_letters tx_length va_scores va_knownEnds hi_begins hi_lengths hi_scores hi_taken hi_count de_states de_begins de_lengths de_length) sz [.ref (ad 24)]) (xQi (dC, dI) classes (wX ty ad co_rows co_marks co_rowSets co_partners co_open co_count tr_kinds tr_lefts tr_rights tr_seconds tr_size gr_kinds gr_nodes gr_rowSets gr_firstStates gr_targetCounts gr_targets gr_stepScores gr_letterScores gr_size tx_letters tx_length va_scores va_knownEnds hi_begins hi_lengths hi_scores hi_taken hi_count de_states de_begins de_lengths de_length) (wX ty ad co_rows co_marks co_rowSets co_partners co_open co_count tr_kinds tr_lefts tr_rights tr_seconds tr_size gr_kinds gr_nodes gr_rowSets gr_firstStates gr_targetCounts gr_targets gr_stepScores gr_letterScores gr_size tx_letters tx_length va_scores va_knownEnds hi_begins hi_lengths hi_scores hi_taken hi_count de_states de_begins de_lengths de_length) sz r0) 0 0 (va_A (wX ty ad co_rows co_marks co_rowSets co_partners co_open co_count tr_kinds tr_lefts tr_rights tr_seconds tr_size gr_kinds gr_nodes gr_rowSets gr_firstStates gr_targetCounts gr_targets gr_stepScores gr_letterScores gr_size tx_letters tx_length va_scores va_knownEnds hi_begins hi_lengths hi_scores hi_taken hi_count de_states de_begins de_lengths de_length) sz) := by
  refine xmet_i rfl (Nat.le_of_ble_eq_true rfl) ?_
  intro p e s m below meth c A ls Q hx hb hml hts hown hK hN hA hP hD hS hl hret
  replace hown : s.vm.findClass R_Hi = some m.cls := hown
  have hl : lv_has ls 1 [(0, .ref (ad 24))] := hl
  rw [f_Hi_count] at hf
  obtain ⟨H, eH⟩ : ∃ H : Heap, H = s.heap := ⟨_, rfl⟩
  obtain ⟨locs, eL⟩ : ∃ L : List Loc, L = [] := ⟨_, rfl⟩
  have hP : va_P (dC, dI) classes (wX ty ad co_rows co_marks co_rowSets co_partners co_open co_count tr_kinds tr_lefts tr_rights tr_seconds tr_size gr_kinds gr_nodes gr_rowSets gr_firstStates gr_targetCounts gr_targets gr_stepScores gr_letterScores gr_size tx_letters tx_length va_scores va_knownEnds hi_begins hi_lengths hi_scores hi_taken hi_count de_states de_begins de_lengths de_length) H := by rw [eH]; exact hP
  have hS : va_S A s.heap H locs := by rw [eH, eL]; exact hS
  rw [← eL]
  suffices hgoal : W p l e rm_Hi_count s m (List.toArray [.ref (ad 24)]) below meth c H locs 0 0 Q (F0 m 0 ls []) by rw [eH] at hgoal; exact hgoal
  clear eH eL
  refine lv_aload_n hx hb d_Hi_count_0 rfl (lv_at hl 0 rfl) ?_
  refine va_get (D := (dC, dI)) (ci := 6) (v := .int hi_count) (C := R_Hi) (T := F_Hi) (N := 5) hx hb hts iw_Hi hown hK hP 24 rfl rfl 4 (by decide) (hts _ m_208) (fun _ h9 => h9) rfl d_Hi_count_1 ?_
  obtain rfl := os1 hf
  exact hret H locs _ _ _ d_Hi_count_4 rfl hP hS
def f_Fa_scan (gr_kinds : (Nat → Int32)) (gr_targetCounts : (Nat → Int32)) (gr_targets : (Nat → Int32)) (gr_stepScores : (Nat → Int32)) (gr_letterScores : (Nat → Int32)) (gr_size : Int32) (tx_letters : (Nat → Int32)) (tx_length : Int32) (va_scores : (Nat → Int32)) (va_knownEnds : Int32) (hi_begins : (Nat → Int32)) (hi_lengths : (Nat → Int32)) (hi_scores : (Nat → Int32)) (hi_taken : (Nat → Int32)) (hi_count : Int32) (a1 : Int32) (a2 : Int32) : Option (Int32 × (Nat → Int32) × Int32 × (Nat → Int32) × (Nat → Int32) × (Nat → Int32) × (Nat → Int32) × Int32) := ob1 (f_Gr_size gr_size) (fun r1 => if r1 = (0 : Int32) then (some ((-1000000 : Int32), va_scores, va_knownEnds, hi_begins, hi_lengths, hi_scores, hi_taken, hi_count)) else (if a1 < (1 : Int32) then (some ((-1000000 : Int32), va_scores, va_knownEnds, hi_begins, hi_lengths, hi_scores, hi_taken, hi_count)) else (if a1 ≤ (12 : Int32) then (ob2 (f_Va_catchUp gr_kinds gr_targetCounts gr_targets gr_stepScores gr_letterScores gr_size tx_letters tx_length va_scores va_knownEnds) (fun w6 w7 => ob1 (f_Tx_length tx_length) (fun r9 => ob5 (f_Hi_find w6 hi_begins hi_lengths hi_scores hi_taken hi_count r9 a1 a2) (fun w11 w12 w13 w14 w15 => ob1 (f_Hi_count w15) (fun r17 => some (r17, w6, w7, w11, w12, w13, w14, w15)))))) else (some ((-1000000 : Int32), va_scores, va_knownEnds, hi_begins, hi_lengths, hi_scores, hi_taken, hi_count)))))
set_option maxHeartbeats 4000000 in
set_option maxRecDepth 100000 in
theorem c_Fa_scan (l : Launch) (dC : Nat → ClassId) (dI : Nat → Nat → Nat) (ty : Nat → ClassId) (ad : Nat → Nat) (ta : Nat → Nat) (sz : Nat) (co_rows : Int32) (co_marks : (Nat → Int32)) (co_rowSets : (Nat → Int32)) (co_partners : (Nat → Int32)) (co_open : (Nat → Int32)) (co_count : Int32) (tr_kinds : (Nat → Int32)) (tr_lefts : (Nat → Int32)) (tr_rights : (Nat → Int32)) (tr_seconds : (Nat → Int32)) (tr_size : Int32) (gr_kinds : (Nat → Int32)) (gr_nodes : (Nat → Int32)) (gr_rowSets : (Nat → Int32)) (gr_firstStates : (Nat → Int32)) (gr_targetCounts : (Nat → Int32)) (gr_targets : (Nat → Int32)) (gr_stepScores : (Nat → Int32)) (gr_letterScores : (Nat → Int32)) (gr_size : Int32) (tx_letters : (Nat → Int32)) (tx_length : Int32) (va_scores : (Nat → Int32)) (va_knownEnds : Int32) (hi_begins : (Nat → Int32)) (hi_lengths : (Nat → Int32)) (hi_scores : (Nat → Int32)) (hi_taken : (Nat → Int32)) (hi_count : Int32) (de_states : (Nat → Int32)) (de_begins : (Nat → Int32)) (de_lengths : (Nat → Int32)) (de_length : Int32) (a1 : Int32) (a2 : Int32) (r0 : Int32) (n_va_scores : (Nat → Int32)) (n_va_knownEnds : Int32) (n_hi_begins : (Nat → Int32)) (n_hi_lengths : (Nat → Int32)) (n_hi_scores : (Nat → Int32)) (n_hi_taken : (Nat → Int32)) (n_hi_count : Int32) (hf : f_Fa_scan gr_kinds gr_targetCounts gr_targets gr_stepScores gr_letterScores gr_size tx_letters tx_length va_scores va_knownEnds hi_begins hi_lengths hi_scores hi_taken hi_count a1 a2 = some (r0, n_va_scores, n_va_knownEnds, n_hi_begins, n_hi_lengths, n_hi_scores, n_hi_taken, n_hi_count)) : Met l y_Fa_scan (.code y_Fa_scan prog_1_method_13_code 3 (some .int) :: gw) rm_Fa_scan (xPre ta (dC, dI) classes (tys3 ty) (wX ty ad co_rows co_marks co_rowSets co_partners co_open co_count tr_kinds tr_lefts tr_rights tr_seconds tr_size gr_kinds gr_nodes gr_rowSets gr_firstStates gr_targetCounts gr_targets gr_stepScores gr_letterScores gr_size tx_letters tx_length va_scores va_knownEnds hi_begins hi_lengths hi_scores hi_taken hi_count de_states de_begins de_lengths de_length) sz [.ref (ad 0), .int a1, .int a2]) (xQi (dC, dI) classes (wX ty ad co_rows co_marks co_rowSets co_partners co_open co_count tr_kinds tr_lefts tr_rights tr_seconds tr_size gr_kinds gr_nodes gr_rowSets gr_firstStates gr_targetCounts gr_targets gr_stepScores gr_letterScores gr_size tx_letters tx_length va_scores va_knownEnds hi_begins hi_lengths hi_scores hi_taken hi_count de_states de_begins de_lengths de_length) (wX ty ad co_rows co_marks co_rowSets co_partners co_open co_count tr_kinds tr_lefts tr_rights tr_seconds tr_size gr_kinds gr_nodes gr_rowSets gr_firstStates gr_targetCounts gr_targets gr_stepScores gr_letterScores gr_size tx_letters tx_length n_va_scores n_va_knownEnds n_hi_begins n_hi_lengths n_hi_scores n_hi_taken n_hi_count de_states de_begins de_lengths de_length) sz r0) 0 0 (va_A (wX ty ad co_rows co_marks co_rowSets co_partners co_open co_count tr_kinds tr_lefts tr_rights tr_seconds tr_size gr_kinds gr_nodes gr_rowSets gr_firstStates gr_targetCounts gr_targets gr_stepScores gr_letterScores gr_size tx_letters tx_length va_scores va_knownEnds hi_begins hi_lengths hi_scores hi_taken hi_count de_states de_begins de_lengths de_length) sz) := by
  refine xmet_i rfl (Nat.le_of_ble_eq_true rfl) ?_
  intro p e s m below meth c A ls Q hx hb hml hts hown hK hN hA hP hD hS hl hret
  replace hown : s.vm.findClass R_Fa = some m.cls := hown
  have hl : lv_has ls 3 [(0, .ref (ad 0)), (1, .int a1), (2, .int a2)] := hl
  rw [f_Fa_scan] at hf
  obtain ⟨H, eH⟩ : ∃ H : Heap, H = s.heap := ⟨_, rfl⟩
  obtain ⟨locs, eL⟩ : ∃ L : List Loc, L = [] := ⟨_, rfl⟩
  have hP : va_P (dC, dI) classes (wX ty ad co_rows co_marks co_rowSets co_partners co_open co_count tr_kinds tr_lefts tr_rights tr_seconds tr_size gr_kinds gr_nodes gr_rowSets gr_firstStates gr_targetCounts gr_targets gr_stepScores gr_letterScores gr_size tx_letters tx_length va_scores va_knownEnds hi_begins hi_lengths hi_scores hi_taken hi_count de_states de_begins de_lengths de_length) H := by rw [eH]; exact hP
  have hS : va_S A s.heap H locs := by rw [eH, eL]; exact hS
  rw [← eL]
  suffices hgoal : W p l e rm_Fa_scan s m (List.toArray [.ref (ad 0), .int a1, .int a2]) below meth c H locs 0 0 Q (F0 m 0 ls []) by rw [eH] at hgoal; exact hgoal
  clear eH eL
  refine lv_aload_n hx hb d_Fa_scan_0 rfl (lv_at hl 0 rfl) ?_
  refine va_get (D := (dC, dI)) (ci := 0) (v := .ref (ad 11)) (C := R_Fa) (T := F_Fa) (N := 7) hx hb hts iw_Fa hown hK hP 0 rfl rfl 2 (by decide) (hts _ m_242) (fun _ h9 => h9) rfl d_Fa_scan_1 ?_
  obtain ⟨r1, hc2, hf⟩ := ob1_inv hf
  refine xk_i (xrunV (C := R_Gr) (As := []) (rest := []) ⟨hx, hb, hml, hown, hts⟩ (c_Gr_size l dC dI ty ad ta H.size co_rows co_marks co_rowSets co_partners co_open co_count tr_kinds tr_lefts tr_rights tr_seconds tr_size gr_kinds gr_nodes gr_rowSets gr_firstStates gr_targetCounts gr_targets gr_stepScores gr_letterScores gr_size tx_letters tx_length va_scores va_knownEnds hi_begins hi_lengths hi_scores hi_taken hi_count de_states de_begins de_lengths de_length  r1 hc2) z_Fa_107 ⟨⟨rfl, rfl⟩, by decide, by decide⟩ hK hP hD hN hS hA (va_recv hK hP (ci := 3) (q0 := 11) rfl rfl) rfl hl.1 rfl (Nat.le_of_ble_eq_true rfl) d_Fa_scan_4 ⟨Nat.zero_le _, Nat.zero_le _⟩) hS hD rfl hA (fun H locs hP hD hS => ?_)
  refine W.eq (g2 := F0 m 7 ls [.int r1]) rfl ?_
  refine lv_if_eq (tgt := 21) hx hb d_Fa_scan_7 (by decide) (fun c3 => ?_) (fun c3 => ?_)
  · have hf := xif_t c3 hf
    refine lv_ldc (v := -1000000) hx hb hown (hts _ m_308) d_Fa_scan_21 ?_
    obtain ⟨rfl, rfl, rfl, rfl, rfl, rfl, rfl, rfl⟩ := os8 hf
    exact hret H locs _ _ _ d_Fa_scan_23 rfl hP hS
  · have hf := xif_f c3 hf
    refine lv_iload_n hx hb d_Fa_scan_10 rfl (lv_at hl 1 rfl) ?_
    refine lv_iconst (v := 1) hx hb d_Fa_scan_11 (by decide) ?_
    refine lv_icmp_lt (tgt := 21) hx hb d_Fa_scan_12 (by decide) (fun c4 => ?_) (fun c4 => ?_)
    · have hf := xif_t c4 hf
      refine lv_ldc (v := -1000000) hx hb hown (hts _ m_308) d_Fa_scan_21 ?_
      obtain ⟨rfl, rfl, rfl, rfl, rfl, rfl, rfl, rfl⟩ := os8 hf
      exact hret H locs _ _ _ d_Fa_scan_23 rfl hP hS
    · have hf := xif_f c4 hf
      refine lv_iload_n hx hb d_Fa_scan_15 rfl (lv_at hl 1 rfl) ?_
      refine lv_bipush (v := 12) hx hb d_Fa_scan_16 (by decide) ?_
      refine lv_icmp_le (tgt := 24) hx hb d_Fa_scan_18 (by decide) (fun c5 => ?_) (fun c5 => ?_)
      · have hf := xif_t c5 hf
        refine lv_aload_n hx hb d_Fa_scan_24 rfl (lv_at hl 0 rfl) ?_
        refine va_get (D := (dC, dI)) (ci := 0) (v := .ref (ad 22)) (C := R_Fa) (T := F_Fa) (N := 7) hx hb hts iw_Fa hown hK hP 0 rfl rfl 4 (by decide) (hts _ m_244) (fun _ h9 => h9) rfl d_Fa_scan_25 ?_
        obtain ⟨w6, w7, hc8, hf⟩ := ob2_inv hf
        refine xk_v (xrunV (C := R_Va) (As := []) (rest := []) ⟨hx, hb, hml, hown, hts⟩ (c_Va_catchUp l dC dI ty ad ta H.size co_rows co_marks co_rowSets co_partners co_open co_count tr_kinds tr_lefts tr_rights tr_seconds tr_size gr_kinds gr_nodes gr_rowSets gr_firstStates gr_targetCounts gr_targets gr_stepScores gr_letterScores gr_size tx_letters tx_length va_scores va_knownEnds hi_begins hi_lengths hi_scores hi_taken hi_count de_states de_begins de_lengths de_length  w6 w7 hc8) z_Fa_158 ⟨⟨rfl, rfl⟩, by decide, by decide⟩ hK hP hD hN hS hA (va_recv hK hP (ci := 5) (q0 := 22) rfl rfl) rfl hl.1 rfl (Nat.le_of_ble_eq_true rfl) d_Fa_scan_28 ⟨Nat.zero_le _, Nat.zero_le _⟩) hS hD rfl hA (fun H locs hP hD hS => ?_)
        refine W.eq (g2 := F0 m 31 ls []) rfl ?_
        refine lv_aload_n hx hb d_Fa_scan_31 rfl (lv_at hl 0 rfl) ?_
        refine va_get (D := (dC, dI)) (ci := 0) (v := .ref (ad 24)) (C := R_Fa) (T := F_Fa) (N := 7) hx hb hts iw_Fa hown hK hP 0 rfl rfl 5 (by decide) (hts _ m_245) (fun _ h9 => h9) rfl d_Fa_scan_32 ?_
        refine lv_aload_n hx hb d_Fa_scan_35 rfl (lv_at hl 0 rfl) ?_
        refine va_get (D := (dC, dI)) (ci := 0) (v := .ref (ad 22)) (C := R_Fa) (T := F_Fa) (N := 7) hx hb hts iw_Fa hown hK hP 0 rfl rfl 4 (by decide) (hts _ m_244) (fun _ h9 => h9) rfl d_Fa_scan_36 ?_
        refine lv_aload_n hx hb d_Fa_scan_39 rfl (lv_at hl 0 rfl) ?_
        refine va_get (D := (dC, dI)) (ci := 0) (v := .ref (ad 20)) (C := R_Fa) (T := F_Fa) (N := 7) hx hb hts iw_Fa hown hK hP 0 rfl rfl 3 (by decide) (hts _ m_243) (fun _ h9 => h9) rfl d_Fa_scan_40 ?_
        obtain ⟨r9, hc10, hf⟩ := ob1_inv hf
        refine xk_i (xrunV (C := R_Tx) (As := []) (rest := [.ref (ad 22), .ref (ad 24)]) ⟨hx, hb, hml, hown, hts⟩ (c_Tx_length l dC dI ty ad ta H.size co_rows co_marks co_rowSets co_partners co_open co_count tr_kinds tr_lefts tr_rights tr_seconds tr_size gr_kinds gr_nodes gr_rowSets gr_firstStates gr_targetCounts gr_targets gr_stepScores gr_letterScores gr_size tx_letters tx_length w6 w7 hi_begins hi_lengths hi_scores hi_taken hi_count de_states de_begins de_lengths de_length  r9 hc10) z_Fa_149 ⟨⟨rfl, rfl⟩, by decide, by decide⟩ hK hP hD hN hS hA (va_recv hK hP (ci := 4) (q0 := 20) rfl rfl) rfl hl.1 rfl (Nat.le_of_ble_eq_true rfl) d_Fa_scan_43 ⟨Nat.zero_le _, Nat.zero_le _⟩) hS hD rfl hA (fun H locs hP hD hS => ?_)
        refine W.eq (g2 := F0 m 46 ls [.int r9, .ref (ad 22), .ref (ad 24)]) rfl ?_
        refine lv_iload_n hx hb d_Fa_scan_46 rfl (lv_at hl 1 rfl) ?_
        refine lv_iload_n hx hb d_Fa_scan_47 rfl (lv_at hl 2 rfl) ?_
        obtain ⟨w11, w12, w13, w14, w15, hc16, hf⟩ := ob5_inv hf
        refine xk_v (xrunV (C := R_Hi) (As := [.ref (ad 22), .int r9, .int a1, .int a2]) (rest := []) ⟨hx, hb, hml, hown, hts⟩ (c_Hi_find l dC dI ty ad ta H.size co_rows co_marks co_rowSets co_partners co_open co_count tr_kinds tr_lefts tr_rights tr_seconds tr_size gr_kinds gr_nodes gr_rowSets gr_firstStates gr_targetCounts gr_targets gr_stepScores gr_letterScores gr_size tx_letters tx_length w6 w7 hi_begins hi_lengths hi_scores hi_taken hi_count de_states de_begins de_lengths de_length r9 a1 a2 w11 w12 w13 w14 w15 hc16) z_Fa_164 ⟨⟨rfl, rfl⟩, by decide, by decide⟩ hK hP hD hN hS hA (va_recv hK hP (ci := 6) (q0 := 24) rfl rfl) rfl hl.1 rfl (Nat.le_of_ble_eq_true rfl) d_Fa_scan_48 ⟨Nat.zero_le _, Nat.zero_le _⟩) hS hD rfl hA (fun H locs hP hD hS => ?_)
        refine W.eq (g2 := F0 m 51 ls []) rfl ?_
        refine lv_aload_n hx hb d_Fa_scan_51 rfl (lv_at hl 0 rfl) ?_
        refine va_get (D := (dC, dI)) (ci := 0) (v := .ref (ad 24)) (C := R_Fa) (T := F_Fa) (N := 7) hx hb hts iw_Fa hown hK hP 0 rfl rfl 5 (by decide) (hts _ m_245) (fun _ h9 => h9) rfl d_Fa_scan_52 ?_
        obtain ⟨r17, hc18, hf⟩ := ob1_inv hf
        refine xk_i (xrunV (C := R_Hi) (As := []) (rest := []) ⟨hx, hb, hml, hown, hts⟩ (c_Hi_count l dC dI ty ad ta H.size co_rows co_marks co_rowSets co_partners co_open co_count tr_kinds tr_lefts tr_rights tr_seconds tr_size gr_kinds gr_nodes gr_rowSets gr_firstStates gr_targetCounts gr_targets gr_stepScores gr_letterScores gr_size tx_letters tx_length w6 w7 w11 w12 w13 w14 w15 de_states de_begins de_lengths de_length  r17 hc18) z_Fa_168 ⟨⟨rfl, rfl⟩, by decide, by decide⟩ hK hP hD hN hS hA (va_recv hK hP (ci := 6) (q0 := 24) rfl rfl) rfl hl.1 rfl (Nat.le_of_ble_eq_true rfl) d_Fa_scan_55 ⟨Nat.zero_le _, Nat.zero_le _⟩) hS hD rfl hA (fun H locs hP hD hS => ?_)
        refine W.eq (g2 := F0 m 58 ls [.int r17]) rfl ?_
        obtain ⟨rfl, rfl, rfl, rfl, rfl, rfl, rfl, rfl⟩ := os8 hf
        exact hret H locs _ _ _ d_Fa_scan_58 rfl hP hS
      · have hf := xif_f c5 hf
        refine lv_ldc (v := -1000000) hx hb hown (hts _ m_308) d_Fa_scan_21 ?_
        obtain ⟨rfl, rfl, rfl, rfl, rfl, rfl, rfl, rfl⟩ := os8 hf
        exact hret H locs _ _ _ d_Fa_scan_23 rfl hP hS
def f_Hi_has (hi_count : Int32) (a1 : Int32) : Option (Int32) := if a1 < (0 : Int32) then (some ((0 : Int32))) else (if hi_count ≤ a1 then (some ((0 : Int32))) else (some ((1 : Int32))))
set_option maxHeartbeats 4000000 in
set_option maxRecDepth 100000 in
theorem c_Hi_has (l : Launch) (dC : Nat → ClassId) (dI : Nat → Nat → Nat) (ty : Nat → ClassId) (ad : Nat → Nat) (ta : Nat → Nat) (sz : Nat) (co_rows : Int32) (co_marks : (Nat → Int32)) (co_rowSets : (Nat → Int32)) (co_partners : (Nat → Int32)) (co_open : (Nat → Int32)) (co_count : Int32) (tr_kinds : (Nat → Int32)) (tr_lefts : (Nat → Int32)) (tr_rights : (Nat → Int32)) (tr_seconds : (Nat → Int32)) (tr_size : Int32) (gr_kinds : (Nat → Int32)) (gr_nodes : (Nat → Int32)) (gr_rowSets : (Nat → Int32)) (gr_firstStates : (Nat → Int32)) (gr_targetCounts : (Nat → Int32)) (gr_targets : (Nat → Int32)) (gr_stepScores : (Nat → Int32)) (gr_letterScores : (Nat → Int32)) (gr_size : Int32) (tx_letters : (Nat → Int32)) (tx_length : Int32) (va_scores : (Nat → Int32)) (va_knownEnds : Int32) (hi_begins : (Nat → Int32)) (hi_lengths : (Nat → Int32)) (hi_scores : (Nat → Int32)) (hi_taken : (Nat → Int32)) (hi_count : Int32) (de_states : (Nat → Int32)) (de_begins : (Nat → Int32)) (de_lengths : (Nat → Int32)) (de_length : Int32) (a1 : Int32) (r0 : Int32) (hf : f_Hi_has hi_count a1 = some (r0)) : Met l y_Hi_has (.code y_Hi_has prog_5_method_4_code 2 (some .boolean) :: gw) rm_Hi_has (xPre ta (dC, dI) classes (tys3 ty) (wX ty ad co_rows co_marks co_rowSets co_partners co_open co_count tr_kinds tr_lefts tr_rights tr_seconds tr_size gr_kinds gr_nodes gr_rowSets gr_firstStates gr_targetCounts gr_targets gr_stepScores gr_letterScores gr_size tx_letters tx_length va_scores va_knownEnds hi_begins hi_lengths hi_scores hi_taken hi_count de_states de_begins de_lengths de_length) sz [.ref (ad 24), .int a1]) (xQi (dC, dI) classes (wX ty ad co_rows co_marks co_rowSets co_partners co_open co_count tr_kinds tr_lefts tr_rights tr_seconds tr_size gr_kinds gr_nodes gr_rowSets gr_firstStates gr_targetCounts gr_targets gr_stepScores gr_letterScores gr_size tx_letters tx_length va_scores va_knownEnds hi_begins hi_lengths hi_scores hi_taken hi_count de_states de_begins de_lengths de_length) (wX ty ad co_rows co_marks co_rowSets co_partners co_open co_count tr_kinds tr_lefts tr_rights tr_seconds tr_size gr_kinds gr_nodes gr_rowSets gr_firstStates gr_targetCounts gr_targets gr_stepScores gr_letterScores gr_size tx_letters tx_length va_scores va_knownEnds hi_begins hi_lengths hi_scores hi_taken hi_count de_states de_begins de_lengths de_length) sz r0) 0 0 (va_A (wX ty ad co_rows co_marks co_rowSets co_partners co_open co_count tr_kinds tr_lefts tr_rights tr_seconds tr_size gr_kinds gr_nodes gr_rowSets gr_firstStates gr_targetCounts gr_targets gr_stepScores gr_letterScores gr_size tx_letters tx_length va_scores va_knownEnds hi_begins hi_lengths hi_scores hi_taken hi_count de_states de_begins de_lengths de_length) sz) := by
  refine xmet_z rfl (Nat.le_of_ble_eq_true rfl) ?_
  intro p e s m below meth c A ls Q hx hb hml hts hown hK hN hA hP hD hS hl hret
  replace hown : s.vm.findClass R_Hi = some m.cls := hown
  have hl : lv_has ls 2 [(0, .ref (ad 24)), (1, .int a1)] := hl
  rw [f_Hi_has] at hf
  obtain ⟨H, eH⟩ : ∃ H : Heap, H = s.heap := ⟨_, rfl⟩
  obtain ⟨locs, eL⟩ : ∃ L : List Loc, L = [] := ⟨_, rfl⟩
  have hP : va_P (dC, dI) classes (wX ty ad co_rows co_marks co_rowSets co_partners co_open co_count tr_kinds tr_lefts tr_rights tr_seconds tr_size gr_kinds gr_nodes gr_rowSets gr_firstStates gr_targetCounts gr_targets gr_stepScores gr_letterScores gr_size tx_letters tx_length va_scores va_knownEnds hi_begins hi_lengths hi_scores hi_taken hi_count de_states de_begins de_lengths de_length) H := by rw [eH]; exact hP
  have hS : va_S A s.heap H locs := by rw [eH, eL]; exact hS
  rw [← eL]
  suffices hgoal : W p l e rm_Hi_has s m (List.toArray [.ref (ad 24), .int a1]) below meth c H locs 0 0 Q (F0 m 0 ls []) by rw [eH] at hgoal; exact hgoal
  clear eH eL
  refine lv_iload_n hx hb d_Hi_has_0 rfl (lv_at hl 1 rfl) ?_
  refine lv_if_lt (tgt := 16) hx hb d_Hi_has_1 (by decide) (fun c1 => ?_) (fun c1 => ?_)
  · have hf := xif_t c1 hf
    refine lv_iconst (v := 0) hx hb d_Hi_has_16 (by decide) ?_
    obtain rfl := os1 hf
    exact hret H locs _ _ _ d_Hi_has_17 rfl rfl hP hS
  · have hf := xif_f c1 hf
    refine lv_iload_n hx hb d_Hi_has_4 rfl (lv_at hl 1 rfl) ?_
    refine lv_aload_n hx hb d_Hi_has_5 rfl (lv_at hl 0 rfl) ?_
    refine va_get (D := (dC, dI)) (ci := 6) (v := .int hi_count) (C := R_Hi) (T := F_Hi) (N := 5) hx hb hts iw_Hi hown hK hP 24 rfl rfl 4 (by decide) (hts _ m_208) (fun _ h9 => h9) rfl d_Hi_has_6 ?_
    refine lv_icmp_ge (tgt := 16) hx hb d_Hi_has_9 (by decide) (fun c2 => ?_) (fun c2 => ?_)
    · have hf := xif_t c2 hf
      refine lv_iconst (v := 0) hx hb d_Hi_has_16 (by decide) ?_
      obtain rfl := os1 hf
      exact hret H locs _ _ _ d_Hi_has_17 rfl rfl hP hS
    · have hf := xif_f c2 hf
      refine lv_iconst (v := 1) hx hb d_Hi_has_12 (by decide) ?_
      refine lv_goto (tgt := 17) hx hb d_Hi_has_13 (by decide) ?_
      obtain rfl := os1 hf
      exact hret H locs _ _ _ d_Hi_has_17 rfl rfl hP hS
def f_Hi_begin (hi_begins : (Nat → Int32)) (a1 : Int32) : Option (Int32) := gd (xin a1 24) (some ((hi_begins (Int32.toNatClampNeg a1))))
set_option maxHeartbeats 4000000 in
set_option maxRecDepth 100000 in
theorem c_Hi_begin (l : Launch) (dC : Nat → ClassId) (dI : Nat → Nat → Nat) (ty : Nat → ClassId) (ad : Nat → Nat) (ta : Nat → Nat) (sz : Nat) (co_rows : Int32) (co_marks : (Nat → Int32)) (co_rowSets : (Nat → Int32)) (co_partners : (Nat → Int32)) (co_open : (Nat → Int32)) (co_count : Int32) (tr_kinds : (Nat → Int32)) (tr_lefts : (Nat → Int32)) (tr_rights : (Nat → Int32)) (tr_seconds : (Nat → Int32)) (tr_size : Int32) (gr_kinds : (Nat → Int32)) (gr_nodes : (Nat → Int32)) (gr_rowSets : (Nat → Int32)) (gr_firstStates : (Nat → Int32)) (gr_targetCounts : (Nat → Int32)) (gr_targets : (Nat → Int32)) (gr_stepScores : (Nat → Int32)) (gr_letterScores : (Nat → Int32)) (gr_size : Int32) (tx_letters : (Nat → Int32)) (tx_length : Int32) (va_scores : (Nat → Int32)) (va_knownEnds : Int32) (hi_begins : (Nat → Int32)) (hi_lengths : (Nat → Int32)) (hi_scores : (Nat → Int32)) (hi_taken : (Nat → Int32)) (hi_count : Int32) (de_states : (Nat → Int32)) (de_begins : (Nat → Int32)) (de_lengths : (Nat → Int32)) (de_length : Int32) (a1 : Int32) (r0 : Int32) (hf : f_Hi_begin hi_begins a1 = some (r0)) : Met l y_Hi_begin (.code y_Hi_begin prog_5_method_5_code 2 (some .int) :: gw) rm_Hi_begin (xPre ta (dC, dI) classes (tys3 ty) (wX ty ad co_rows co_marks co_rowSets co_partners co_open co_count tr_kinds tr_lefts tr_rights tr_seconds tr_size gr_kinds gr_nodes gr_rowSets gr_firstStates gr_targetCounts gr_targets gr_stepScores gr_letterScores gr_size tx_letters tx_length va_scores va_knownEnds hi_begins hi_lengths hi_scores hi_taken hi_count de_states de_begins de_lengths de_length) sz [.ref (ad 24), .int a1]) (xQi (dC, dI) classes (wX ty ad co_rows co_marks co_rowSets co_partners co_open co_count tr_kinds tr_lefts tr_rights tr_seconds tr_size gr_kinds gr_nodes gr_rowSets gr_firstStates gr_targetCounts gr_targets gr_stepScores gr_letterScores gr_size tx_letters tx_length va_scores va_knownEnds hi_begins hi_lengths hi_scores hi_taken hi_count de_states de_begins de_lengths de_length) (wX ty ad co_rows co_marks co_rowSets co_partners co_open co_count tr_kinds tr_lefts tr_rights tr_seconds tr_size gr_kinds gr_nodes gr_rowSets gr_firstStates gr_targetCounts gr_targets gr_stepScores gr_letterScores gr_size tx_letters tx_length va_scores va_knownEnds hi_begins hi_lengths hi_scores hi_taken hi_count de_states de_begins de_lengths de_length) sz r0) 0 0 (va_A (wX ty ad co_rows co_marks co_rowSets co_partners co_open co_count tr_kinds tr_lefts tr_rights tr_seconds tr_size gr_kinds gr_nodes gr_rowSets gr_firstStates gr_targetCounts gr_targets gr_stepScores gr_letterScores gr_size tx_letters tx_length va_scores va_knownEnds hi_begins hi_lengths hi_scores hi_taken hi_count de_states de_begins de_lengths de_length) sz) := by
  refine xmet_i rfl (Nat.le_of_ble_eq_true rfl) ?_
  intro p e s m below meth c A ls Q hx hb hml hts hown hK hN hA hP hD hS hl hret
  replace hown : s.vm.findClass R_Hi = some m.cls := hown
  have hl : lv_has ls 2 [(0, .ref (ad 24)), (1, .int a1)] := hl
  rw [f_Hi_begin] at hf
  obtain ⟨H, eH⟩ : ∃ H : Heap, H = s.heap := ⟨_, rfl⟩
  obtain ⟨locs, eL⟩ : ∃ L : List Loc, L = [] := ⟨_, rfl⟩
  have hP : va_P (dC, dI) classes (wX ty ad co_rows co_marks co_rowSets co_partners co_open co_count tr_kinds tr_lefts tr_rights tr_seconds tr_size gr_kinds gr_nodes gr_rowSets gr_firstStates gr_targetCounts gr_targets gr_stepScores gr_letterScores gr_size tx_letters tx_length va_scores va_knownEnds hi_begins hi_lengths hi_scores hi_taken hi_count de_states de_begins de_lengths de_length) H := by rw [eH]; exact hP
  have hS : va_S A s.heap H locs := by rw [eH, eL]; exact hS
  rw [← eL]
  suffices hgoal : W p l e rm_Hi_begin s m (List.toArray [.ref (ad 24), .int a1]) below meth c H locs 0 0 Q (F0 m 0 ls []) by rw [eH] at hgoal; exact hgoal
  clear eH eL
  refine lv_aload_n hx hb d_Hi_begin_0 rfl (lv_at hl 0 rfl) ?_
  refine va_get (D := (dC, dI)) (ci := 6) (v := .ref (ad 25)) (C := R_Hi) (T := F_Hi) (N := 5) hx hb hts iw_Hi hown hK hP 24 rfl rfl 0 (by decide) (hts _ m_204) (fun _ h9 => h9) rfl d_Hi_begin_1 ?_
  refine lv_iload_n hx hb d_Hi_begin_4 rfl (lv_at hl 1 rfl) ?_
  obtain ⟨hi1, hf⟩ := gdi hf
  refine va_iald hx hb hK hP 25 0 rfl rfl hi1 d_Hi_begin_5 ?_
  obtain rfl := os1 hf
  exact hret H locs _ _ _ d_Hi_begin_6 rfl hP hS
def f_Hi_letters (hi_lengths : (Nat → Int32)) (a1 : Int32) : Option (Int32) := gd (xin a1 24) (some ((hi_lengths (Int32.toNatClampNeg a1))))
set_option maxHeartbeats 4000000 in
set_option maxRecDepth 100000 in
theorem c_Hi_letters (l : Launch) (dC : Nat → ClassId) (dI : Nat → Nat → Nat) (ty : Nat → ClassId) (ad : Nat → Nat) (ta : Nat → Nat) (sz : Nat) (co_rows : Int32) (co_marks : (Nat → Int32)) (co_rowSets : (Nat → Int32)) (co_partners : (Nat → Int32)) (co_open : (Nat → Int32)) (co_count : Int32) (tr_kinds : (Nat → Int32)) (tr_lefts : (Nat → Int32)) (tr_rights : (Nat → Int32)) (tr_seconds : (Nat → Int32)) (tr_size : Int32) (gr_kinds : (Nat → Int32)) (gr_nodes : (Nat → Int32)) (gr_rowSets : (Nat → Int32)) (gr_firstStates : (Nat → Int32)) (gr_targetCounts : (Nat → Int32)) (gr_targets : (Nat → Int32)) (gr_stepScores : (Nat → Int32)) (gr_letterScores : (Nat → Int32)) (gr_size : Int32) (tx_letters : (Nat → Int32)) (tx_length : Int32) (va_scores : (Nat → Int32)) (va_knownEnds : Int32) (hi_begins : (Nat → Int32)) (hi_lengths : (Nat → Int32)) (hi_scores : (Nat → Int32)) (hi_taken : (Nat → Int32)) (hi_count : Int32) (de_states : (Nat → Int32)) (de_begins : (Nat → Int32)) (de_lengths : (Nat → Int32)) (de_length : Int32) (a1 : Int32) (r0 : Int32) (hf : f_Hi_letters hi_lengths a1 = some (r0)) : Met l y_Hi_letters (.code y_Hi_letters prog_5_method_6_code 2 (some .int) :: gw) rm_Hi_letters (xPre ta (dC, dI) classes (tys3 ty) (wX ty ad co_rows co_marks co_rowSets co_partners co_open co_count tr_kinds tr_lefts tr_rights tr_seconds tr_size gr_kinds gr_nodes gr_rowSets gr_firstStates gr_targetCounts gr_targets gr_stepScores gr_letterScores gr_size tx_letters tx_length va_scores va_knownEnds hi_begins hi_lengths hi_scores hi_taken hi_count de_states de_begins de_lengths de_length) sz [.ref (ad 24), .int a1]) (xQi (dC, dI) classes (wX ty ad co_rows co_marks co_rowSets co_partners co_open co_count tr_kinds tr_lefts tr_rights tr_seconds tr_size gr_kinds gr_nodes gr_rowSets gr_firstStates gr_targetCounts gr_targets gr_stepScores gr_letterScores gr_size tx_letters tx_length va_scores va_knownEnds hi_begins hi_lengths hi_scores hi_taken hi_count de_states de_begins de_lengths de_length) (wX ty ad co_rows co_marks co_rowSets co_partners co_open co_count tr_kinds tr_lefts tr_rights tr_seconds tr_size gr_kinds gr_nodes gr_rowSets gr_firstStates gr_targetCounts gr_targets gr_stepScores gr_letterScores gr_size tx_letters tx_length va_scores va_knownEnds hi_begins hi_lengths hi_scores hi_taken hi_count de_states de_begins de_lengths de_length) sz r0) 0 0 (va_A (wX ty ad co_rows co_marks co_rowSets co_partners co_open co_count tr_kinds tr_lefts tr_rights tr_seconds tr_size gr_kinds gr_nodes gr_rowSets gr_firstStates gr_targetCounts gr_targets gr_stepScores gr_letterScores gr_size tx_letters tx_length va_scores va_knownEnds hi_begins hi_lengths hi_scores hi_taken hi_count de_states de_begins de_lengths de_length) sz) := by
  refine xmet_i rfl (Nat.le_of_ble_eq_true rfl) ?_
  intro p e s m below meth c A ls Q hx hb hml hts hown hK hN hA hP hD hS hl hret
  replace hown : s.vm.findClass R_Hi = some m.cls := hown
  have hl : lv_has ls 2 [(0, .ref (ad 24)), (1, .int a1)] := hl
  rw [f_Hi_letters] at hf
  obtain ⟨H, eH⟩ : ∃ H : Heap, H = s.heap := ⟨_, rfl⟩
  obtain ⟨locs, eL⟩ : ∃ L : List Loc, L = [] := ⟨_, rfl⟩
  have hP : va_P (dC, dI) classes (wX ty ad co_rows co_marks co_rowSets co_partners co_open co_count tr_kinds tr_lefts tr_rights tr_seconds tr_size gr_kinds gr_nodes gr_rowSets gr_firstStates gr_targetCounts gr_targets gr_stepScores gr_letterScores gr_size tx_letters tx_length va_scores va_knownEnds hi_begins hi_lengths hi_scores hi_taken hi_count de_states de_begins de_lengths de_length) H := by rw [eH]; exact hP
  have hS : va_S A s.heap H locs := by rw [eH, eL]; exact hS
  rw [← eL]
  suffices hgoal : W p l e rm_Hi_letters s m (List.toArray [.ref (ad 24), .int a1]) below meth c H locs 0 0 Q (F0 m 0 ls []) by rw [eH] at hgoal; exact hgoal
  clear eH eL
  refine lv_aload_n hx hb d_Hi_letters_0 rfl (lv_at hl 0 rfl) ?_
  refine va_get (D := (dC, dI)) (ci := 6) (v := .ref (ad 26)) (C := R_Hi) (T := F_Hi) (N := 5) hx hb hts iw_Hi hown hK hP 24 rfl rfl 1 (by decide) (hts _ m_205) (fun _ h9 => h9) rfl d_Hi_letters_1 ?_
  refine lv_iload_n hx hb d_Hi_letters_4 rfl (lv_at hl 1 rfl) ?_
  obtain ⟨hi1, hf⟩ := gdi hf
  refine va_iald hx hb hK hP 26 0 rfl rfl hi1 d_Hi_letters_5 ?_
  obtain rfl := os1 hf
  exact hret H locs _ _ _ d_Hi_letters_6 rfl hP hS
