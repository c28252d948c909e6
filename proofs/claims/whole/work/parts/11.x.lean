/-! pure functions and contracts of Co_pairUp, Tr_add, Co_count, Co_partner, Co_isPaired, Tr_growPart (written by wip/gen) -/
def f_Co_pairUp_K4_93  (x1_4 : Int32) (x2_4 : Int32) (co_partners_4 : (Nat → Int32)) (co_open_4 : (Nat → Int32)) : Option (Int32 × (Nat → Int32) × (Nat → Int32)) := if x1_4 = (0 : Int32) then (some ((1 : Int32), co_partners_4, co_open_4)) else (some ((0 : Int32), co_partners_4, co_open_4))
def f_Co_pairUp_L4 (co_marks : (Nat → Int32)) (co_count : Int32) (k4_93 : (Int32 → Int32 → (Nat → Int32) → (Nat → Int32) → Option (Int32 × (Nat → Int32) × (Nat → Int32)))) : Nat → Int32 → Int32 → (Nat → Int32) → (Nat → Int32) → Option (Int32 × (Nat → Int32) × (Nat → Int32))
  | 0, _, _, _, _ => none
  | n4 + 1, x1_4, x2_4, co_partners_4, co_open_4 => if co_count ≤ x2_4 then (k4_93 x1_4 x2_4 co_partners_4 co_open_4) else (gd (xin x2_4 8) (gd (xin x2_4 8) (if (co_marks (Int32.toNatClampNeg x2_4)) = (40 : Int32) then (gd (xin x1_4 8) ((f_Co_pairUp_L4 co_marks co_count k4_93 n4) (x1_4 + (1 : Int32)) (x2_4 + (1 : Int32)) (upd co_partners_4 (Int32.toNatClampNeg x2_4) (-1 : Int32)) (upd co_open_4 (Int32.toNatClampNeg x1_4) x2_4))) else (gd (xin x2_4 8) (if (co_marks (Int32.toNatClampNeg x2_4)) = (41 : Int32) then (if x1_4 = (0 : Int32) then (some ((0 : Int32), (upd co_partners_4 (Int32.toNatClampNeg x2_4) (-1 : Int32)), co_open_4)) else (gd (xin (x1_4 + (-1 : Int32)) 8) (gd (xin x2_4 8) (gd (xin (x1_4 + (-1 : Int32)) 8) (gd (xin (co_open_4 (Int32.toNatClampNeg (x1_4 + (-1 : Int32)))) 8) ((f_Co_pairUp_L4 co_marks co_count k4_93 n4) (x1_4 + (-1 : Int32)) (x2_4 + (1 : Int32)) (upd (upd (upd co_partners_4 (Int32.toNatClampNeg x2_4) (-1 : Int32)) (Int32.toNatClampNeg x2_4) (co_open_4 (Int32.toNatClampNeg (x1_4 + (-1 : Int32))))) (Int32.toNatClampNeg (co_open_4 (Int32.toNatClampNeg (x1_4 + (-1 : Int32))))) x2_4) co_open_4)))))) else ((f_Co_pairUp_L4 co_marks co_count k4_93 n4) x1_4 (x2_4 + (1 : Int32)) (upd co_partners_4 (Int32.toNatClampNeg x2_4) (-1 : Int32)) co_open_4))))))
def f_Co_pairUp (co_marks : (Nat → Int32)) (co_partners : (Nat → Int32)) (co_open : (Nat → Int32)) (co_count : Int32) : Option (Int32 × (Nat → Int32) × (Nat → Int32)) := f_Co_pairUp_L4 co_marks co_count (f_Co_pairUp_K4_93) 1000 (0 : Int32) (0 : Int32) co_partners co_open
set_option maxHeartbeats 4000000 in
set_option maxRecDepth 100000 in
theorem c_Co_pairUp (l : Launch) (dC : Nat → ClassId) (dI : Nat → Nat → Nat) (ty : Nat → ClassId) (ad : Nat → Nat) (ta : Nat → Nat) (sz : Nat) (co_rows : Int32) (co_marks : (Nat → Int32)) (co_rowSets : (Nat → Int32)) (co_partners : (Nat → Int32)) (co_open : (Nat → Int32)) (co_count : Int32) (tr_kinds : (Nat → Int32)) (tr_lefts : (Nat → Int32)) (tr_rights : (Nat → Int32)) (tr_seconds : (Nat → Int32)) (tr_size : Int32) (gr_kinds : (Nat → Int32)) (gr_nodes : (Nat → Int32)) (gr_rowSets : (Nat → Int32)) (gr_firstStates : (Nat → Int32)) (gr_targetCounts : (Nat → Int32)) (gr_targets : (Nat → Int32)) (gr_stepScores : (Nat → Int32)) (gr_letterScores : (Nat → Int32)) (gr_size : Int32) (tx_letters : (Nat → Int32)) (tx_length : Int32) (va_scores : (Nat → Int32)) (va_knownEnds : Int32) (hi_begins : (Nat → Int32)) (hi_lengths : (Nat → Int32)) (hi_scores : (Nat → Int32)) (hi_taken : (Nat → Int32)) (hi_count : Int32) (de_states : (Nat → Int32)) (de_begins : (Nat → Int32)) (de_lengths : (Nat → Int32)) (de_length : Int32)  (r0 : Int32) (n_co_partners : (Nat → Int32)) (n_co_open : (Nat → Int32)) (hf : f_Co_pairUp co_marks co_partners co_open co_count = some (r0, n_co_partners, n_co_open)) : Met l y_Co_pairUp (.code y_Co_pairUp prog_2_method_6_code 3 (some .boolean) :: gw) rm_Co_pairUp (xPre ta (dC, dI) classes (tys3 ty) (wX ty ad co_rows co_marks co_rowSets co_partners co_open co_count tr_kinds tr_lefts tr_rights tr_seconds tr_size gr_kinds gr_nodes gr_rowSets gr_firstStates gr_targetCounts gr_targets gr_stepScores gr_letterScores gr_size tx_letters tx_length va_scores va_knownEnds hi_begins hi_lengths hi_scores hi_taken hi_count de_states de_begins de_lengths de_length) sz [.ref (ad 1)]) (xQi (dC, dI) classes (wX ty ad co_rows co_marks co_rowSets co_partners co_open co_count tr_kinds tr_lefts tr_rights tr_seconds tr_size gr_kinds gr_nodes gr_rowSets gr_firstStates gr_targetCounts gr_targets gr_stepScores gr_letterScores gr_size tx_letters tx_length va_scores va_knownEnds hi_begins hi_lengths hi_scores hi_taken hi_count de_states de_begins de_lengths de_length) (wX ty ad co_rows co_marks co_rowSets n_co_partners n_co_open co_count tr_kinds tr_lefts tr_rights tr_seconds tr_size gr_kinds gr_nodes gr_rowSets gr_firstStates gr_targetCounts gr_targets gr_stepScores gr_letterScores gr_size tx_letters tx_length va_scores va_knownEnds hi_begins hi_lengths hi_scores hi_taken hi_count de_states de_begins de_lengths de_length) sz r0) 0 0 (va_A (wX ty ad co_rows co_marks co_rowSets co_partners co_open co_count tr_kinds tr_lefts tr_rights tr_seconds tr_size gr_kinds gr_nodes gr_rowSets gr_firstStates gr_targetCounts gr_targets gr_stepScores gr_letterScores gr_size tx_letters tx_length va_scores va_knownEnds hi_begins hi_lengths hi_scores hi_taken hi_count de_states de_begins de_lengths de_length) sz) := by
  refine xmet_z rfl (Nat.le_of_ble_eq_true rfl) ?_
  intro p e s m below meth c A ls Q hx hb hml hts hown hK hN hA hP hD hS hl hret
  replace hown : s.vm.findClass R_Co = some m.cls := hown
  have hl : lv_has ls 3 [(0, .ref (ad 1))] := hl
  rw [f_Co_pairUp] at hf
  obtain ⟨H, eH⟩ : ∃ H : Heap, H = s.heap := ⟨_, rfl⟩
  obtain ⟨locs, eL⟩ : ∃ L : List Loc, L = [] := ⟨_, rfl⟩
  have hP : va_P (dC, dI) classes (wX ty ad co_rows co_marks co_rowSets co_partners co_open co_count tr_kinds tr_lefts tr_rights tr_seconds tr_size gr_kinds gr_nodes gr_rowSets gr_firstStates gr_targetCounts gr_targets gr_stepScores gr_letterScores gr_size tx_letters tx_length va_scores va_knownEnds hi_begins hi_lengths hi_scores hi_taken hi_count de_states de_begins de_lengths de_length) H := by rw [eH]; exact hP
  have hS : va_S A s.heap H locs := by rw [eH, eL]; exact hS
  rw [← eL]
  suffices hgoal : W p l e rm_Co_pairUp s m (List.toArray [.ref (ad 1)]) below meth c H locs 0 0 Q (F0 m 0 ls []) by rw [eH] at hgoal; exact hgoal
  clear eH eL
  refine lv_iconst (v := 0) hx hb d_Co_pairUp_0 (by decide) ?_
  refine lv_istore_n (lv' := [(1, .int (0 : Int32)), (0, .ref (ad 1))]) hx hb d_Co_pairUp_1 rfl hl (by decide) rfl (fun ls hl => ?_)
  refine lv_iconst (v := 0) hx hb d_Co_pairUp_2 (by decide) ?_
  refine lv_istore_n (lv' := [(2, .int (0 : Int32)), (1, .int (0 : Int32)), (0, .ref (ad 1))]) hx hb d_Co_pairUp_3 rfl hl (by decide) rfl (fun ls hl => ?_)
  have K4_93 : ∀ (x1_4 : Int32) (x2_4 : Int32) (co_partners_4 : (Nat → Int32)) (co_open_4 : (Nat → Int32)) (H : Heap) (locs : List Loc) (ls : Array Slot), va_P (dC, dI) classes (wX ty ad co_rows co_marks co_rowSets co_partners_4 co_open_4 co_count tr_kinds tr_lefts tr_rights tr_seconds tr_size gr_kinds gr_nodes gr_rowSets gr_firstStates gr_targetCounts gr_targets gr_stepScores gr_letterScores gr_size tx_letters tx_length va_scores va_knownEnds hi_begins hi_lengths hi_scores hi_taken hi_count de_states de_begins de_lengths de_length) H → va_D A (wX ty ad co_rows co_marks co_rowSets co_partners_4 co_open_4 co_count tr_kinds tr_lefts tr_rights tr_seconds tr_size gr_kinds gr_nodes gr_rowSets gr_firstStates gr_targetCounts gr_targets gr_stepScores gr_letterScores gr_size tx_letters tx_length va_scores va_knownEnds hi_begins hi_lengths hi_scores hi_taken hi_count de_states de_begins de_lengths de_length) → va_S A s.heap H locs → lv_has ls 3 [(1, .int x1_4)] → f_Co_pairUp_K4_93 x1_4 x2_4 co_partners_4 co_open_4 = some (r0, n_co_partners, n_co_open) → W p l e rm_Co_pairUp s m (List.toArray [.ref (ad 1)]) below meth c H locs 0 0 Q (F0 m 93 ls []) := by
    intro x1_4 x2_4 co_partners_4 co_open_4 H locs ls hP hD hS hl hf
    rw [f_Co_pairUp_K4_93] at hf
    refine lv_iload_n hx hb d_Co_pairUp_93 rfl (lv_at hl 0 rfl) ?_
    refine lv_if_ne (tgt := 101) hx hb d_Co_pairUp_94 (by decide) (fun c13 => ?_) (fun c13 => ?_)
    · have hf := xif_f c13 hf
      refine lv_iconst (v := 0) hx hb d_Co_pairUp_101 (by decide) ?_
      obtain ⟨rfl, rfl, rfl⟩ := os3 hf
      exact hret H locs _ _ _ d_Co_pairUp_102 rfl rfl hP hS
    · have hf := xif_t c13 hf
      refine lv_iconst (v := 1) hx hb d_Co_pairUp_97 (by decide) ?_
      refine lv_goto (tgt := 102) hx hb d_Co_pairUp_98 (by decide) ?_
      obtain ⟨rfl, rfl, rfl⟩ := os3 hf
      exact hret H locs _ _ _ d_Co_pairUp_102 rfl rfl hP hS
  have L4 : ∀ (n4 : Nat), ∀ (x1_4 : Int32) (x2_4 : Int32) (co_partners_4 : (Nat → Int32)) (co_open_4 : (Nat → Int32)) (H : Heap) (locs : List Loc) (ls : Array Slot), va_P (dC, dI) classes (wX ty ad co_rows co_marks co_rowSets co_partners_4 co_open_4 co_count tr_kinds tr_lefts tr_rights tr_seconds tr_size gr_kinds gr_nodes gr_rowSets gr_firstStates gr_targetCounts gr_targets gr_stepScores gr_letterScores gr_size tx_letters tx_length va_scores va_knownEnds hi_begins hi_lengths hi_scores hi_taken hi_count de_states de_begins de_lengths de_length) H → va_D A (wX ty ad co_rows co_marks co_rowSets co_partners_4 co_open_4 co_count tr_kinds tr_lefts tr_rights tr_seconds tr_size gr_kinds gr_nodes gr_rowSets gr_firstStates gr_targetCounts gr_targets gr_stepScores gr_letterScores gr_size tx_letters tx_length va_scores va_knownEnds hi_begins hi_lengths hi_scores hi_taken hi_count de_states de_begins de_lengths de_length) → va_S A s.heap H locs → lv_has ls 3 [(0, .ref (ad 1)), (1, .int x1_4), (2, .int x2_4)] → f_Co_pairUp_L4 co_marks co_count (f_Co_pairUp_K4_93) n4 x1_4 x2_4 co_partners_4 co_open_4 = some (r0, n_co_partners, n_co_open) → W p l e rm_Co_pairUp s m (List.toArray [.ref (ad 1)]) below meth c H locs 0 0 Q (F0 m 4 ls []) := by
    intro n4
    induction n4 with
    | zero =>
      intro x1_4 x2_4 co_partners_4 co_open_4 H locs ls hP hD hS hl hf
      rw [f_Co_pairUp_L4] at hf
      cases hf
    | succ n4 ih4 =>
      intro x1_4 x2_4 co_partners_4 co_open_4 H locs ls hP hD hS hl hf
      rw [f_Co_pairUp_L4] at hf
      refine lv_iload_n hx hb d_Co_pairUp_4 rfl (lv_at hl 2 rfl) ?_
      refine lv_aload_n hx hb d_Co_pairUp_5 rfl (lv_at hl 0 rfl) ?_
      refine va_get (D := (dC, dI)) (ci := 1) (v := .int co_count) (C := R_Co) (T := F_Co) (N := 6) hx hb hts iw_Co hown hK hP 1 rfl rfl 5 (by decide) (hts _ m_85) (fun _ h9 => h9) rfl d_Co_pairUp_6 ?_
      refine lv_icmp_ge (tgt := 93) hx hb d_Co_pairUp_9 (by decide) (fun c1 => ?_) (fun c1 => ?_)
      · have hf := xif_t c1 hf
        exact K4_93 x1_4 x2_4 co_partners_4 co_open_4 _ _ _ hP hD hS (lv_sub hl [1] rfl) hf
      · have hf := xif_f c1 hf
        refine lv_aload_n hx hb d_Co_pairUp_12 rfl (lv_at hl 0 rfl) ?_
        refine va_get (D := (dC, dI)) (ci := 1) (v := .ref (ad 4)) (C := R_Co) (T := F_Co) (N := 6) hx hb hts iw_Co hown hK hP 1 rfl rfl 3 (by decide) (hts _ m_83) (fun _ h9 => h9) rfl d_Co_pairUp_13 ?_
        refine lv_iload_n hx hb d_Co_pairUp_16 rfl (lv_at hl 2 rfl) ?_
        refine lv_iconst (v := -1) hx hb d_Co_pairUp_17 (by decide) ?_
        obtain ⟨hi2, hf⟩ := gdi hf
        refine va_iast hx hb hK hP hD hS 4 0 rfl rfl hi2 d_Co_pairUp_18 (fun H locs hP hD hS => ?_)
        have hP : va_P (dC, dI) classes (wX ty ad co_rows co_marks co_rowSets (upd co_partners_4 (Int32.toNatClampNeg x2_4) (-1 : Int32)) co_open_4 co_count tr_kinds tr_lefts tr_rights tr_seconds tr_size gr_kinds gr_nodes gr_rowSets gr_firstStates gr_targetCounts gr_targets gr_stepScores gr_letterScores gr_size tx_letters tx_length va_scores va_knownEnds hi_begins hi_lengths hi_scores hi_taken hi_count de_states de_begins de_lengths de_length) H := hP
        have hD : va_D A (wX ty ad co_rows co_marks co_rowSets (upd co_partners_4 (Int32.toNatClampNeg x2_4) (-1 : Int32)) co_open_4 co_count tr_kinds tr_lefts tr_rights tr_seconds tr_size gr_kinds gr_nodes gr_rowSets gr_firstStates gr_targetCounts gr_targets gr_stepScores gr_letterScores gr_size tx_letters tx_length va_scores va_knownEnds hi_begins hi_lengths hi_scores hi_taken hi_count de_states de_begins de_lengths de_length) := hD
        refine lv_aload_n hx hb d_Co_pairUp_19 rfl (lv_at hl 0 rfl) ?_
        refine va_get (D := (dC, dI)) (ci := 1) (v := .ref (ad 2)) (C := R_Co) (T := F_Co) (N := 6) hx hb hts iw_Co hown hK hP 1 rfl rfl 1 (by decide) (hts _ m_81) (fun _ h9 => h9) rfl d_Co_pairUp_20 ?_
        refine lv_iload_n hx hb d_Co_pairUp_23 rfl (lv_at hl 2 rfl) ?_
        obtain ⟨hi3, hf⟩ := gdi hf
        refine va_cald hx hb hK hP 2 1 rfl rfl hi3 d_Co_pairUp_24 ?_
        refine lv_bipush (v := 40) hx hb d_Co_pairUp_25 (by decide) ?_
        refine lv_icmp_ne (tgt := 43) hx hb d_Co_pairUp_27 (by decide) (fun c4 => ?_) (fun c4 => ?_)
        · have hf := xif_f c4 hf
          refine lv_aload_n hx hb d_Co_pairUp_43 rfl (lv_at hl 0 rfl) ?_
          refine va_get (D := (dC, dI)) (ci := 1) (v := .ref (ad 2)) (C := R_Co) (T := F_Co) (N := 6) hx hb hts iw_Co hown hK hP 1 rfl rfl 1 (by decide) (hts _ m_81) (fun _ h9 => h9) rfl d_Co_pairUp_44 ?_
          refine lv_iload_n hx hb d_Co_pairUp_47 rfl (lv_at hl 2 rfl) ?_
          obtain ⟨hi5, hf⟩ := gdi hf
          refine va_cald hx hb hK hP 2 1 rfl rfl hi5 d_Co_pairUp_48 ?_
          refine lv_bipush (v := 41) hx hb d_Co_pairUp_49 (by decide) ?_
          refine lv_icmp_ne (tgt := 87) hx hb d_Co_pairUp_51 (by decide) (fun c6 => ?_) (fun c6 => ?_)
          · have hf := xif_f c6 hf
            refine lv_iinc (v := (x2_4 + (1 : Int32))) (lv' := [(2, .int (x2_4 + (1 : Int32))), (0, .ref (ad 1)), (1, .int x1_4)]) hx hb d_Co_pairUp_87 hl (k := 2) rfl rfl (by decide) rfl (fun ls hl => ?_)
            refine lv_goto (tgt := 4) hx hb d_Co_pairUp_90 (by decide) ?_
            exact ih4 x1_4 (x2_4 + (1 : Int32)) (upd co_partners_4 (Int32.toNatClampNeg x2_4) (-1 : Int32)) co_open_4 _ _ _ hP hD hS (lv_sub hl [1, 2, 0] rfl) hf
          · have hf := xif_t c6 hf
            refine lv_iload_n hx hb d_Co_pairUp_54 rfl (lv_at hl 1 rfl) ?_
            refine lv_if_ne (tgt := 60) hx hb d_Co_pairUp_55 (by decide) (fun c7 => ?_) (fun c7 => ?_)
            · have hf := xif_f c7 hf
              refine lv_iinc (v := (x1_4 + (-1 : Int32))) (lv' := [(1, .int (x1_4 + (-1 : Int32))), (0, .ref (ad 1)), (2, .int x2_4)]) hx hb d_Co_pairUp_60 hl (k := 1) rfl rfl (by decide) rfl (fun ls hl => ?_)
              refine lv_aload_n hx hb d_Co_pairUp_63 rfl (lv_at hl 1 rfl) ?_
              refine va_get (D := (dC, dI)) (ci := 1) (v := .ref (ad 4)) (C := R_Co) (T := F_Co) (N := 6) hx hb hts iw_Co hown hK hP 1 rfl rfl 3 (by decide) (hts _ m_83) (fun _ h9 => h9) rfl d_Co_pairUp_64 ?_
              refine lv_iload_n hx hb d_Co_pairUp_67 rfl (lv_at hl 2 rfl) ?_
              refine lv_aload_n hx hb d_Co_pairUp_68 rfl (lv_at hl 1 rfl) ?_
              refine va_get (D := (dC, dI)) (ci := 1) (v := .ref (ad 5)) (C := R_Co) (T := F_Co) (N := 6) hx hb hts iw_Co hown hK hP 1 rfl rfl 4 (by decide) (hts _ m_84) (fun _ h9 => h9) rfl d_Co_pairUp_69 ?_
              refine lv_iload_n hx hb d_Co_pairUp_72 rfl (lv_at hl 0 rfl) ?_
              obtain ⟨hi8, hf⟩ := gdi hf
              refine va_iald hx hb hK hP 5 0 rfl rfl hi8 d_Co_pairUp_73 ?_
              obtain ⟨hi9, hf⟩ := gdi hf
              refine va_iast hx hb hK hP hD hS 4 0 rfl rfl hi9 d_Co_pairUp_74 (fun H locs hP hD hS => ?_)
              have hP : va_P (dC, dI) classes (wX ty ad co_rows co_marks co_rowSets (upd (upd co_partners_4 (Int32.toNatClampNeg x2_4) (-1 : Int32)) (Int32.toNatClampNeg x2_4) (co_open_4 (Int32.toNatClampNeg (x1_4 + (-1 : Int32))))) co_open_4 co_count tr_kinds tr_lefts tr_rights tr_seconds tr_size gr_kinds gr_nodes gr_rowSets gr_firstStates gr_targetCounts gr_targets gr_stepScores gr_letterScores gr_size tx_letters tx_length va_scores va_knownEnds hi_begins hi_lengths hi_scores hi_taken hi_count de_states de_begins de_lengths de_length) H := hP
              have hD : va_D A (wX ty ad co_rows co_marks co_rowSets (upd (upd co_partners_4 (Int32.toNatClampNeg x2_4) (-1 : Int32)) (Int32.toNatClampNeg x2_4) (co_open_4 (Int32.toNatClampNeg (x1_4 + (-1 : Int32))))) co_open_4 co_count tr_kinds tr_lefts tr_rights tr_seconds tr_size gr_kinds gr_nodes gr_rowSets gr_firstStates gr_targetCounts gr_targets gr_stepScores gr_letterScores gr_size tx_letters tx_length va_scores va_knownEnds hi_begins hi_lengths hi_scores hi_taken hi_count de_states de_begins de_lengths de_length) := hD
              refine lv_aload_n hx hb d_Co_pairUp_75 rfl (lv_at hl 1 rfl) ?_
              refine va_get (D := (dC, dI)) (ci := 1) (v := .ref (ad 4)) (C := R_Co) (T := F_Co) (N := 6) hx hb hts iw_Co hown hK hP 1 rfl rfl 3 (by decide) (hts _ m_83) (fun _ h9 => h9) rfl d_Co_pairUp_76 ?_
              refine lv_aload_n hx hb d_Co_pairUp_79 rfl (lv_at hl 1 rfl) ?_
              refine va_get (D := (dC, dI)) (ci := 1) (v := .ref (ad 5)) (C := R_Co) (T := F_Co) (N := 6) hx hb hts iw_Co hown hK hP 1 rfl rfl 4 (by decide) (hts _ m_84) (fun _ h9 => h9) rfl d_Co_pairUp_80 ?_
              refine lv_iload_n hx hb d_Co_pairUp_83 rfl (lv_at hl 0 rfl) ?_
              obtain ⟨hi10, hf⟩ := gdi hf
              refine va_iald hx hb hK hP 5 0 rfl rfl hi10 d_Co_pairUp_84 ?_
              refine lv_iload_n hx hb d_Co_pairUp_85 rfl (lv_at hl 2 rfl) ?_
              obtain ⟨hi11, hf⟩ := gdi hf
              refine va_iast hx hb hK hP hD hS 4 0 rfl rfl hi11 d_Co_pairUp_86 (fun H locs hP hD hS => ?_)
              have hP : va_P (dC, dI) classes (wX ty ad co_rows co_marks co_rowSets (upd (upd (upd co_partners_4 (Int32.toNatClampNeg x2_4) (-1 : Int32)) (Int32.toNatClampNeg x2_4) (co_open_4 (Int32.toNatClampNeg (x1_4 + (-1 : Int32))))) (Int32.toNatClampNeg (co_open_4 (Int32.toNatClampNeg (x1_4 + (-1 : Int32))))) x2_4) co_open_4 co_count tr_kinds tr_lefts tr_rights tr_seconds tr_size gr_kinds gr_nodes gr_rowSets gr_firstStates gr_targetCounts gr_targets gr_stepScores gr_letterScores gr_size tx_letters tx_length va_scores va_knownEnds hi_begins hi_lengths hi_scores hi_taken hi_count de_states de_begins de_lengths de_length) H := hP
              have hD : va_D A (wX ty ad co_rows co_marks co_rowSets (upd (upd (upd co_partners_4 (Int32.toNatClampNeg x2_4) (-1 : Int32)) (Int32.toNatClampNeg x2_4) (co_open_4 (Int32.toNatClampNeg (x1_4 + (-1 : Int32))))) (Int32.toNatClampNeg (co_open_4 (Int32.toNatClampNeg (x1_4 + (-1 : Int32))))) x2_4) co_open_4 co_count tr_kinds tr_lefts tr_rights tr_seconds tr_size gr_kinds gr_nodes gr_rowSets gr_firstStates gr_targetCounts gr_targets gr_stepScores gr_letterScores gr_size tx_letters tx_length va_scores va_knownEnds hi_begins hi_lengths hi_scores hi_taken hi_count de_states de_begins de_lengths de_length) := hD
              refine lv_iinc (v := (x2_4 + (1 : Int32))) (lv' := [(2, .int (x2_4 + (1 : Int32))), (1, .int (x1_4 + (-1 : Int32))), (0, .ref (ad 1))]) hx hb d_Co_pairUp_87 hl (k := 2) rfl rfl (by decide) rfl (fun ls hl => ?_)
              refine lv_goto (tgt := 4) hx hb d_Co_pairUp_90 (by decide) ?_
              exact ih4 (x1_4 + (-1 : Int32)) (x2_4 + (1 : Int32)) (upd (upd (upd co_partners_4 (Int32.toNatClampNeg x2_4) (-1 : Int32)) (Int32.toNatClampNeg x2_4) (co_open_4 (Int32.toNatClampNeg (x1_4 + (-1 : Int32))))) (Int32.toNatClampNeg (co_open_4 (Int32.toNatClampNeg (x1_4 + (-1 : Int32))))) x2_4) co_open_4 _ _ _ hP hD hS (lv_sub hl [2, 1, 0] rfl) hf
            · have hf := xif_t c7 hf
              refine lv_iconst (v := 0) hx hb d_Co_pairUp_58 (by decide) ?_
              obtain ⟨rfl, rfl, rfl⟩ := os3 hf
              exact hret H locs _ _ _ d_Co_pairUp_59 rfl rfl hP hS
        · have hf := xif_t c4 hf
          refine lv_aload_n hx hb d_Co_pairUp_30 rfl (lv_at hl 0 rfl) ?_
          refine va_get (D := (dC, dI)) (ci := 1) (v := .ref (ad 5)) (C := R_Co) (T := F_Co) (N := 6) hx hb hts iw_Co hown hK hP 1 rfl rfl 4 (by decide) (hts _ m_84) (fun _ h9 => h9) rfl d_Co_pairUp_31 ?_
          refine lv_iload_n hx hb d_Co_pairUp_34 rfl (lv_at hl 1 rfl) ?_
          refine lv_iload_n hx hb d_Co_pairUp_35 rfl (lv_at hl 2 rfl) ?_
          obtain ⟨hi12, hf⟩ := gdi hf
          refine va_iast hx hb hK hP hD hS 5 0 rfl rfl hi12 d_Co_pairUp_36 (fun H locs hP hD hS => ?_)
          have hP : va_P (dC, dI) classes (wX ty ad co_rows co_marks co_rowSets (upd co_partners_4 (Int32.toNatClampNeg x2_4) (-1 : Int32)) (upd co_open_4 (Int32.toNatClampNeg x1_4) x2_4) co_count tr_kinds tr_lefts tr_rights tr_seconds tr_size gr_kinds gr_nodes gr_rowSets gr_firstStates gr_targetCounts gr_targets gr_stepScores gr_letterScores gr_size tx_letters tx_length va_scores va_knownEnds hi_begins hi_lengths hi_scores hi_taken hi_count de_states de_begins de_lengths de_length) H := hP
          have hD : va_D A (wX ty ad co_rows co_marks co_rowSets (upd co_partners_4 (Int32.toNatClampNeg x2_4) (-1 : Int32)) (upd co_open_4 (Int32.toNatClampNeg x1_4) x2_4) co_count tr_kinds tr_lefts tr_rights tr_seconds tr_size gr_kinds gr_nodes gr_rowSets gr_firstStates gr_targetCounts gr_targets gr_stepScores gr_letterScores gr_size tx_letters tx_length va_scores va_knownEnds hi_begins hi_lengths hi_scores hi_taken hi_count de_states de_begins de_lengths de_length) := hD
          refine lv_iinc (v := (x1_4 + (1 : Int32))) (lv' := [(1, .int (x1_4 + (1 : Int32))), (0, .ref (ad 1)), (2, .int x2_4)]) hx hb d_Co_pairUp_37 hl (k := 1) rfl rfl (by decide) rfl (fun ls hl => ?_)
          refine lv_goto (tgt := 87) hx hb d_Co_pairUp_40 (by decide) ?_
          refine lv_iinc (v := (x2_4 + (1 : Int32))) (lv' := [(2, .int (x2_4 + (1 : Int32))), (1, .int (x1_4 + (1 : Int32))), (0, .ref (ad 1))]) hx hb d_Co_pairUp_87 hl (k := 2) rfl rfl (by decide) rfl (fun ls hl => ?_)
          refine lv_goto (tgt := 4) hx hb d_Co_pairUp_90 (by decide) ?_
          exact ih4 (x1_4 + (1 : Int32)) (x2_4 + (1 : Int32)) (upd co_partners_4 (Int32.toNatClampNeg x2_4) (-1 : Int32)) (upd co_open_4 (Int32.toNatClampNeg x1_4) x2_4) _ _ _ hP hD hS (lv_sub hl [2, 1, 0] rfl) hf
  exact L4 1000 (0 : Int32) (0 : Int32) co_partners co_open _ _ _ hP hD hS (lv_sub hl [2, 1, 0] rfl) hf
def f_Tr_add (tr_kinds : (Nat → Int32)) (tr_lefts : (Nat → Int32)) (tr_rights : (Nat → Int32)) (tr_size : Int32) (a1 : Int32) (a2 : Int32) (a3 : Int32) : Option ((Nat → Int32) × (Nat → Int32) × (Nat → Int32) × Int32) := gd (xin tr_size 18) (gd (xin tr_size 18) (gd (xin tr_size 18) (some ((upd tr_kinds (Int32.toNatClampNeg tr_size) a1), (upd tr_lefts (Int32.toNatClampNeg tr_size) a2), (upd tr_rights (Int32.toNatClampNeg tr_size) a3), (tr_size + (1 : Int32))))))
set_option maxHeartbeats 4000000 in
set_option maxRecDepth 100000 in
theorem c_Tr_add (l : Launch) (dC : Nat → ClassId) (dI : Nat → Nat → Nat) (ty : Nat → ClassId) (ad : Nat → Nat) (ta : Nat → Nat) (sz : Nat) (co_rows : Int32) (co_marks : (Nat → Int32)) (co_rowSets : (Nat → Int32)) (co_partners : (Nat → Int32)) (co_open : (Nat → Int32)) (co_count : Int32) (tr_kinds : (Nat → Int32)) (tr_lefts : (Nat → Int32)) (tr_rights : (Nat → Int32)) (tr_seconds : (Nat → Int32)) (tr_size : Int32) (gr_kinds : (Nat → Int32)) (gr_nodes : (Nat → Int32)) (gr_rowSets : (Nat → Int32)) (gr_firstStates : (Nat → Int32)) (gr_targetCounts : (Nat → Int32)) (gr_targets : (Nat → Int32)) (gr_stepScores : (Nat → Int32)) (gr_letterScores : (Nat → Int32)) (gr_size : Int32) (tx_letters : (Nat → Int32)) (tx_length : Int32) (va_scores : (Nat → Int32)) (va_knownEnds : Int32) (hi_begins : (Nat → Int32)) (hi_lengths : (Nat → Int32)) (hi_scores : (Nat → Int32)) (hi_taken : (Nat → Int32)) (hi_count : Int32) (de_states : (Nat → Int32)) (de_begins : (Nat → Int32)) (de_lengths : (Nat → Int32)) (de_length : Int32) (a1 : Int32) (a2 : Int32) (a3 : Int32) (n_tr_kinds : (Nat → Int32)) (n_tr_lefts : (Nat → Int32)) (n_tr_rights : (Nat → Int32)) (n_tr_size : Int32) (hf : f_Tr_add tr_kinds tr_lefts tr_rights tr_size a1 a2 a3 = some (n_tr_kinds, n_tr_lefts, n_tr_rights, n_tr_size)) : Met l y_Tr_add (.code y_Tr_add prog_7_method_10_code 4 none :: gw) rm_Tr_add (xPre ta (dC, dI) classes (tys3 ty) (wX ty ad co_rows co_marks co_rowSets co_partners co_open co_count tr_kinds tr_lefts tr_rights tr_seconds tr_size gr_kinds gr_nodes gr_rowSets gr_firstStates gr_targetCounts gr_targets gr_stepScores gr_letterScores gr_size tx_letters tx_length va_scores va_knownEnds hi_begins hi_lengths hi_scores hi_taken hi_count de_states de_begins de_lengths de_length) sz [.ref (ad 6), .int a1, .int a2, .int a3]) (xQv (dC, dI) classes (wX ty ad co_rows co_marks co_rowSets co_partners co_open co_count tr_kinds tr_lefts tr_rights tr_seconds tr_size gr_kinds gr_nodes gr_rowSets gr_firstStates gr_targetCounts gr_targets gr_stepScores gr_letterScores gr_size tx_letters tx_length va_scores va_knownEnds hi_begins hi_lengths hi_scores hi_taken hi_count de_states de_begins de_lengths de_length) (wX ty ad co_rows co_marks co_rowSets co_partners co_open co_count n_tr_kinds n_tr_lefts n_tr_rights tr_seconds n_tr_size gr_kinds gr_nodes gr_rowSets gr_firstStates gr_targetCounts gr_targets gr_stepScores gr_letterScores gr_size tx_letters tx_length va_scores va_knownEnds hi_begins hi_lengths hi_scores hi_taken hi_count de_states de_begins de_lengths de_length) sz) 0 0 (va_A (wX ty ad co_rows co_marks co_rowSets co_partners co_open co_count tr_kinds tr_lefts tr_rights tr_seconds tr_size gr_kinds gr_nodes gr_rowSets gr_firstStates gr_targetCounts gr_targets gr_stepScores gr_letterScores gr_size tx_letters tx_length va_scores va_knownEnds hi_begins hi_lengths hi_scores hi_taken hi_count de_states de_begins de_lengths de_length) sz) := by
  refine xmet_v rfl (Nat.le_of_ble_eq_true rfl) ?_
  intro p e s m below meth c A ls Q hx hb hml hts hown hK hN hA hP hD hS hl hret
  replace hown : s.vm.findClass R_Tr = some m.cls := hown
  have hl : lv_has ls 4 [(0, .ref (ad 6)), (1, .int a1), (2, .int a2), (3, .int a3)] := hl
  rw [f_Tr_add] at hf
  obtain ⟨H, eH⟩ : ∃ H : Heap, H = s.heap := ⟨_, rfl⟩
  obtain ⟨locs, eL⟩ : ∃ L : List Loc, L = [] := ⟨_, rfl⟩
  have hP : va_P (dC, dI) classes (wX ty ad co_rows co_marks co_rowSets co_partners co_open co_count tr_kinds tr_lefts tr_rights tr_seconds tr_size gr_kinds gr_nodes gr_rowSets gr_firstStates gr_targetCounts gr_targets gr_stepScores gr_letterScores gr_size tx_letters tx_length va_scores va_knownEnds hi_begins hi_lengths hi_scores hi_taken hi_count de_states de_begins de_lengths de_length) H := by rw [eH]; exact hP
  have hS : va_S A s.heap H locs := by rw [eH, eL]; exact hS
  rw [← eL]
  suffices hgoal : W p l e rm_Tr_add s m (List.toArray [.ref (ad 6), .int a1, .int a2, .int a3]) below meth c H locs 0 0 Q (F0 m 0 ls []) by rw [eH] at hgoal; exact hgoal
  clear eH eL
  refine lv_aload_n hx hb d_Tr_add_0 rfl (lv_at hl 0 rfl) ?_
  refine va_get (D := (dC, dI)) (ci := 2) (v := .ref (ad 7)) (C := R_Tr) (T := F_Tr) (N := 6) hx hb hts iw_Tr hown hK hP 6 rfl rfl 1 (by decide) (hts _ m_108) (fun _ h9 => h9) rfl d_Tr_add_1 ?_
  refine lv_aload_n hx hb d_Tr_add_4 rfl (lv_at hl 0 rfl) ?_
  refine va_get (D := (dC, dI)) (ci := 2) (v := .int tr_size) (C := R_Tr) (T := F_Tr) (N := 6) hx hb hts iw_Tr hown hK hP 6 rfl rfl 5 (by decide) (hts _ m_112) (fun _ h9 => h9) rfl d_Tr_add_5 ?_
  refine lv_iload_n hx hb d_Tr_add_8 rfl (lv_at hl 1 rfl) ?_
  obtain ⟨hi1, hf⟩ := gdi hf
  refine va_iast hx hb hK hP hD hS 7 0 rfl rfl hi1 d_Tr_add_9 (fun H locs hP hD hS => ?_)
  have hP : va_P (dC, dI) classes (wX ty ad co_rows co_marks co_rowSets co_partners co_open co_count (upd tr_kinds (Int32.toNatClampNeg tr_size) a1) tr_lefts tr_rights tr_seconds tr_size gr_kinds gr_nodes gr_rowSets gr_firstStates gr_targetCounts gr_targets gr_stepScores gr_letterScores gr_size tx_letters tx_length va_scores va_knownEnds hi_begins hi_lengths hi_scores hi_taken hi_count de_states de_begins de_lengths de_length) H := hP
  have hD : va_D A (wX ty ad co_rows co_marks co_rowSets co_partners co_open co_count (upd tr_kinds (Int32.toNatClampNeg tr_size) a1) tr_lefts tr_rights tr_seconds tr_size gr_kinds gr_nodes gr_rowSets gr_firstStates gr_targetCounts gr_targets gr_stepScores gr_letterScores gr_size tx_letters tx_length va_scores va_knownEnds hi_begins hi_lengths hi_scores hi_taken hi_count de_states de_begins de_lengths de_length) := hD
  refine lv_aload_n hx hb d_Tr_add_10 rfl (lv_at hl 0 rfl) ?_
  refine va_get (D := (dC, dI)) (ci := 2) (v := .ref (ad 8)) (C := R_Tr) (T := F_Tr) (N := 6) hx hb hts iw_Tr hown hK hP 6 rfl rfl 2 (by decide) (hts _ m_109) (fun _ h9 => h9) rfl d_Tr_add_11 ?_
  refine lv_aload_n hx hb d_Tr_add_14 rfl (lv_at hl 0 rfl) ?_
  refine va_get (D := (dC, dI)) (ci := 2) (v := .int tr_size) (C := R_Tr) (T := F_Tr) (N := 6) hx hb hts iw_Tr hown hK hP 6 rfl rfl 5 (by decide) (hts _ m_112) (fun _ h9 => h9) rfl d_Tr_add_15 ?_
  refine lv_iload_n hx hb d_Tr_add_18 rfl (lv_at hl 2 rfl) ?_
  obtain ⟨hi2, hf⟩ := gdi hf
  refine va_iast hx hb hK hP hD hS 8 0 rfl rfl hi2 d_Tr_add_19 (fun H locs hP hD hS => ?_)
  have hP : va_P (dC, dI) classes (wX ty ad co_rows co_marks co_rowSets co_partners co_open co_count (upd tr_kinds (Int32.toNatClampNeg tr_size) a1) (upd tr_lefts (Int32.toNatClampNeg tr_size) a2) tr_rights tr_seconds tr_size gr_kinds gr_nodes gr_rowSets gr_firstStates gr_targetCounts gr_targets gr_stepScores gr_letterScores gr_size tx_letters tx_length va_scores va_knownEnds hi_begins hi_lengths hi_scores hi_taken hi_count de_states de_begins de_lengths de_length) H := hP
  have hD : va_D A (wX ty ad co_rows co_marks co_rowSets co_partners co_open co_count (upd tr_kinds (Int32.toNatClampNeg tr_size) a1) (upd tr_lefts (Int32.toNatClampNeg tr_size) a2) tr_rights tr_seconds tr_size gr_kinds gr_nodes gr_rowSets gr_firstStates gr_targetCounts gr_targets gr_stepScores gr_letterScores gr_size tx_letters tx_length va_scores va_knownEnds hi_begins hi_lengths hi_scores hi_taken hi_count de_states de_begins de_lengths de_length) := hD
  refine lv_aload_n hx hb d_Tr_add_20 rfl (lv_at hl 0 rfl) ?_
  refine va_get (D := (dC, dI)) (ci := 2) (v := .ref (ad 9)) (C := R_Tr) (T := F_Tr) (N := 6) hx hb hts iw_Tr hown hK hP 6 rfl rfl 3 (by decide) (hts _ m_110) (fun _ h9 => h9) rfl d_Tr_add_21 ?_
  refine lv_aload_n hx hb d_Tr_add_24 rfl (lv_at hl 0 rfl) ?_
  refine va_get (D := (dC, dI)) (ci := 2) (v := .int tr_size) (C := R_Tr) (T := F_Tr) (N := 6) hx hb hts iw_Tr hown hK hP 6 rfl rfl 5 (by decide) (hts _ m_112) (fun _ h9 => h9) rfl d_Tr_add_25 ?_
  refine lv_iload_n hx hb d_Tr_add_28 rfl (lv_at hl 3 rfl) ?_
  obtain ⟨hi3, hf⟩ := gdi hf
  refine va_iast hx hb hK hP hD hS 9 0 rfl rfl hi3 d_Tr_add_29 (fun H locs hP hD hS => ?_)
  have hP : va_P (dC, dI) classes (wX ty ad co_rows co_marks co_rowSets co_partners co_open co_count (upd tr_kinds (Int32.toNatClampNeg tr_size) a1) (upd tr_lefts (Int32.toNatClampNeg tr_size) a2) (upd tr_rights (Int32.toNatClampNeg tr_size) a3) tr_seconds tr_size gr_kinds gr_nodes gr_rowSets gr_firstStates gr_targetCounts gr_targets gr_stepScores gr_letterScores gr_size tx_letters tx_length va_scores va_knownEnds hi_begins hi_lengths hi_scores hi_taken hi_count de_states de_begins de_lengths de_length) H := hP
  have hD : va_D A (wX ty ad co_rows co_marks co_rowSets co_partners co_open co_count (upd tr_kinds (Int32.toNatClampNeg tr_size) a1) (upd tr_lefts (Int32.toNatClampNeg tr_size) a2) (upd tr_rights (Int32.toNatClampNeg tr_size) a3) tr_seconds tr_size gr_kinds gr_nodes gr_rowSets gr_firstStates gr_targetCounts gr_targets gr_stepScores gr_letterScores gr_size tx_letters tx_length va_scores va_knownEnds hi_begins hi_lengths hi_scores hi_taken hi_count de_states de_begins de_lengths de_length) := hD
  refine lv_aload_n hx hb d_Tr_add_30 rfl (lv_at hl 0 rfl) ?_
  refine lv_dup hx hb d_Tr_add_31 rfl ?_
  refine va_get (D := (dC, dI)) (ci := 2) (v := .int tr_size) (C := R_Tr) (T := F_Tr) (N := 6) hx hb hts iw_Tr hown hK hP 6 rfl rfl 5 (by decide) (hts _ m_112) (fun _ h9 => h9) rfl d_Tr_add_32 ?_
  refine lv_iconst (v := 1) hx hb d_Tr_add_35 (by decide) ?_
  refine lv_iadd hx hb d_Tr_add_36 ?_
  refine va_put (D := (dC, dI)) (ci := 2) (v := .int (tr_size + (1 : Int32))) (ty := .int) (C := R_Tr) (T := F_Tr) (N := 6) hx hb hts iw_Tr t_Tr t_Tr_ok n_Tr hown hK hP hD hS 6 rfl rfl 5 (by decide) (hts _ m_112) (fun _ h9 => h9) rfl (by decide +kernel) rfl rfl (Nat.le_of_ble_eq_true rfl) d_Tr_add_37 (fun H locs hP hD hS => ?_)
  have hP : va_P (dC, dI) classes (wX ty ad co_rows co_marks co_rowSets co_partners co_open co_count (upd tr_kinds (Int32.toNatClampNeg tr_size) a1) (upd tr_lefts (Int32.toNatClampNeg tr_size) a2) (upd tr_rights (Int32.toNatClampNeg tr_size) a3) tr_seconds (tr_size + (1 : Int32)) gr_kinds gr_nodes gr_rowSets gr_firstStates gr_targetCounts gr_targets gr_stepScores gr_letterScores gr_size tx_letters tx_length va_scores va_knownEnds hi_begins hi_lengths hi_scores hi_taken hi_count de_states de_begins de_lengths de_length) H := hP
  have hD : va_D A (wX ty ad co_rows co_marks co_rowSets co_partners co_open co_count (upd tr_kinds (Int32.toNatClampNeg tr_size) a1) (upd tr_lefts (Int32.toNatClampNeg tr_size) a2) (upd tr_rights (Int32.toNatClampNeg tr_size) a3) tr_seconds (tr_size + (1 : Int32)) gr_kinds gr_nodes gr_rowSets gr_firstStates gr_targetCounts gr_targets gr_stepScores gr_letterScores gr_size tx_letters tx_length va_scores va_knownEnds hi_begins hi_lengths hi_scores hi_taken hi_count de_states de_begins de_lengths de_length) := hD
  obtain ⟨rfl, rfl, rfl, rfl⟩ := os4 hf
  exact hret H locs _ _ d_Tr_add_40 hP hS
def f_Co_count (co_count : Int32) : Option (Int32) := some (co_count)
set_option maxHeartbeats 4000000 in
set_option maxRecDepth 100000 in
theorem c_Co_count (l : Launch) (dC : Nat → ClassId) (dI : Nat → Nat → Nat) (ty : Nat → ClassId) (ad : Nat → Nat) (ta : Nat → Nat) (sz : Nat) (co_rows : Int32) (co_marks : (Nat → Int32)) (co_rowSets : (Nat → Int32)) (co_partners : (Nat → Int32)) (co_open : (Nat → Int32)) (co_count : Int32) (tr_kinds : (Nat → Int32)) (tr_lefts : (Nat → Int32)) (tr_rights : (Nat → Int32)) (tr_seconds : (Nat → Int32)) (tr_size : Int32) (gr_kinds : (Nat → Int32)) (gr_nodes : (Nat → Int32)) (gr_rowSets : (Nat → Int32)) (gr_firstStates : (Nat → Int32)) (gr_targetCounts : (Nat → Int32)) (gr_targets : (Nat → Int32)) (gr_stepScores : (Nat → Int32)) (gr_letterScores : (Nat → Int32)) (gr_size : Int32) (tx_letters : (Nat → Int32)) (tx_length : Int32) (va_scores : (Nat → Int32)) (va_knownEnds : Int32) (hi_begins : (Nat → Int32)) (hi_lengths : (Nat → Int32)) (hi_scores : (Nat → Int32)) (hi_taken : (Nat → Int32)) (hi_count : Int32) (de_states : (Nat → Int32)) (de_begins : (Nat → Int32)) (de_lengths : (Nat → Int32)) (de_length : Int32)  (r0 : Int32) (hf : f_Co_count co_count = some (r0)) : Met l y_Co_count (.code y_Co_count prog_2_method_2_code 1 (some .int) :: gw) rm_Co_count (xPre ta (dC, dI) classes (tys3 ty) (wX ty ad co_rows co_marks co_rowSets co_partners co_open co_count tr_kinds tr_lefts tr_rights tr_seconds tr_size gr_kinds gr_nodes gr_rowSets gr_firstStates gr_targetCounts gr_targets gr_stepScores gr_letterScores gr_size tx_letters tx_length va_scores va_knownEnds hi_begins hi_lengths hi_scores hi_taken hi_count de_states de_begins de_lengths de_length) sz [.ref (ad 1)]) (xQi (dC, dI) classes (wX ty ad co_rows co_marks co_rowSets co_partners co_open co_count tr_kinds tr_lefts tr_rights tr_seconds tr_size gr_kinds gr_nodes gr_rowSets gr_firstStates gr_targetCounts gr_targets gr_stepScores gr_letterScores gr_size tx_letters tx_length va_scores va_knownEnds hi_begins hi_lengths hi_scores hi_taken hi_count de_states de_begins de_lengths de_length) (wX ty ad co_rows co_marks co_rowSets co_partners co_open co_count tr_kinds tr_lefts tr_rights tr_seconds tr_size gr_kinds gr_nodes gr_rowSets gr_firstStates gr_targetCounts gr_targets gr_stepScores gr_letterScores gr_size tx_letters tx_length va_scores va_knownEnds hi_begins hi_lengths hi_scores hi_taken hi_count de_states de_begins de_lengths de_length) sz r0) 0 0 (va_A (wX ty ad co_rows co_marks co_rowSets co_partners co_open co_count tr_kinds tr_lefts tr_rights tr_seconds tr_size gr_kinds gr_nodes gr_rowSets gr_firstStates gr_targetCounts gr_targets gr_stepScores gr_letterScores gr_size tx_letters tx_length va_scores va_knownEnds hi_begins hi_lengths hi_scores hi_taken hi_count de_states de_begins de_lengths de_length) sz) := by
  refine xmet_i rfl (Nat.le_of_ble_eq_true rfl) ?_
  intro p e s m below meth c A ls Q hx hb hml hts hown hK hN hA hP hD hS hl hret
  replace hown : s.vm.findClass R_Co = some m.cls := hown
  have hl : lv_has ls 1 [(0, .ref (ad 1))] := hl
  rw [f_Co_count] at hf
  obtain ⟨H, eH⟩ : ∃ H : Heap, H = s.heap := ⟨_, rfl⟩
  obtain ⟨locs, eL⟩ : ∃ L : List Loc, L = [] := ⟨_, rfl⟩
  have hP : va_P (dC, dI) classes (wX ty ad co_rows co_marks co_rowSets co_partners co_open co_count tr_kinds tr_lefts tr_rights tr_seconds tr_size gr_kinds gr_nodes gr_rowSets gr_firstStates gr_targetCounts gr_targets gr_stepScores gr_letterScores gr_size tx_letters tx_length va_scores va_knownEnds hi_begins hi_lengths hi_scores hi_taken hi_count de_states de_begins de_lengths de_length) H := by rw [eH]; exact hP
  have hS : va_S A s.heap H locs := by rw [eH, eL]; exact hS
  rw [← eL]
  suffices hgoal : W p l e rm_Co_count s m (List.toArray [.ref (ad 1)]) below meth c H locs 0 0 Q (F0 m 0 ls []) by rw [eH] at hgoal; exact hgoal
  clear eH eL
  refine lv_aload_n hx hb d_Co_count_0 rfl (lv_at hl 0 rfl) ?_
  refine va_get (D := (dC, dI)) (ci := 1) (v := .int co_count) (C := R_Co) (T := F_Co) (N := 6) hx hb hts iw_Co hown hK hP 1 rfl rfl 5 (by decide) (hts _ m_85) (fun _ h9 => h9) rfl d_Co_count_1 ?_
  obtain rfl := os1 hf
  exact hret H locs _ _ _ d_Co_count_4 rfl hP hS
def f_Co_partner (co_partners : (Nat → Int32)) (a1 : Int32) : Option (Int32) := gd (xin a1 8) (some ((co_partners (Int32.toNatClampNeg a1))))
set_option maxHeartbeats 4000000 in
set_option maxRecDepth 100000 in
theorem c_Co_partner (l : Launch) (dC : Nat → ClassId) (dI : Nat → Nat → Nat) (ty : Nat → ClassId) (ad : Nat → Nat) (ta : Nat → Nat) (sz : Nat) (co_rows : Int32) (co_marks : (Nat → Int32)) (co_rowSets : (Nat → Int32)) (co_partners : (Nat → Int32)) (co_open : (Nat → Int32)) (co_count : Int32) (tr_kinds : (Nat → Int32)) (tr_lefts : (Nat → Int32)) (tr_rights : (Nat → Int32)) (tr_seconds : (Nat → Int32)) (tr_size : Int32) (gr_kinds : (Nat → Int32)) (gr_nodes : (Nat → Int32)) (gr_rowSets : (Nat → Int32)) (gr_firstStates : (Nat → Int32)) (gr_targetCounts : (Nat → Int32)) (gr_targets : (Nat → Int32)) (gr_stepScores : (Nat → Int32)) (gr_letterScores : (Nat → Int32)) (gr_size : Int32) (tx_letters : (Nat → Int32)) (tx_length : Int32) (va_scores : (Nat → Int32)) (va_knownEnds : Int32) (hi_begins : (Nat → Int32)) (hi_lengths : (Nat → Int32)) (hi_scores : (Nat → Int32)) (hi_taken : (Nat → Int32)) (hi_count : Int32) (de_states : (Nat → Int32)) (de_begins : (Nat → Int32)) (de_lengths : (Nat → Int32)) (de_length : Int32) (a1 : Int32) (r0 : Int32) (hf : f_Co_partner co_partners a1 = some (r0)) : Met l y_Co_partner (.code y_Co_partner prog_2_method_8_code 2 (some .int) :: gw) rm_Co_partner (xPre ta (dC, dI) classes (tys3 ty) (wX ty ad co_rows co_marks co_rowSets co_partners co_open co_count tr_kinds tr_lefts tr_rights tr_seconds tr_size gr_kinds gr_nodes gr_rowSets gr_firstStates gr_targetCounts gr_targets gr_stepScores gr_letterScores gr_size tx_letters tx_length va_scores va_knownEnds hi_begins hi_lengths hi_scores hi_taken hi_count de_states de_begins de_lengths de_length) sz [.ref (ad 1), .int a1]) (xQi (dC, dI) classes (wX ty ad co_rows co_marks co_rowSets co_partners co_open co_count tr_kinds tr_lefts tr_rights tr_seconds tr_size gr_kinds gr_nodes gr_rowSets gr_firstStates gr_targetCounts gr_targets gr_stepScores gr_letterScores gr_size tx_letters tx_length va_scores va_knownEnds hi_begins hi_lengths hi_scores hi_taken hi_count de_states de_begins de_lengths de_length) (wX ty ad co_rows co_marks co_rowSets co_partners co_open co_count tr_kinds tr_lefts tr_rights tr_seconds tr_size gr_kinds gr_nodes gr_rowSets gr_firstStates gr_targetCounts gr_targets gr_stepScores gr_letterScores gr_size tx_letters tx_length va_scores va_knownEnds hi_begins hi_lengths hi_scores hi_taken hi_count de_states de_begins de_lengths de_length) sz r0) 0 0 (va_A (wX ty ad co_rows co_marks co_rowSets co_partners co_open co_count tr_kinds tr_lefts tr_rights tr_seconds tr_size gr_kinds gr_nodes gr_rowSets gr_firstStates gr_targetCounts gr_targets gr_stepScores gr_letterScores gr_size tx_letters tx_length va_scores va_knownEnds hi_begins hi_lengths hi_scores hi_taken hi_count de_states de_begins de_lengths de_length) sz) := by
  refine xmet_i rfl (Nat.le_of_ble_eq_true rfl) ?_
  intro p e s m below meth c A ls Q hx hb hml hts hown hK hN hA hP hD hS hl hret
  replace hown : s.vm.findClass R_Co = some m.cls := hown
  have hl : lv_has ls 2 [(0, .ref (ad 1)), (1, .int a1)] := hl
  rw [f_Co_partner] at hf
  obtain ⟨H, eH⟩ : ∃ H : Heap, H = s.heap := ⟨_, rfl⟩
  obtain ⟨locs, eL⟩ : ∃ L : List Loc, L = [] := ⟨_, rfl⟩
  have hP : va_P (dC, dI) classes (wX ty ad co_rows co_marks co_rowSets co_partners co_open co_count tr_kinds tr_lefts tr_rights tr_seconds tr_size gr_kinds gr_nodes gr_rowSets gr_firstStates gr_targetCounts gr_targets gr_stepScores gr_letterScores gr_size tx_letters tx_length va_scores va_knownEnds hi_begins hi_lengths hi_scores hi_taken hi_count de_states de_begins de_lengths de_length) H := by rw [eH]; exact hP
  have hS : va_S A s.heap H locs := by rw [eH, eL]; exact hS
  rw [← eL]
  suffices hgoal : W p l e rm_Co_partner s m (List.toArray [.ref (ad 1), .int a1]) below meth c H locs 0 0 Q (F0 m 0 ls []) by rw [eH] at hgoal; exact hgoal
  clear eH eL
  refine lv_aload_n hx hb d_Co_partner_0 rfl (lv_at hl 0 rfl) ?_
  refine va_get (D := (dC, dI)) (ci := 1) (v := .ref (ad 4)) (C := R_Co) (T := F_Co) (N := 6) hx hb hts iw_Co hown hK hP 1 rfl rfl 3 (by decide) (hts _ m_83) (fun _ h9 => h9) rfl d_Co_partner_1 ?_
  refine lv_iload_n hx hb d_Co_partner_4 rfl (lv_at hl 1 rfl) ?_
  obtain ⟨hi1, hf⟩ := gdi hf
  refine va_iald hx hb hK hP 4 0 rfl rfl hi1 d_Co_partner_5 ?_
  obtain rfl := os1 hf
  exact hret H locs _ _ _ d_Co_partner_6 rfl hP hS
def f_Co_isPaired (co_partners : (Nat → Int32)) (a1 : Int32) : Option (Int32) := gd (xin a1 8) (if (co_partners (Int32.toNatClampNeg a1)) = (-1 : Int32) then (some ((0 : Int32))) else (some ((1 : Int32))))
set_option maxHeartbeats 4000000 in
set_option maxRecDepth 100000 in
theorem c_Co_isPaired (l : Launch) (dC : Nat → ClassId) (dI : Nat → Nat → Nat) (ty : Nat → ClassId) (ad : Nat → Nat) (ta : Nat → Nat) (sz : Nat) (co_rows : Int32) (co_marks : (Nat → Int32)) (co_rowSets : (Nat → Int32)) (co_partners : (Nat → Int32)) (co_open : (Nat → Int32)) (co_count : Int32) (tr_kinds : (Nat → Int32)) (tr_lefts : (Nat → Int32)) (tr_rights : (Nat → Int32)) (tr_seconds : (Nat → Int32)) (tr_size : Int32) (gr_kinds : (Nat → Int32)) (gr_nodes : (Nat → Int32)) (gr_rowSets : (Nat → Int32)) (gr_firstStates : (Nat → Int32)) (gr_targetCounts : (Nat → Int32)) (gr_targets : (Nat → Int32)) (gr_stepScores : (Nat → Int32)) (gr_letterScores : (Nat → Int32)) (gr_size : Int32) (tx_letters : (Nat → Int32)) (tx_length : Int32) (va_scores : (Nat → Int32)) (va_knownEnds : Int32) (hi_begins : (Nat → Int32)) (hi_lengths : (Nat → Int32)) (hi_scores : (Nat → Int32)) (hi_taken : (Nat → Int32)) (hi_count : Int32) (de_states : (Nat → Int32)) (de_begins : (Nat → Int32)) (de_lengths : (Nat → Int32)) (de_length : Int32) (a1 : Int32) (r0 : Int32) (hf : f_Co_isPaired co_partners a1 = some (r0)) : Met l y_Co_isPaired (.code y_Co_isPaired prog_2_method_7_code 2 (some .boolean) :: gw) rm_Co_isPaired (xPre ta (dC, dI) classes (tys3 ty) (wX ty ad co_rows co_marks co_rowSets co_partners co_open co_count tr_kinds tr_lefts tr_rights tr_seconds tr_size gr_kinds gr_nodes gr_rowSets gr_firstStates gr_targetCounts gr_targets gr_stepScores gr_letterScores gr_size tx_letters tx_length va_scores va_knownEnds hi_begins hi_lengths hi_scores hi_taken hi_count de_states de_begins de_lengths de_length) sz [.ref (ad 1), .int a1]) (xQi (dC, dI) classes (wX ty ad co_rows co_marks co_rowSets co_partners co_open co_count tr_kinds tr_lefts tr_rights tr_seconds tr_size gr_kinds gr_nodes gr_rowSets gr_firstStates gr_targetCounts gr_targets gr_stepScores gr_letterScores gr_size tx_letters tx_length va_scores va_knownEnds hi_begins hi_lengths hi_scores hi_taken hi_count de_states de_begins de_lengths de_length) (wX ty ad co_rows co_marks co_rowSets co_partners co_open co_count tr_kinds tr_lefts tr_rights tr_seconds tr_size gr_kinds gr_nodes gr_rowSets gr_firstStates gr_targetCounts gr_targets gr_stepScores gr_letterScores gr_size tx_letters tx_length va_scores va_knownEnds hi_begins hi_lengths hi_scores hi_taken hi_count de_states de_begins de_lengths de_length) sz r0) 0 0 (va_A (wX ty ad co_rows co_marks co_rowSets co_partners co_open co_count tr_kinds tr_lefts tr_rights tr_seconds tr_size gr_kinds gr_nodes gr_rowSets gr_firstStates gr_targetCounts gr_targets gr_stepScores gr_letterScores gr_size tx_letters tx_length va_scores va_knownEnds hi_begins hi_lengths hi_scores hi_taken hi_count de_states de_begins de_lengths de_length) sz) := by
  refine xmet_z rfl (Nat.le_of_ble_eq_true rfl) ?_
  intro p e s m below meth c A ls Q hx hb hml hts hown hK hN hA hP hD hS hl hret
  replace hown : s.vm.findClass R_Co = some m.cls := hown
  have hl : lv_has ls 2 [(0, .ref (ad 1)), (1, .int a1)] := hl
  rw [f_Co_isPaired] at hf
  obtain ⟨H, eH⟩ : ∃ H : Heap, H = s.heap := ⟨_, rfl⟩
  obtain ⟨locs, eL⟩ : ∃ L : List Loc, L = [] := ⟨_, rfl⟩
  have hP : va_P (dC, dI) classes (wX ty ad co_rows co_marks co_rowSets co_partners co_open co_count tr_kinds tr_lefts tr_rights tr_seconds tr_size gr_kinds gr_nodes gr_rowSets gr_firstStates gr_targetCounts gr_targets gr_stepScores gr_letterScores gr_size tx_letters tx_length va_scores va_knownEnds hi_begins hi_lengths hi_scores hi_taken hi_count de_states de_begins de_lengths de_length) H := by rw [eH]; exact hP
  have hS : va_S A s.heap H locs := by rw [eH, eL]; exact hS
  rw [← eL]
  suffices hgoal : W p l e rm_Co_isPaired s m (List.toArray [.ref (ad 1), .int a1]) below meth c H locs 0 0 Q (F0 m 0 ls []) by rw [eH] at hgoal; exact hgoal
  clear eH eL
  refine lv_aload_n hx hb d_Co_isPaired_0 rfl (lv_at hl 0 rfl) ?_
  refine va_get (D := (dC, dI)) (ci := 1) (v := .ref (ad 4)) (C := R_Co) (T := F_Co) (N := 6) hx hb hts iw_Co hown hK hP 1 rfl rfl 3 (by decide) (hts _ m_83) (fun _ h9 => h9) rfl d_Co_isPaired_1 ?_
  refine lv_iload_n hx hb d_Co_isPaired_4 rfl (lv_at hl 1 rfl) ?_
  obtain ⟨hi1, hf⟩ := gdi hf
  refine va_iald hx hb hK hP 4 0 rfl rfl hi1 d_Co_isPaired_5 ?_
  refine lv_iconst (v := -1) hx hb d_Co_isPaired_6 (by decide) ?_
  refine lv_icmp_eq (tgt := 14) hx hb d_Co_isPaired_7 (by decide) (fun c2 => ?_) (fun c2 => ?_)
  · have hf := xif_t c2 hf
    refine lv_iconst (v := 0) hx hb d_Co_isPaired_14 (by decide) ?_
    obtain rfl := os1 hf
    exact hret H locs _ _ _ d_Co_isPaired_15 rfl rfl hP hS
  · have hf := xif_f c2 hf
    refine lv_iconst (v := 1) hx hb d_Co_isPaired_10 (by decide) ?_
    refine lv_goto (tgt := 15) hx hb d_Co_isPaired_11 (by decide) ?_
    obtain rfl := os1 hf
    exact hret H locs _ _ _ d_Co_isPaired_15 rfl rfl hP hS
def f_Tr_growFork (recM : (Nat → Int32) → (Nat → Int32) → (Nat → Int32) → (Nat → Int32) → (Nat → Int32) → Int32 → Int32 → Int32 → Int32 → Option ((Nat → Int32) × (Nat → Int32) × (Nat → Int32) × (Nat → Int32) × Int32)) (co_partners : (Nat → Int32)) (tr_kinds : (Nat → Int32)) (tr_lefts : (Nat → Int32)) (tr_rights : (Nat → Int32)) (tr_seconds : (Nat → Int32)) (tr_size : Int32) (a1 : Int32) (a2 : Int32) (a3 : Int32) : Option ((Nat → Int32) × (Nat → Int32) × (Nat → Int32) × (Nat → Int32) × Int32) := ob1 (f_Co_partner co_partners a1) (fun r1 => ob4 (f_Tr_add tr_kinds tr_lefts tr_rights tr_size (4 : Int32) (-1 : Int32) (-1 : Int32)) (fun w3 w4 w5 w6 => ob4 (f_Tr_add w3 w4 w5 w6 (5 : Int32) (-1 : Int32) (-1 : Int32)) (fun w8 w9 w10 w11 => ob5 (recM co_partners w8 w9 w10 tr_seconds w11 a1 r1 (a3 + (1 : Int32))) (fun w13 w14 w15 w16 w17 => gd (xin tr_size 18) (ob4 (f_Tr_add w13 w14 w15 w17 (6 : Int32) (-1 : Int32) (-1 : Int32)) (fun w20 w21 w22 w23 => ob5 (recM co_partners w20 w21 w22 (upd w16 (Int32.toNatClampNeg tr_size) w17) w23 (r1 + (1 : Int32)) a2 (a3 + (1 : Int32))) (fun w25 w26 w27 w28 w29 => some (w25, w26, w27, w28, w29))))))))
def f_Tr_growPart : Nat → (Nat → Int32) → (Nat → Int32) → (Nat → Int32) → (Nat → Int32) → (Nat → Int32) → Int32 → Int32 → Int32 → Int32 → Option ((Nat → Int32) × (Nat → Int32) × (Nat → Int32) × (Nat → Int32) × Int32)
  | 0, _, _, _, _, _, _, _, _, _ => none
  | d + 1, co_partners, tr_kinds, tr_lefts, tr_rights, tr_seconds, tr_size, a1, a2, a3 => if a3 ≤ (8 : Int32) then (if a1 ≤ a2 then (ob1 (f_Co_isPaired co_partners a1) (fun r3 => if r3 = (0 : Int32) then (ob4 (f_Tr_add tr_kinds tr_lefts tr_rights tr_size (1 : Int32) a1 (-1 : Int32)) (fun w40 w41 w42 w43 => ob5 ((f_Tr_growPart d) co_partners w40 w41 w42 tr_seconds w43 (a1 + (1 : Int32)) a2 (a3 + (1 : Int32))) (fun w45 w46 w47 w48 w49 => some (w45, w46, w47, w48, w49)))) else (ob1 (f_Co_isPaired co_partners a2) (fun r6 => if r6 = (0 : Int32) then (ob4 (f_Tr_add tr_kinds tr_lefts tr_rights tr_size (2 : Int32) (-1 : Int32) a2) (fun w29 w30 w31 w32 => ob5 ((f_Tr_growPart d) co_partners w29 w30 w31 tr_seconds w32 a1 (a2 - (1 : Int32)) (a3 + (1 : Int32))) (fun w34 w35 w36 w37 w38 => some (w34, w35, w36, w37, w38)))) else (ob1 (f_Co_partner co_partners a1) (fun r9 => if r9 = a2 then (ob4 (f_Tr_add tr_kinds tr_lefts tr_rights tr_size (3 : Int32) a1 a2) (fun w18 w19 w20 w21 => ob5 ((f_Tr_growPart d) co_partners w18 w19 w20 tr_seconds w21 (a1 + (1 : Int32)) (a2 - (1 : Int32)) (a3 + (1 : Int32))) (fun w23 w24 w25 w26 w27 => some (w23, w24, w25, w26, w27)))) else (ob5 (f_Tr_growFork (f_Tr_growPart d) co_partners tr_kinds tr_lefts tr_rights tr_seconds tr_size a1 a2 a3) (fun w12 w13 w14 w15 w16 => some (w12, w13, w14, w15, w16))))))))) else (ob4 (f_Tr_add tr_kinds tr_lefts tr_rights tr_size (7 : Int32) (-1 : Int32) (-1 : Int32)) (fun w51 w52 w53 w54 => some (w51, w52, w53, tr_seconds, w54)))) else (some (tr_kinds, tr_lefts, tr_rights, tr_seconds, tr_size))
set_option maxHeartbeats 4000000 in
set_option maxRecDepth 100000 in
theorem c_Tr_growFork (l : Launch) (dC : Nat → ClassId) (dI : Nat → Nat → Nat) (ty : Nat → ClassId) (ad : Nat → Nat) (ta : Nat → Nat) (d : Nat) (hrec : ∀ (sz : Nat) (co_rows : Int32) (co_marks : (Nat → Int32)) (co_rowSets : (Nat → Int32)) (co_partners : (Nat → Int32)) (co_open : (Nat → Int32)) (co_count : Int32) (tr_kinds : (Nat → Int32)) (tr_lefts : (Nat → Int32)) (tr_rights : (Nat → Int32)) (tr_seconds : (Nat → Int32)) (tr_size : Int32) (gr_kinds : (Nat → Int32)) (gr_nodes : (Nat → Int32)) (gr_rowSets : (Nat → Int32)) (gr_firstStates : (Nat → Int32)) (gr_targetCounts : (Nat → Int32)) (gr_targets : (Nat → Int32)) (gr_stepScores : (Nat → Int32)) (gr_letterScores : (Nat → Int32)) (gr_size : Int32) (tx_letters : (Nat → Int32)) (tx_length : Int32) (va_scores : (Nat → Int32)) (va_knownEnds : Int32) (hi_begins : (Nat → Int32)) (hi_lengths : (Nat → Int32)) (hi_scores : (Nat → Int32)) (hi_taken : (Nat → Int32)) (hi_count : Int32) (de_states : (Nat → Int32)) (de_begins : (Nat → Int32)) (de_lengths : (Nat → Int32)) (de_length : Int32) (a1 : Int32) (a2 : Int32) (a3 : Int32) (n_tr_kinds : (Nat → Int32)) (n_tr_lefts : (Nat → Int32)) (n_tr_rights : (Nat → Int32)) (n_tr_seconds : (Nat → Int32)) (n_tr_size : Int32) (hf : f_Tr_growPart d co_partners tr_kinds tr_lefts tr_rights tr_seconds tr_size a1 a2 a3 = some (n_tr_kinds, n_tr_lefts, n_tr_rights, n_tr_seconds, n_tr_size)), Met l y_Tr_growPart (.code y_Tr_growPart prog_7_method_8_code 4 none :: gw) (rm_Tr_growPart d) (xPre ta (dC, dI) classes (tys3 ty) (wX ty ad co_rows co_marks co_rowSets co_partners co_open co_count tr_kinds tr_lefts tr_rights tr_seconds tr_size gr_kinds gr_nodes gr_rowSets gr_firstStates gr_targetCounts gr_targets gr_stepScores gr_letterScores gr_size tx_letters tx_length va_scores va_knownEnds hi_begins hi_lengths hi_scores hi_taken hi_count de_states de_begins de_lengths de_length) sz [.ref (ad 6), .int a1, .int a2, .int a3]) (xQv (dC, dI) classes (wX ty ad co_rows co_marks co_rowSets co_partners co_open co_count tr_kinds tr_lefts tr_rights tr_seconds tr_size gr_kinds gr_nodes gr_rowSets gr_firstStates gr_targetCounts gr_targets gr_stepScores gr_letterScores gr_size tx_letters tx_length va_scores va_knownEnds hi_begins hi_lengths hi_scores hi_taken hi_count de_states de_begins de_lengths de_length) (wX ty ad co_rows co_marks co_rowSets co_partners co_open co_count n_tr_kinds n_tr_lefts n_tr_rights n_tr_seconds n_tr_size gr_kinds gr_nodes gr_rowSets gr_firstStates gr_targetCounts gr_targets gr_stepScores gr_letterScores gr_size tx_letters tx_length va_scores va_knownEnds hi_begins hi_lengths hi_scores hi_taken hi_count de_states de_begins de_lengths de_length) sz) 0 0 (va_A (wX ty ad co_rows co_marks co_rowSets co_partners co_open co_count tr_kinds tr_lefts tr_rights tr_seconds tr_size gr_kinds gr_nodes gr_rowSets gr_firstStates gr_targetCounts gr_targets gr_stepScores gr_letterScores gr_size tx_letters tx_length va_scores va_knownEnds hi_begins hi_lengths hi_scores hi_taken hi_count de_states de_begins de_lengths de_length) sz)) (sz : Nat) (co_rows : Int32) (co_marks : (Nat → Int32)) (co_rowSets : (Nat → Int32)) (co_partners : (Nat → Int32)) (co_open : (Nat → Int32)) (co_count : Int32) (tr_kinds : (Nat → Int32)) (tr_lefts : (Nat → Int32)) (tr_rights : (Nat → Int32)) (tr_seconds : (Nat → Int32)) (tr_size : Int32) (gr_kinds : (Nat → Int32)) (gr_nodes : (Nat → Int32)) (gr_rowSets : (Nat → Int32)) (gr_firstStates : (Nat → Int32)) (gr_targetCounts : (Nat → Int32)) (gr_targets : (Nat → Int32)) (gr_stepScores : (Nat → Int32)) (gr_letterScores : (Nat → Int32)) (gr_size : Int32) (tx_letters : (Nat → Int32)) (tx_length : Int32) (va_scores : (Nat → Int32)) (va_knownEnds : Int32) (hi_begins : (Nat → Int32)) (hi_lengths : (Nat → Int32)) (hi_scores : (Nat → Int32)) (hi_taken : (Nat → Int32)) (hi_count : Int32) (de_states : (Nat → Int32)) (de_begins : (Nat → Int32)) (de_lengths : (Nat → Int32)) (de_length : Int32) (a1 : Int32) (a2 : Int32) (a3 : Int32) (n_tr_kinds : (Nat → Int32)) (n_tr_lefts : (Nat → Int32)) (n_tr_rights : (Nat → Int32)) (n_tr_seconds : (Nat → Int32)) (n_tr_size : Int32) (hf : f_Tr_growFork (f_Tr_growPart d) co_partners tr_kinds tr_lefts tr_rights tr_seconds tr_size a1 a2 a3 = some (n_tr_kinds, n_tr_lefts, n_tr_rights, n_tr_seconds, n_tr_size)) : Met l y_Tr_growFork (.code y_Tr_growFork prog_7_method_9_code 6 none :: gw) (rm_Tr_growFork d) (xPre ta (dC, dI) classes (tys3 ty) (wX ty ad co_rows co_marks co_rowSets co_partners co_open co_count tr_kinds tr_lefts tr_rights tr_seconds tr_size gr_kinds gr_nodes gr_rowSets gr_firstStates gr_targetCounts gr_targets gr_stepScores gr_letterScores gr_size tx_letters tx_length va_scores va_knownEnds hi_begins hi_lengths hi_scores hi_taken hi_count de_states de_begins de_lengths de_length) sz [.ref (ad 6), .int a1, .int a2, .int a3]) (xQv (dC, dI) classes (wX ty ad co_rows co_marks co_rowSets co_partners co_open co_count tr_kinds tr_lefts tr_rights tr_seconds tr_size gr_kinds gr_nodes gr_rowSets gr_firstStates gr_targetCounts gr_targets gr_stepScores gr_letterScores gr_size tx_letters tx_length va_scores va_knownEnds hi_begins hi_lengths hi_scores hi_taken hi_count de_states de_begins de_lengths de_length) (wX ty ad co_rows co_marks co_rowSets co_partners co_open co_count n_tr_kinds n_tr_lefts n_tr_rights n_tr_seconds n_tr_size gr_kinds gr_nodes gr_rowSets gr_firstStates gr_targetCounts gr_targets gr_stepScores gr_letterScores gr_size tx_letters tx_length va_scores va_knownEnds hi_begins hi_lengths hi_scores hi_taken hi_count de_states de_begins de_lengths de_length) sz) 0 0 (va_A (wX ty ad co_rows co_marks co_rowSets co_partners co_open co_count tr_kinds tr_lefts tr_rights tr_seconds tr_size gr_kinds gr_nodes gr_rowSets gr_firstStates gr_targetCounts gr_targets gr_stepScores gr_letterScores gr_size tx_letters tx_length va_scores va_knownEnds hi_begins hi_lengths hi_scores hi_taken hi_count de_states de_begins de_lengths de_length) sz) := by
  refine xmet_v rfl (Nat.le_of_ble_eq_true rfl) ?_
  intro p e s m below meth c A ls Q hx hb hml hts hown hK hN hA hP hD hS hl hret
  replace hown : s.vm.findClass R_Tr = some m.cls := hown
  have hl : lv_has ls 6 [(0, .ref (ad 6)), (1, .int a1), (2, .int a2), (3, .int a3)] := hl
  rw [f_Tr_growFork] at hf
  obtain ⟨H, eH⟩ : ∃ H : Heap, H = s.heap := ⟨_, rfl⟩
  obtain ⟨locs, eL⟩ : ∃ L : List Loc, L = [] := ⟨_, rfl⟩
  have hP : va_P (dC, dI) classes (wX ty ad co_rows co_marks co_rowSets co_partners co_open co_count tr_kinds tr_lefts tr_rights tr_seconds tr_size gr_kinds gr_nodes gr_rowSets gr_firstStates gr_targetCounts gr_targets gr_stepScores gr_letterScores gr_size tx_letters tx_length va_scores va_knownEnds hi_begins hi_lengths hi_scores hi_taken hi_count de_states de_begins de_lengths de_length) H := by rw [eH]; exact hP
  have hS : va_S A s.heap H locs := by rw [eH, eL]; exact hS
  rw [← eL]
  suffices hgoal : W p l e (rm_Tr_growFork d) s m (List.toArray [.ref (ad 6), .int a1, .int a2, .int a3]) below meth c H locs 0 0 Q (F0 m 0 ls []) by rw [eH] at hgoal; exact hgoal
  clear eH eL
  refine lv_aload_n hx hb d_Tr_growFork_0 rfl (lv_at hl 0 rfl) ?_
  refine va_get (D := (dC, dI)) (ci := 2) (v := .ref (ad 1)) (C := R_Tr) (T := F_Tr) (N := 6) hx hb hts iw_Tr hown hK hP 6 rfl rfl 0 (by decide) (hts _ m_107) (fun _ h9 => h9) rfl d_Tr_growFork_1 ?_
  refine lv_iload_n hx hb d_Tr_growFork_4 rfl (lv_at hl 1 rfl) ?_
  obtain ⟨r1, hc2, hf⟩ := ob1_inv hf
  refine xk_i (xrunV (C := R_Co) (As := [.int a1]) (rest := []) ⟨hx, hb, hml, hown, hts⟩ (c_Co_partner l dC dI ty ad ta H.size co_rows co_marks co_rowSets co_partners co_open co_count tr_kinds tr_lefts tr_rights tr_seconds tr_size gr_kinds gr_nodes gr_rowSets gr_firstStates gr_targetCounts gr_targets gr_stepScores gr_letterScores gr_size tx_letters tx_length va_scores va_knownEnds hi_begins hi_lengths hi_scores hi_taken hi_count de_states de_begins de_lengths de_length a1 r1 hc2) z_Tr_49 ⟨⟨rfl, rfl⟩, by simp only [rm_Co_partner, rm_Tr_growFork]; omega, by simp only [rm_Co_partner, rm_Tr_growFork]; omega⟩ hK hP hD hN hS hA (va_recv hK hP (ci := 1) (q0 := 1) rfl rfl) rfl hl.1 rfl (Nat.le_of_ble_eq_true rfl) d_Tr_growFork_5 ⟨Nat.zero_le _, Nat.zero_le _⟩) hS hD rfl hA (fun H locs hP hD hS => ?_)
  refine W.eq (g2 := F0 m 8 ls [.int r1]) rfl ?_
  refine lv_istore (lv' := [(4, .int r1), (0, .ref (ad 6)), (1, .int a1), (2, .int a2), (3, .int a3)]) hx hb d_Tr_growFork_8 hl (by decide) rfl (fun ls hl => ?_)
  refine lv_aload_n hx hb d_Tr_growFork_10 rfl (lv_at hl 1 rfl) ?_
  refine va_get (D := (dC, dI)) (ci := 2) (v := .int tr_size) (C := R_Tr) (T := F_Tr) (N := 6) hx hb hts iw_Tr hown hK hP 6 rfl rfl 5 (by decide) (hts _ m_112) (fun _ h9 => h9) rfl d_Tr_growFork_11 ?_
  refine lv_istore (lv' := [(5, .int tr_size), (4, .int r1), (0, .ref (ad 6)), (1, .int a1), (2, .int a2), (3, .int a3)]) hx hb d_Tr_growFork_14 hl (by decide) rfl (fun ls hl => ?_)
  refine lv_aload_n hx hb d_Tr_growFork_16 rfl (lv_at hl 2 rfl) ?_
  refine lv_iconst (v := 4) hx hb d_Tr_growFork_17 (by decide) ?_
  refine lv_iconst (v := -1) hx hb d_Tr_growFork_18 (by decide) ?_
  refine lv_iconst (v := -1) hx hb d_Tr_growFork_19 (by decide) ?_
  obtain ⟨w3, w4, w5, w6, hc7, hf⟩ := ob4_inv hf
  refine xk_v (xrunV (C := R_Tr) (As := [.int (4 : Int32), .int (-1 : Int32), .int (-1 : Int32)]) (rest := []) ⟨hx, hb, hml, hown, hts⟩ (c_Tr_add l dC dI ty ad ta H.size co_rows co_marks co_rowSets co_partners co_open co_count tr_kinds tr_lefts tr_rights tr_seconds tr_size gr_kinds gr_nodes gr_rowSets gr_firstStates gr_targetCounts gr_targets gr_stepScores gr_letterScores gr_size tx_letters tx_length va_scores va_knownEnds hi_begins hi_lengths hi_scores hi_taken hi_count de_states de_begins de_lengths de_length (4 : Int32) (-1 : Int32) (-1 : Int32) w3 w4 w5 w6 hc7) z_Tr_32 ⟨⟨rfl, rfl⟩, by simp only [rm_Tr_add, rm_Tr_growFork]; omega, by simp only [rm_Tr_add, rm_Tr_growFork]; omega⟩ hK hP hD hN hS hA (va_recv hK hP (ci := 2) (q0 := 6) rfl rfl) rfl hl.1 rfl (Nat.le_of_ble_eq_true rfl) d_Tr_growFork_20 ⟨Nat.zero_le _, Nat.zero_le _⟩) hS hD rfl hA (fun H locs hP hD hS => ?_)
  refine W.eq (g2 := F0 m 23 ls []) rfl ?_
  refine lv_aload_n hx hb d_Tr_growFork_23 rfl (lv_at hl 2 rfl) ?_
  refine lv_iconst (v := 5) hx hb d_Tr_growFork_24 (by decide) ?_
  refine lv_iconst (v := -1) hx hb d_Tr_growFork_25 (by decide) ?_
  refine lv_iconst (v := -1) hx hb d_Tr_growFork_26 (by decide) ?_
  obtain ⟨w8, w9, w10, w11, hc12, hf⟩ := ob4_inv hf
  refine xk_v (xrunV (C := R_Tr) (As := [.int (5 : Int32), .int (-1 : Int32), .int (-1 : Int32)]) (rest := []) ⟨hx, hb, hml, hown, hts⟩ (c_Tr_add l dC dI ty ad ta H.size co_rows co_marks co_rowSets co_partners co_open co_count w3 w4 w5 tr_seconds w6 gr_kinds gr_nodes gr_rowSets gr_firstStates gr_targetCounts gr_targets gr_stepScores gr_letterScores gr_size tx_letters tx_length va_scores va_knownEnds hi_begins hi_lengths hi_scores hi_taken hi_count de_states de_begins de_lengths de_length (5 : Int32) (-1 : Int32) (-1 : Int32) w8 w9 w10 w11 hc12) z_Tr_32 ⟨⟨rfl, rfl⟩, by simp only [rm_Tr_add, rm_Tr_growFork]; omega, by simp only [rm_Tr_add, rm_Tr_growFork]; omega⟩ hK hP hD hN hS hA (va_recv hK hP (ci := 2) (q0 := 6) rfl rfl) rfl hl.1 rfl (Nat.le_of_ble_eq_true rfl) d_Tr_growFork_27 ⟨Nat.zero_le _, Nat.zero_le _⟩) hS hD rfl hA (fun H locs hP hD hS => ?_)
  refine W.eq (g2 := F0 m 30 ls []) rfl ?_
  refine lv_aload_n hx hb d_Tr_growFork_30 rfl (lv_at hl 2 rfl) ?_
  refine lv_iload_n hx hb d_Tr_growFork_31 rfl (lv_at hl 3 rfl) ?_
  refine lv_iload hx hb d_Tr_growFork_32 (lv_at hl 1 rfl) ?_
  refine lv_iload_n hx hb d_Tr_growFork_34 rfl (lv_at hl 5 rfl) ?_
  refine lv_iconst (v := 1) hx hb d_Tr_growFork_35 (by decide) ?_
  refine lv_iadd hx hb d_Tr_growFork_36 ?_
  obtain ⟨w13, w14, w15, w16, w17, hc18, hf⟩ := ob5_inv hf
  refine xk_v (xrunV (C := R_Tr) (As := [.int a1, .int r1, .int (a3 + (1 : Int32))]) (rest := []) ⟨hx, hb, hml, hown, hts⟩ (hrec H.size co_rows co_marks co_rowSets co_partners co_open co_count w8 w9 w10 tr_seconds w11 gr_kinds gr_nodes gr_rowSets gr_firstStates gr_targetCounts gr_targets gr_stepScores gr_letterScores gr_size tx_letters tx_length va_scores va_knownEnds hi_begins hi_lengths hi_scores hi_taken hi_count de_states de_begins de_lengths de_length a1 r1 (a3 + (1 : Int32)) w13 w14 w15 w16 w17 hc18) z_Tr_42 ⟨⟨rfl, rfl⟩, by simp only [rm_Tr_growFork, rm_Tr_growPart]; omega, by simp only [rm_Tr_growFork, rm_Tr_growPart]; omega⟩ hK hP hD hN hS hA (va_recv hK hP (ci := 2) (q0 := 6) rfl rfl) rfl hl.1 rfl (Nat.le_of_ble_eq_true rfl) d_Tr_growFork_37 ⟨Nat.zero_le _, Nat.zero_le _⟩) hS hD rfl hA (fun H locs hP hD hS => ?_)
  refine W.eq (g2 := F0 m 40 ls []) rfl ?_
  refine lv_aload_n hx hb d_Tr_growFork_40 rfl (lv_at hl 2 rfl) ?_
  refine va_get (D := (dC, dI)) (ci := 2) (v := .ref (ad 10)) (C := R_Tr) (T := F_Tr) (N := 6) hx hb hts iw_Tr hown hK hP 6 rfl rfl 4 (by decide) (hts _ m_111) (fun _ h9 => h9) rfl d_Tr_growFork_41 ?_
  refine lv_iload hx hb d_Tr_growFork_44 (lv_at hl 0 rfl) ?_
  refine lv_aload_n hx hb d_Tr_growFork_46 rfl (lv_at hl 2 rfl) ?_
  refine va_get (D := (dC, dI)) (ci := 2) (v := .int w17) (C := R_Tr) (T := F_Tr) (N := 6) hx hb hts iw_Tr hown hK hP 6 rfl rfl 5 (by decide) (hts _ m_112) (fun _ h9 => h9) rfl d_Tr_growFork_47 ?_
  obtain ⟨hi19, hf⟩ := gdi hf
  refine va_iast hx hb hK hP hD hS 10 0 rfl rfl hi19 d_Tr_growFork_50 (fun H locs hP hD hS => ?_)
  have hP : va_P (dC, dI) classes (wX ty ad co_rows co_marks co_rowSets co_partners co_open co_count w13 w14 w15 (upd w16 (Int32.toNatClampNeg tr_size) w17) w17 gr_kinds gr_nodes gr_rowSets gr_firstStates gr_targetCounts gr_targets gr_stepScores gr_letterScores gr_size tx_letters tx_length va_scores va_knownEnds hi_begins hi_lengths hi_scores hi_taken hi_count de_states de_begins de_lengths de_length) H := hP
  have hD : va_D A (wX ty ad co_rows co_marks co_rowSets co_partners co_open co_count w13 w14 w15 (upd w16 (Int32.toNatClampNeg tr_size) w17) w17 gr_kinds gr_nodes gr_rowSets gr_firstStates gr_targetCounts gr_targets gr_stepScores gr_letterScores gr_size tx_letters tx_length va_scores va_knownEnds hi_begins hi_lengths hi_scores hi_taken hi_count de_states de_begins de_lengths de_length) := hD
  refine lv_aload_n hx hb d_Tr_growFork_51 rfl (lv_at hl 2 rfl) ?_
  refine lv_bipush (v := 6) hx hb d_Tr_growFork_52 (by decide) ?_
  refine lv_iconst (v := -1) hx hb d_Tr_growFork_54 (by decide) ?_
  refine lv_iconst (v := -1) hx hb d_Tr_growFork_55 (by decide) ?_
  obtain ⟨w20, w21, w22, w23, hc24, hf⟩ := ob4_inv hf
  refine xk_v (xrunV (C := R_Tr) (As := [.int (6 : Int32), .int (-1 : Int32), .int (-1 : Int32)]) (rest := []) ⟨hx, hb, hml, hown, hts⟩ (c_Tr_add l dC dI ty ad ta H.size co_rows co_marks co_rowSets co_partners co_open co_count w13 w14 w15 (upd w16 (Int32.toNatClampNeg tr_size) w17) w17 gr_kinds gr_nodes gr_rowSets gr_firstStates gr_targetCounts gr_targets gr_stepScores gr_letterScores gr_size tx_letters tx_length va_scores va_knownEnds hi_begins hi_lengths hi_scores hi_taken hi_count de_states de_begins de_lengths de_length (6 : Int32) (-1 : Int32) (-1 : Int32) w20 w21 w22 w23 hc24) z_Tr_32 ⟨⟨rfl, rfl⟩, by simp only [rm_Tr_add, rm_Tr_growFork]; omega, by simp only [rm_Tr_add, rm_Tr_growFork]; omega⟩ hK hP hD hN hS hA (va_recv hK hP (ci := 2) (q0 := 6) rfl rfl) rfl hl.1 rfl (Nat.le_of_ble_eq_true rfl) d_Tr_growFork_56 ⟨Nat.zero_le _, Nat.zero_le _⟩) hS hD rfl hA (fun H locs hP hD hS => ?_)
  refine W.eq (g2 := F0 m 59 ls []) rfl ?_
  refine lv_aload_n hx hb d_Tr_growFork_59 rfl (lv_at hl 2 rfl) ?_
  refine lv_iload hx hb d_Tr_growFork_60 (lv_at hl 1 rfl) ?_
  refine lv_iconst (v := 1) hx hb d_Tr_growFork_62 (by decide) ?_
  refine lv_iadd hx hb d_Tr_growFork_63 ?_
  refine lv_iload_n hx hb d_Tr_growFork_64 rfl (lv_at hl 4 rfl) ?_
  refine lv_iload_n hx hb d_Tr_growFork_65 rfl (lv_at hl 5 rfl) ?_
  refine lv_iconst (v := 1) hx hb d_Tr_growFork_66 (by decide) ?_
  refine lv_iadd hx hb d_Tr_growFork_67 ?_
  obtain ⟨w25, w26, w27, w28, w29, hc30, hf⟩ := ob5_inv hf
  refine xk_v (xrunV (C := R_Tr) (As := [.int (r1 + (1 : Int32)), .int a2, .int (a3 + (1 : Int32))]) (rest := []) ⟨hx, hb, hml, hown, hts⟩ (hrec H.size co_rows co_marks co_rowSets co_partners co_open co_count w20 w21 w22 (upd w16 (Int32.toNatClampNeg tr_size) w17) w23 gr_kinds gr_nodes gr_rowSets gr_firstStates gr_targetCounts gr_targets gr_stepScores gr_letterScores gr_size tx_letters tx_length va_scores va_knownEnds hi_begins hi_lengths hi_scores hi_taken hi_count de_states de_begins de_lengths de_length (r1 + (1 : Int32)) a2 (a3 + (1 : Int32)) w25 w26 w27 w28 w29 hc30) z_Tr_42 ⟨⟨rfl, rfl⟩, by simp only [rm_Tr_growFork, rm_Tr_growPart]; omega, by simp only [rm_Tr_growFork, rm_Tr_growPart]; omega⟩ hK hP hD hN hS hA (va_recv hK hP (ci := 2) (q0 := 6) rfl rfl) rfl hl.1 rfl (Nat.le_of_ble_eq_true rfl) d_Tr_growFork_68 ⟨Nat.zero_le _, Nat.zero_le _⟩) hS hD rfl hA (fun H locs hP hD hS => ?_)
  refine W.eq (g2 := F0 m 71 ls []) rfl ?_
  obtain ⟨rfl, rfl, rfl, rfl, rfl⟩ := os5 hf
  exact hret H locs _ _ d_Tr_growFork_71 hP hS
set_option maxHeartbeats 4000000 in
set_option maxRecDepth 100000 in
theorem c_Tr_growPart (l : Launch) (dC : Nat → ClassId) (dI : Nat → Nat → Nat) (ty : Nat → ClassId) (ad : Nat → Nat) (ta : Nat → Nat) : ∀ (d : Nat) (sz : Nat) (co_rows : Int32) (co_marks : (Nat → Int32)) (co_rowSets : (Nat → Int32)) (co_partners : (Nat → Int32)) (co_open : (Nat → Int32)) (co_count : Int32) (tr_kinds : (Nat → Int32)) (tr_lefts : (Nat → Int32)) (tr_rights : (Nat → Int32)) (tr_seconds : (Nat → Int32)) (tr_size : Int32) (gr_kinds : (Nat → Int32)) (gr_nodes : (Nat → Int32)) (gr_rowSets : (Nat → Int32)) (gr_firstStates : (Nat → Int32)) (gr_targetCounts : (Nat → Int32)) (gr_targets : (Nat → Int32)) (gr_stepScores : (Nat → Int32)) (gr_letterScores : (Nat → Int32)) (gr_size : Int32) (tx_letters : (Nat → Int32)) (tx_length : Int32) (va_scores : (Nat → Int32)) (va_knownEnds : Int32) (hi_begins : (Nat → Int32)) (hi_lengths : (Nat → Int32)) (hi_scores : (Nat → Int32)) (hi_taken : (Nat → Int32)) (hi_count : Int32) (de_states : (Nat → Int32)) (de_begins : (Nat → Int32)) (de_lengths : (Nat → Int32)) (de_length : Int32) (a1 : Int32) (a2 : Int32) (a3 : Int32) (n_tr_kinds : (Nat → Int32)) (n_tr_lefts : (Nat → Int32)) (n_tr_rights : (Nat → Int32)) (n_tr_seconds : (Nat → Int32)) (n_tr_size : Int32) (hf : f_Tr_growPart d co_partners tr_kinds tr_lefts tr_rights tr_seconds tr_size a1 a2 a3 = some (n_tr_kinds, n_tr_lefts, n_tr_rights, n_tr_seconds, n_tr_size)), Met l y_Tr_growPart (.code y_Tr_growPart prog_7_method_8_code 4 none :: gw) (rm_Tr_growPart d) (xPre ta (dC, dI) classes (tys3 ty) (wX ty ad co_rows co_marks co_rowSets co_partners co_open co_count tr_kinds tr_lefts tr_rights tr_seconds tr_size gr_kinds gr_nodes gr_rowSets gr_firstStates gr_targetCounts gr_targets gr_stepScores gr_letterScores gr_size tx_letters tx_length va_scores va_knownEnds hi_begins hi_lengths hi_scores hi_taken hi_count de_states de_begins de_lengths de_length) sz [.ref (ad 6), .int a1, .int a2, .int a3]) (xQv (dC, dI) classes (wX ty ad co_rows co_marks co_rowSets co_partners co_open co_count tr_kinds tr_lefts tr_rights tr_seconds tr_size gr_kinds gr_nodes gr_rowSets gr_firstStates gr_targetCounts gr_targets gr_stepScores gr_letterScores gr_size tx_letters tx_length va_scores va_knownEnds hi_begins hi_lengths hi_scores hi_taken hi_count de_states de_begins de_lengths de_length) (wX ty ad co_rows co_marks co_rowSets co_partners co_open co_count n_tr_kinds n_tr_lefts n_tr_rights n_tr_seconds n_tr_size gr_kinds gr_nodes gr_rowSets gr_firstStates gr_targetCounts gr_targets gr_stepScores gr_letterScores gr_size tx_letters tx_length va_scores va_knownEnds hi_begins hi_lengths hi_scores hi_taken hi_count de_states de_begins de_lengths de_length) sz) 0 0 (va_A (wX ty ad co_rows co_marks co_rowSets co_partners co_open co_count tr_kinds tr_lefts tr_rights tr_seconds tr_size gr_kinds gr_nodes gr_rowSets gr_firstStates gr_targetCounts gr_targets gr_stepScores gr_letterScores gr_size tx_letters tx_length va_scores va_knownEnds hi_begins hi_lengths hi_scores hi_taken hi_count de_states de_begins de_lengths de_length) sz) := by
  intro d
  induction d with
  | zero =>
    intro sz co_rows co_marks co_rowSets co_partners co_open co_count tr_kinds tr_lefts tr_rights tr_seconds tr_size gr_kinds gr_nodes gr_rowSets gr_firstStates gr_targetCounts gr_targets gr_stepScores gr_letterScores gr_size tx_letters tx_length va_scores va_knownEnds hi_begins hi_lengths hi_scores hi_taken hi_count de_states de_begins de_lengths de_length a1 a2 a3 n_tr_kinds n_tr_lefts n_tr_rights n_tr_seconds n_tr_size hf
    rw [f_Tr_growPart] at hf
    cases hf
  | succ d hrec =>
    intro sz co_rows co_marks co_rowSets co_partners co_open co_count tr_kinds tr_lefts tr_rights tr_seconds tr_size gr_kinds gr_nodes gr_rowSets gr_firstStates gr_targetCounts gr_targets gr_stepScores gr_letterScores gr_size tx_letters tx_length va_scores va_knownEnds hi_begins hi_lengths hi_scores hi_taken hi_count de_states de_begins de_lengths de_length a1 a2 a3 n_tr_kinds n_tr_lefts n_tr_rights n_tr_seconds n_tr_size hf
    refine xmet_v rfl (Nat.le_of_ble_eq_true rfl) ?_
    intro p e s m below meth c A ls Q hx hb hml hts hown hK hN hA hP hD hS hl hret
    replace hown : s.vm.findClass R_Tr = some m.cls := hown
    have hl : lv_has ls 4 [(0, .ref (ad 6)), (1, .int a1), (2, .int a2), (3, .int a3)] := hl
    rw [f_Tr_growPart] at hf
    obtain ⟨H, eH⟩ : ∃ H : Heap, H = s.heap := ⟨_, rfl⟩
    obtain ⟨locs, eL⟩ : ∃ L : List Loc, L = [] := ⟨_, rfl⟩
    have hP : va_P (dC, dI) classes (wX ty ad co_rows co_marks co_rowSets co_partners co_open co_count tr_kinds tr_lefts tr_rights tr_seconds tr_size gr_kinds gr_nodes gr_rowSets gr_firstStates gr_targetCounts gr_targets gr_stepScores gr_letterScores gr_size tx_letters tx_length va_scores va_knownEnds hi_begins hi_lengths hi_scores hi_taken hi_count de_states de_begins de_lengths de_length) H := by rw [eH]; exact hP
    have hS : va_S A s.heap H locs := by rw [eH, eL]; exact hS
    rw [← eL]
    suffices hgoal : W p l e (rm_Tr_growPart (d + 1)) s m (List.toArray [.ref (ad 6), .int a1, .int a2, .int a3]) below meth c H locs 0 0 Q (F0 m 0 ls []) by rw [eH] at hgoal; exact hgoal
    clear eH eL
    refine lv_iload_n hx hb d_Tr_growPart_0 rfl (lv_at hl 3 rfl) ?_
    refine lv_bipush (v := 8) hx hb d_Tr_growPart_1 (by decide) ?_
    refine lv_icmp_le (tgt := 7) hx hb d_Tr_growPart_3 (by decide) (fun c1 => ?_) (fun c1 => ?_)
    · have hf := xif_t c1 hf
      refine lv_iload_n hx hb d_Tr_growPart_7 rfl (lv_at hl 1 rfl) ?_
      refine lv_iload_n hx hb d_Tr_growPart_8 rfl (lv_at hl 2 rfl) ?_
      refine lv_icmp_le (tgt := 23) hx hb d_Tr_growPart_9 (by decide) (fun c2 => ?_) (fun c2 => ?_)
      · have hf := xif_t c2 hf
        refine lv_aload_n hx hb d_Tr_growPart_23 rfl (lv_at hl 0 rfl) ?_
        refine va_get (D := (dC, dI)) (ci := 2) (v := .ref (ad 1)) (C := R_Tr) (T := F_Tr) (N := 6) hx hb hts iw_Tr hown hK hP 6 rfl rfl 0 (by decide) (hts _ m_107) (fun _ h9 => h9) rfl d_Tr_growPart_24 ?_
        refine lv_iload_n hx hb d_Tr_growPart_27 rfl (lv_at hl 1 rfl) ?_
        obtain ⟨r3, hc4, hf⟩ := ob1_inv hf
        refine xk_i (xrunV (C := R_Co) (As := [.int a1]) (rest := []) ⟨hx, hb, hml, hown, hts⟩ (c_Co_isPaired l dC dI ty ad ta H.size co_rows co_marks co_rowSets co_partners co_open co_count tr_kinds tr_lefts tr_rights tr_seconds tr_size gr_kinds gr_nodes gr_rowSets gr_firstStates gr_targetCounts gr_targets gr_stepScores gr_letterScores gr_size tx_letters tx_length va_scores va_knownEnds hi_begins hi_lengths hi_scores hi_taken hi_count de_states de_begins de_lengths de_length a1 r3 hc4) z_Tr_45 ⟨⟨rfl, rfl⟩, by simp only [rm_Co_isPaired, rm_Tr_growPart]; omega, by simp only [rm_Co_isPaired, rm_Tr_growPart]; omega⟩ hK hP hD hN hS hA (va_recv hK hP (ci := 1) (q0 := 1) rfl rfl) rfl hl.1 rfl (Nat.le_of_ble_eq_true rfl) d_Tr_growPart_28 ⟨Nat.zero_le _, Nat.zero_le _⟩) hS hD rfl hA (fun H locs hP hD hS => ?_)
        refine W.eq (g2 := F0 m 31 ls [.int r3]) rfl ?_
        refine lv_if_ne (tgt := 55) hx hb d_Tr_growPart_31 (by decide) (fun c5 => ?_) (fun c5 => ?_)
        · have hf := xif_f c5 hf
          refine lv_aload_n hx hb d_Tr_growPart_55 rfl (lv_at hl 0 rfl) ?_
          refine va_get (D := (dC, dI)) (ci := 2) (v := .ref (ad 1)) (C := R_Tr) (T := F_Tr) (N := 6) hx hb hts iw_Tr hown hK hP 6 rfl rfl 0 (by decide) (hts _ m_107) (fun _ h9 => h9) rfl d_Tr_growPart_56 ?_
          refine lv_iload_n hx hb d_Tr_growPart_59 rfl (lv_at hl 2 rfl) ?_
          obtain ⟨r6, hc7, hf⟩ := ob1_inv hf
          refine xk_i (xrunV (C := R_Co) (As := [.int a2]) (rest := []) ⟨hx, hb, hml, hown, hts⟩ (c_Co_isPaired l dC dI ty ad ta H.size co_rows co_marks co_rowSets co_partners co_open co_count tr_kinds tr_lefts tr_rights tr_seconds tr_size gr_kinds gr_nodes gr_rowSets gr_firstStates gr_targetCounts gr_targets gr_stepScores gr_letterScores gr_size tx_letters tx_length va_scores va_knownEnds hi_begins hi_lengths hi_scores hi_taken hi_count de_states de_begins de_lengths de_length a2 r6 hc7) z_Tr_45 ⟨⟨rfl, rfl⟩, by simp only [rm_Co_isPaired, rm_Tr_growPart]; omega, by simp only [rm_Co_isPaired, rm_Tr_growPart]; omega⟩ hK hP hD hN hS hA (va_recv hK hP (ci := 1) (q0 := 1) rfl rfl) rfl hl.1 rfl (Nat.le_of_ble_eq_true rfl) d_Tr_growPart_60 ⟨Nat.zero_le _, Nat.zero_le _⟩) hS hD rfl hA (fun H locs hP hD hS => ?_)
          refine W.eq (g2 := F0 m 63 ls [.int r6]) rfl ?_
          refine lv_if_ne (tgt := 87) hx hb d_Tr_growPart_63 (by decide) (fun c8 => ?_) (fun c8 => ?_)
          · have hf := xif_f c8 hf
            refine lv_aload_n hx hb d_Tr_growPart_87 rfl (lv_at hl 0 rfl) ?_
            refine va_get (D := (dC, dI)) (ci := 2) (v := .ref (ad 1)) (C := R_Tr) (T := F_Tr) (N := 6) hx hb hts iw_Tr hown hK hP 6 rfl rfl 0 (by decide) (hts _ m_107) (fun _ h9 => h9) rfl d_Tr_growPart_88 ?_
            refine lv_iload_n hx hb d_Tr_growPart_91 rfl (lv_at hl 1 rfl) ?_
            obtain ⟨r9, hc10, hf⟩ := ob1_inv hf
            refine xk_i (xrunV (C := R_Co) (As := [.int a1]) (rest := []) ⟨hx, hb, hml, hown, hts⟩ (c_Co_partner l dC dI ty ad ta H.size co_rows co_marks co_rowSets co_partners co_open co_count tr_kinds tr_lefts tr_rights tr_seconds tr_size gr_kinds gr_nodes gr_rowSets gr_firstStates gr_targetCounts gr_targets gr_stepScores gr_letterScores gr_size tx_letters tx_length va_scores va_knownEnds hi_begins hi_lengths hi_scores hi_taken hi_count de_states de_begins de_lengths de_length a1 r9 hc10) z_Tr_49 ⟨⟨rfl, rfl⟩, by simp only [rm_Co_partner, rm_Tr_growPart]; omega, by simp only [rm_Co_partner, rm_Tr_growPart]; omega⟩ hK hP hD hN hS hA (va_recv hK hP (ci := 1) (q0 := 1) rfl rfl) rfl hl.1 rfl (Nat.le_of_ble_eq_true rfl) d_Tr_growPart_92 ⟨Nat.zero_le _, Nat.zero_le _⟩) hS hD rfl hA (fun H locs hP hD hS => ?_)
            refine W.eq (g2 := F0 m 95 ls [.int r9]) rfl ?_
            refine lv_iload_n hx hb d_Tr_growPart_95 rfl (lv_at hl 2 rfl) ?_
            refine lv_icmp_ne (tgt := 122) hx hb d_Tr_growPart_96 (by decide) (fun c11 => ?_) (fun c11 => ?_)
            · have hf := xif_f c11 hf
              refine lv_aload_n hx hb d_Tr_growPart_122 rfl (lv_at hl 0 rfl) ?_
              refine lv_iload_n hx hb d_Tr_growPart_123 rfl (lv_at hl 1 rfl) ?_
              refine lv_iload_n hx hb d_Tr_growPart_124 rfl (lv_at hl 2 rfl) ?_
              refine lv_iload_n hx hb d_Tr_growPart_125 rfl (lv_at hl 3 rfl) ?_
              obtain ⟨w12, w13, w14, w15, w16, hc17, hf⟩ := ob5_inv hf
              refine xk_v (xrunV (C := R_Tr) (As := [.int a1, .int a2, .int a3]) (rest := []) ⟨hx, hb, hml, hown, hts⟩ (c_Tr_growFork l dC dI ty ad ta d hrec H.size co_rows co_marks co_rowSets co_partners co_open co_count tr_kinds tr_lefts tr_rights tr_seconds tr_size gr_kinds gr_nodes gr_rowSets gr_firstStates gr_targetCounts gr_targets gr_stepScores gr_letterScores gr_size tx_letters tx_length va_scores va_knownEnds hi_begins hi_lengths hi_scores hi_taken hi_count de_states de_begins de_lengths de_length a1 a2 a3 w12 w13 w14 w15 w16 hc17) z_Tr_53 ⟨⟨rfl, rfl⟩, by simp only [rm_Tr_growFork, rm_Tr_growPart]; omega, by simp only [rm_Tr_growFork, rm_Tr_growPart]; omega⟩ hK hP hD hN hS hA (va_recv hK hP (ci := 2) (q0 := 6) rfl rfl) rfl hl.1 rfl (Nat.le_of_ble_eq_true rfl) d_Tr_growPart_126 ⟨Nat.zero_le _, Nat.zero_le _⟩) hS hD rfl hA (fun H locs hP hD hS => ?_)
              refine W.eq (g2 := F0 m 129 ls []) rfl ?_
              obtain ⟨rfl, rfl, rfl, rfl, rfl⟩ := os5 hf
              exact hret H locs _ _ d_Tr_growPart_129 hP hS
            · have hf := xif_t c11 hf
              refine lv_aload_n hx hb d_Tr_growPart_99 rfl (lv_at hl 0 rfl) ?_
              refine lv_iconst (v := 3) hx hb d_Tr_growPart_100 (by decide) ?_
              refine lv_iload_n hx hb d_Tr_growPart_101 rfl (lv_at hl 1 rfl) ?_
              refine lv_iload_n hx hb d_Tr_growPart_102 rfl (lv_at hl 2 rfl) ?_
              obtain ⟨w18, w19, w20, w21, hc22, hf⟩ := ob4_inv hf
              refine xk_v (xrunV (C := R_Tr) (As := [.int (3 : Int32), .int a1, .int a2]) (rest := []) ⟨hx, hb, hml, hown, hts⟩ (c_Tr_add l dC dI ty ad ta H.size co_rows co_marks co_rowSets co_partners co_open co_count tr_kinds tr_lefts tr_rights tr_seconds tr_size gr_kinds gr_nodes gr_rowSets gr_firstStates gr_targetCounts gr_targets gr_stepScores gr_letterScores gr_size tx_letters tx_length va_scores va_knownEnds hi_begins hi_lengths hi_scores hi_taken hi_count de_states de_begins de_lengths de_length (3 : Int32) a1 a2 w18 w19 w20 w21 hc22) z_Tr_32 ⟨⟨rfl, rfl⟩, by simp only [rm_Tr_add, rm_Tr_growPart]; omega, by simp only [rm_Tr_add, rm_Tr_growPart]; omega⟩ hK hP hD hN hS hA (va_recv hK hP (ci := 2) (q0 := 6) rfl rfl) rfl hl.1 rfl (Nat.le_of_ble_eq_true rfl) d_Tr_growPart_103 ⟨Nat.zero_le _, Nat.zero_le _⟩) hS hD rfl hA (fun H locs hP hD hS => ?_)
              refine W.eq (g2 := F0 m 106 ls []) rfl ?_
              refine lv_aload_n hx hb d_Tr_growPart_106 rfl (lv_at hl 0 rfl) ?_
              refine lv_iload_n hx hb d_Tr_growPart_107 rfl (lv_at hl 1 rfl) ?_
              refine lv_iconst (v := 1) hx hb d_Tr_growPart_108 (by decide) ?_
              refine lv_iadd hx hb d_Tr_growPart_109 ?_
              refine lv_iload_n hx hb d_Tr_growPart_110 rfl (lv_at hl 2 rfl) ?_
              refine lv_iconst (v := 1) hx hb d_Tr_growPart_111 (by decide) ?_
              refine lv_isub hx hb d_Tr_growPart_112 ?_
              refine lv_iload_n hx hb d_Tr_growPart_113 rfl (lv_at hl 3 rfl) ?_
              refine lv_iconst (v := 1) hx hb d_Tr_growPart_114 (by decide) ?_
              refine lv_iadd hx hb d_Tr_growPart_115 ?_
              obtain ⟨w23, w24, w25, w26, w27, hc28, hf⟩ := ob5_inv hf
              refine xk_v (xrunV (C := R_Tr) (As := [.int (a1 + (1 : Int32)), .int (a2 - (1 : Int32)), .int (a3 + (1 : Int32))]) (rest := []) ⟨hx, hb, hml, hown, hts⟩ (hrec H.size co_rows co_marks co_rowSets co_partners co_open co_count w18 w19 w20 tr_seconds w21 gr_kinds gr_nodes gr_rowSets gr_firstStates gr_targetCounts gr_targets gr_stepScores gr_letterScores gr_size tx_letters tx_length va_scores va_knownEnds hi_begins hi_lengths hi_scores hi_taken hi_count de_states de_begins de_lengths de_length (a1 + (1 : Int32)) (a2 - (1 : Int32)) (a3 + (1 : Int32)) w23 w24 w25 w26 w27 hc28) z_Tr_42 ⟨⟨rfl, rfl⟩, by simp only [rm_Tr_growPart]; omega, by simp only [rm_Tr_growPart]; omega⟩ hK hP hD hN hS hA (va_recv hK hP (ci := 2) (q0 := 6) rfl rfl) rfl hl.1 rfl (Nat.le_of_ble_eq_true rfl) d_Tr_growPart_116 ⟨Nat.zero_le _, Nat.zero_le _⟩) hS hD rfl hA (fun H locs hP hD hS => ?_)
              refine W.eq (g2 := F0 m 119 ls []) rfl ?_
              refine lv_goto (tgt := 129) hx hb d_Tr_growPart_119 (by decide) ?_
              obtain ⟨rfl, rfl, rfl, rfl, rfl⟩ := os5 hf
              exact hret H locs _ _ d_Tr_growPart_129 hP hS
          · have hf := xif_t c8 hf
            refine lv_aload_n hx hb d_Tr_growPart_66 rfl (lv_at hl 0 rfl) ?_
            refine lv_iconst (v := 2) hx hb d_Tr_growPart_67 (by decide) ?_
            refine lv_iconst (v := -1) hx hb d_Tr_growPart_68 (by decide) ?_
            refine lv_iload_n hx hb d_Tr_growPart_69 rfl (lv_at hl 2 rfl) ?_
            obtain ⟨w29, w30, w31, w32, hc33, hf⟩ := ob4_inv hf
            refine xk_v (xrunV (C := R_Tr) (As := [.int (2 : Int32), .int (-1 : Int32), .int a2]) (rest := []) ⟨hx, hb, hml, hown, hts⟩ (c_Tr_add l dC dI ty ad ta H.size co_rows co_marks co_rowSets co_partners co_open co_count tr_kinds tr_lefts tr_rights tr_seconds tr_size gr_kinds gr_nodes gr_rowSets gr_firstStates gr_targetCounts gr_targets gr_stepScores gr_letterScores gr_size tx_letters tx_length va_scores va_knownEnds hi_begins hi_lengths hi_scores hi_taken hi_count de_states de_begins de_lengths de_length (2 : Int32) (-1 : Int32) a2 w29 w30 w31 w32 hc33) z_Tr_32 ⟨⟨rfl, rfl⟩, by simp only [rm_Tr_add, rm_Tr_growPart]; omega, by simp only [rm_Tr_add, rm_Tr_growPart]; omega⟩ hK hP hD hN hS hA (va_recv hK hP (ci := 2) (q0 := 6) rfl rfl) rfl hl.1 rfl (Nat.le_of_ble_eq_true rfl) d_Tr_growPart_70 ⟨Nat.zero_le _, Nat.zero_le _⟩) hS hD rfl hA (fun H locs hP hD hS => ?_)
            refine W.eq (g2 := F0 m 73 ls []) rfl ?_
            refine lv_aload_n hx hb d_Tr_growPart_73 rfl (lv_at hl 0 rfl) ?_
            refine lv_iload_n hx hb d_Tr_growPart_74 rfl (lv_at hl 1 rfl) ?_
            refine lv_iload_n hx hb d_Tr_growPart_75 rfl (lv_at hl 2 rfl) ?_
            refine lv_iconst (v := 1) hx hb d_Tr_growPart_76 (by decide) ?_
            refine lv_isub hx hb d_Tr_growPart_77 ?_
            refine lv_iload_n hx hb d_Tr_growPart_78 rfl (lv_at hl 3 rfl) ?_
            refine lv_iconst (v := 1) hx hb d_Tr_growPart_79 (by decide) ?_
            refine lv_iadd hx hb d_Tr_growPart_80 ?_
            obtain ⟨w34, w35, w36, w37, w38, hc39, hf⟩ := ob5_inv hf
            refine xk_v (xrunV (C := R_Tr) (As := [.int a1, .int (a2 - (1 : Int32)), .int (a3 + (1 : Int32))]) (rest := []) ⟨hx, hb, hml, hown, hts⟩ (hrec H.size co_rows co_marks co_rowSets co_partners co_open co_count w29 w30 w31 tr_seconds w32 gr_kinds gr_nodes gr_rowSets gr_firstStates gr_targetCounts gr_targets gr_stepScores gr_letterScores gr_size tx_letters tx_length va_scores va_knownEnds hi_begins hi_lengths hi_scores hi_taken hi_count de_states de_begins de_lengths de_length a1 (a2 - (1 : Int32)) (a3 + (1 : Int32)) w34 w35 w36 w37 w38 hc39) z_Tr_42 ⟨⟨rfl, rfl⟩, by simp only [rm_Tr_growPart]; omega, by simp only [rm_Tr_growPart]; omega⟩ hK hP hD hN hS hA (va_recv hK hP (ci := 2) (q0 := 6) rfl rfl) rfl hl.1 rfl (Nat.le_of_ble_eq_true rfl) d_Tr_growPart_81 ⟨Nat.zero_le _, Nat.zero_le _⟩) hS hD rfl hA (fun H locs hP hD hS => ?_)
            refine W.eq (g2 := F0 m 84 ls []) rfl ?_
            refine lv_goto (tgt := 129) hx hb d_Tr_growPart_84 (by decide) ?_
            obtain ⟨rfl, rfl, rfl, rfl, rfl⟩ := os5 hf
            exact hret H locs _ _ d_Tr_growPart_129 hP hS
        · have hf := xif_t c5 hf
          refine lv_aload_n hx hb d_Tr_growPart_34 rfl (lv_at hl 0 rfl) ?_
          refine lv_iconst (v := 1) hx hb d_Tr_growPart_35 (by decide) ?_
          refine lv_iload_n hx hb d_Tr_growPart_36 rfl (lv_at hl 1 rfl) ?_
          refine lv_iconst (v := -1) hx hb d_Tr_growPart_37 (by decide) ?_
          obtain ⟨w40, w41, w42, w43, hc44, hf⟩ := ob4_inv hf
          refine xk_v (xrunV (C := R_Tr) (As := [.int (1 : Int32), .int a1, .int (-1 : Int32)]) (rest := []) ⟨hx, hb, hml, hown, hts⟩ (c_Tr_add l dC dI ty ad ta H.size co_rows co_marks co_rowSets co_partners co_open co_count tr_kinds tr_lefts tr_rights tr_seconds tr_size gr_kinds gr_nodes gr_rowSets gr_firstStates gr_targetCounts gr_targets gr_stepScores gr_letterScores gr_size tx_letters tx_length va_scores va_knownEnds hi_begins hi_lengths hi_scores hi_taken hi_count de_states de_begins de_lengths de_length (1 : Int32) a1 (-1 : Int32) w40 w41 w42 w43 hc44) z_Tr_32 ⟨⟨rfl, rfl⟩, by simp only [rm_Tr_add, rm_Tr_growPart]; omega, by simp only [rm_Tr_add, rm_Tr_growPart]; omega⟩ hK hP hD hN hS hA (va_recv hK hP (ci := 2) (q0 := 6) rfl rfl) rfl hl.1 rfl (Nat.le_of_ble_eq_true rfl) d_Tr_growPart_38 ⟨Nat.zero_le _, Nat.zero_le _⟩) hS hD rfl hA (fun H locs hP hD hS => ?_)
          refine W.eq (g2 := F0 m 41 ls []) rfl ?_
          refine lv_aload_n hx hb d_Tr_growPart_41 rfl (lv_at hl 0 rfl) ?_
          refine lv_iload_n hx hb d_Tr_growPart_42 rfl (lv_at hl 1 rfl) ?_
          refine lv_iconst (v := 1) hx hb d_Tr_growPart_43 (by decide) ?_
          refine lv_iadd hx hb d_Tr_growPart_44 ?_
          refine lv_iload_n hx hb d_Tr_growPart_45 rfl (lv_at hl 2 rfl) ?_
          refine lv_iload_n hx hb d_Tr_growPart_46 rfl (lv_at hl 3 rfl) ?_
          refine lv_iconst (v := 1) hx hb d_Tr_growPart_47 (by decide) ?_
          refine lv_iadd hx hb d_Tr_growPart_48 ?_
          obtain ⟨w45, w46, w47, w48, w49, hc50, hf⟩ := ob5_inv hf
          refine xk_v (xrunV (C := R_Tr) (As := [.int (a1 + (1 : Int32)), .int a2, .int (a3 + (1 : Int32))]) (rest := []) ⟨hx, hb, hml, hown, hts⟩ (hrec H.size co_rows co_marks co_rowSets co_partners co_open co_count w40 w41 w42 tr_seconds w43 gr_kinds gr_nodes gr_rowSets gr_firstStates gr_targetCounts gr_targets gr_stepScores gr_letterScores gr_size tx_letters tx_length va_scores va_knownEnds hi_begins hi_lengths hi_scores hi_taken hi_count de_states de_begins de_lengths de_length (a1 + (1 : Int32)) a2 (a3 + (1 : Int32)) w45 w46 w47 w48 w49 hc50) z_Tr_42 ⟨⟨rfl, rfl⟩, by simp only [rm_Tr_growPart]; omega, by simp only [rm_Tr_growPart]; omega⟩ hK hP hD hN hS hA (va_recv hK hP (ci := 2) (q0 := 6) rfl rfl) rfl hl.1 rfl (Nat.le_of_ble_eq_true rfl) d_Tr_growPart_49 ⟨Nat.zero_le _, Nat.zero_le _⟩) hS hD rfl hA (fun H locs hP hD hS => ?_)
          refine W.eq (g2 := F0 m 52 ls []) rfl ?_
          refine lv_goto (tgt := 129) hx hb d_Tr_growPart_52 (by decide) ?_
          obtain ⟨rfl, rfl, rfl, rfl, rfl⟩ := os5 hf
          exact hret H locs _ _ d_Tr_growPart_129 hP hS
      · have hf := xif_f c2 hf
        refine lv_aload_n hx hb d_Tr_growPart_12 rfl (lv_at hl 0 rfl) ?_
        refine lv_bipush (v := 7) hx hb d_Tr_growPart_13 (by decide) ?_
        refine lv_iconst (v := -1) hx hb d_Tr_growPart_15 (by decide) ?_
        refine lv_iconst (v := -1) hx hb d_Tr_growPart_16 (by decide) ?_
        obtain ⟨w51, w52, w53, w54, hc55, hf⟩ := ob4_inv hf
        refine xk_v (xrunV (C := R_Tr) (As := [.int (7 : Int32), .int (-1 : Int32), .int (-1 : Int32)]) (rest := []) ⟨hx, hb, hml, hown, hts⟩ (c_Tr_add l dC dI ty ad ta H.size co_rows co_marks co_rowSets co_partners co_open co_count tr_kinds tr_lefts tr_rights tr_seconds tr_size gr_kinds gr_nodes gr_rowSets gr_firstStates gr_targetCounts gr_targets gr_stepScores gr_letterScores gr_size tx_letters tx_length va_scores va_knownEnds hi_begins hi_lengths hi_scores hi_taken hi_count de_states de_begins de_lengths de_length (7 : Int32) (-1 : Int32) (-1 : Int32) w51 w52 w53 w54 hc55) z_Tr_32 ⟨⟨rfl, rfl⟩, by simp only [rm_Tr_add, rm_Tr_growPart]; omega, by simp only [rm_Tr_add, rm_Tr_growPart]; omega⟩ hK hP hD hN hS hA (va_recv hK hP (ci := 2) (q0 := 6) rfl rfl) rfl hl.1 rfl (Nat.le_of_ble_eq_true rfl) d_Tr_growPart_17 ⟨Nat.zero_le _, Nat.zero_le _⟩) hS hD rfl hA (fun H locs hP hD hS => ?_)
        refine W.eq (g2 := F0 m 20 ls []) rfl ?_
        refine lv_goto (tgt := 129) hx hb d_Tr_growPart_20 (by decide) ?_
        obtain ⟨rfl, rfl, rfl, rfl, rfl⟩ := os5 hf
        exact hret H locs _ _ d_Tr_growPart_129 hP hS
    · have hf := xif_f c1 hf
      obtain ⟨rfl, rfl, rfl, rfl, rfl⟩ := os5 hf
      exact hret H locs _ _ d_Tr_growPart_6 hP hS
