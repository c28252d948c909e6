/-! pure functions and contracts of Gr_layStates, Fa_isInsert, Gr_addTarget, Gr_addStates, Tr_second, Gr_addTargets, Ig_bitCount (written by wip/gen) -/
def f_Gr_layStates_K42_103 (x1_7 : Int32) (gr_firstStates_7 : (Nat → Int32)) (gr_size_7 : Int32) (rec7 : (Int32 → (Nat → Int32) → (Nat → Int32) → (Nat → Int32) → (Nat → Int32) → Int32 → Option ((Nat → Int32) × (Nat → Int32) × (Nat → Int32) × (Nat → Int32) × Int32))) (x3_42 : Int32) (gr_kinds_42 : (Nat → Int32)) (gr_nodes_42 : (Nat → Int32)) (gr_rowSets_42 : (Nat → Int32)) (gr_size_42 : Int32) : Option ((Nat → Int32) × (Nat → Int32) × (Nat → Int32) × (Nat → Int32) × Int32) := rec7 (x1_7 + (1 : Int32)) gr_kinds_42 gr_nodes_42 gr_rowSets_42 (upd gr_firstStates_7 (Int32.toNatClampNeg x1_7) gr_size_7) gr_size_42
def f_Gr_layStates_L42 (co_rows : Int32) (co_rowSets : (Nat → Int32)) (tr_lefts : (Nat → Int32)) (tr_rights : (Nat → Int32)) (x1_7 : Int32) (r7 : Nat) (k42_103 : (Int32 → (Nat → Int32) → (Nat → Int32) → (Nat → Int32) → Int32 → Option ((Nat → Int32) × (Nat → Int32) × (Nat → Int32) × (Nat → Int32) × Int32))) : Nat → Int32 → (Nat → Int32) → (Nat → Int32) → (Nat → Int32) → Int32 → Option ((Nat → Int32) × (Nat → Int32) × (Nat → Int32) × (Nat → Int32) × Int32)
  | 0, _, _, _, _, _ => none
  | n42 + 1, x3_42, gr_kinds_42, gr_nodes_42, gr_rowSets_42, gr_size_42 => if (Int32.ofNat (stL r7)) ≤ x3_42 then (k42_103 x3_42 gr_kinds_42 gr_nodes_42 gr_rowSets_42 gr_size_42) else (gd (xin x3_42 (stL r7)) (gd (xin gr_size_42 43) (gd (xin gr_size_42 43) (gd (xin x3_42 (stL r7)) (ob1 (f_Gr_rowsIn co_rows co_rowSets tr_lefts tr_rights (stV r7 (Int32.toNatClampNeg x3_42)) x1_7) (fun r14 => gd (xin gr_size_42 43) ((f_Gr_layStates_L42 co_rows co_rowSets tr_lefts tr_rights x1_7 r7 k42_103 n42) (x3_42 + (1 : Int32)) (upd gr_kinds_42 (Int32.toNatClampNeg gr_size_42) (stV r7 (Int32.toNatClampNeg x3_42))) (upd gr_nodes_42 (Int32.toNatClampNeg gr_size_42) x1_7) (upd gr_rowSets_42 (Int32.toNatClampNeg gr_size_42) r14) (gr_size_42 + (1 : Int32)))))))))
def f_Gr_layStates_K7_109 (tr_size : Int32) (x1_7 : Int32) (gr_kinds_7 : (Nat → Int32)) (gr_nodes_7 : (Nat → Int32)) (gr_rowSets_7 : (Nat → Int32)) (gr_firstStates_7 : (Nat → Int32)) (gr_size_7 : Int32) : Option ((Nat → Int32) × (Nat → Int32) × (Nat → Int32) × (Nat → Int32) × Int32) := ob1 (f_Tr_size tr_size) (fun r17 => gd (xin r17 19) (some (gr_kinds_7, gr_nodes_7, gr_rowSets_7, (upd gr_firstStates_7 (Int32.toNatClampNeg r17) gr_size_7), gr_size_7)))
def f_Gr_layStates_L7 (co_rows : Int32) (co_rowSets : (Nat → Int32)) (tr_kinds : (Nat → Int32)) (tr_lefts : (Nat → Int32)) (tr_rights : (Nat → Int32)) (tr_size : Int32) (k7_109 : (Int32 → (Nat → Int32) → (Nat → Int32) → (Nat → Int32) → (Nat → Int32) → Int32 → Option ((Nat → Int32) × (Nat → Int32) × (Nat → Int32) × (Nat → Int32) × Int32))) : Nat → Int32 → (Nat → Int32) → (Nat → Int32) → (Nat → Int32) → (Nat → Int32) → Int32 → Option ((Nat → Int32) × (Nat → Int32) × (Nat → Int32) × (Nat → Int32) × Int32)
  | 0, _, _, _, _, _, _ => none
  | n7 + 1, x1_7, gr_kinds_7, gr_nodes_7, gr_rowSets_7, gr_firstStates_7, gr_size_7 => ob1 (f_Tr_size tr_size) (fun r1 => if r1 ≤ x1_7 then (k7_109 x1_7 gr_kinds_7 gr_nodes_7 gr_rowSets_7 gr_firstStates_7 gr_size_7) else (gd (xin x1_7 19) (ob1 (f_Tr_kindOf tr_kinds x1_7) (fun r5 => ob1 (f_Fa_statesOf r5) (fun r7 => f_Gr_layStates_L42 co_rows co_rowSets tr_lefts tr_rights x1_7 r7 (f_Gr_layStates_K42_103 x1_7 gr_firstStates_7 gr_size_7 (f_Gr_layStates_L7 co_rows co_rowSets tr_kinds tr_lefts tr_rights tr_size k7_109 n7)) 1000 (0 : Int32) gr_kinds_7 gr_nodes_7 gr_rowSets_7 gr_size_7)))))
def f_Gr_layStates (co_rows : Int32) (co_rowSets : (Nat → Int32)) (tr_kinds : (Nat → Int32)) (tr_lefts : (Nat → Int32)) (tr_rights : (Nat → Int32)) (tr_size : Int32) (gr_kinds : (Nat → Int32)) (gr_nodes : (Nat → Int32)) (gr_rowSets : (Nat → Int32)) (gr_firstStates : (Nat → Int32)) (gr_size : Int32) : Option ((Nat → Int32) × (Nat → Int32) × (Nat → Int32) × (Nat → Int32) × Int32) := f_Gr_layStates_L7 co_rows co_rowSets tr_kinds tr_lefts tr_rights tr_size (f_Gr_layStates_K7_109 tr_size) 1000 (0 : Int32) gr_kinds gr_nodes gr_rowSets gr_firstStates (0 : Int32)
set_option maxHeartbeats 4000000 in
set_option maxRecDepth 100000 in
theorem c_Gr_layStates (l : Launch) (dC : Nat → ClassId) (dI : Nat → Nat → Nat) (ty : Nat → ClassId) (ad : Nat → Nat) (ta : Nat → Nat) (sz : Nat) (co_rows : Int32) (co_marks : (Nat → Int32)) (co_rowSets : (Nat → Int32)) (co_partners : (Nat → Int32)) (co_open : (Nat → Int32)) (co_count : Int32) (tr_kinds : (Nat → Int32)) (tr_lefts : (Nat → Int32)) (tr_rights : (Nat → Int32)) (tr_seconds : (Nat → Int32)) (tr_size : Int32) (gr_kinds : (Nat → Int32)) (gr_nodes : (Nat → Int32)) (gr_rowSets : (Nat → Int32)) (gr_firstStates : (Nat → Int32)) (gr_targetCounts : (Nat → Int32)) (gr_targets : (Nat → Int32)) (gr_stepScores : (Nat → Int32)) (gr_letterScores : (Nat → Int32)) (gr_size : Int32) (tx_letters : (Nat → Int32)) (tx_length : Int32) (va_scores : (Nat → Int32)) (va_knownEnds : Int32) (hi_begins : (Nat → Int32)) (hi_lengths : (Nat → Int32)) (hi_scores : (Nat → Int32)) (hi_taken : (Nat → Int32)) (hi_count : Int32) (de_states : (Nat → Int32)) (de_begins : (Nat → Int32)) (de_lengths : (Nat → Int32)) (de_length : Int32)  (n_gr_kinds : (Nat → Int32)) (n_gr_nodes : (Nat → Int32)) (n_gr_rowSets : (Nat → Int32)) (n_gr_firstStates : (Nat → Int32)) (n_gr_size : Int32) (hf : f_Gr_layStates co_rows co_rowSets tr_kinds tr_lefts tr_rights tr_size gr_kinds gr_nodes gr_rowSets gr_firstStates gr_size = some (n_gr_kinds, n_gr_nodes, n_gr_rowSets, n_gr_firstStates, n_gr_size)) : Met l y_Gr_layStates (.code y_Gr_layStates prog_4_method_13_code 4 none :: gw) rm_Gr_layStates (xPre ta (dC, dI) classes (tys3 ty) (wX ty ad co_rows co_marks co_rowSets co_partners co_open co_count tr_kinds tr_lefts tr_rights tr_seconds tr_size gr_kinds gr_nodes gr_rowSets gr_firstStates gr_targetCounts gr_targets gr_stepScores gr_letterScores gr_size tx_letters tx_length va_scores va_knownEnds hi_begins hi_lengths hi_scores hi_taken hi_count de_states de_begins de_lengths de_length) sz [.ref (ad 11)]) (xQv (dC, dI) classes (wX ty ad co_rows co_marks co_rowSets co_partners co_open co_count tr_kinds tr_lefts tr_rights tr_seconds tr_size gr_kinds gr_nodes gr_rowSets gr_firstStates gr_targetCounts gr_targets gr_stepScores gr_letterScores gr_size tx_letters tx_length va_scores va_knownEnds hi_begins hi_lengths hi_scores hi_taken hi_count de_states de_begins de_lengths de_length) (wX ty ad co_rows co_marks co_rowSets co_partners co_open co_count tr_kinds tr_lefts tr_rights tr_seconds tr_size n_gr_kinds n_gr_nodes n_gr_rowSets n_gr_firstStates gr_targetCounts gr_targets gr_stepScores gr_letterScores n_gr_size tx_letters tx_length va_scores va_knownEnds hi_begins hi_lengths hi_scores hi_taken hi_count de_states de_begins de_lengths de_length) sz) 0 0 (va_A (wX ty ad co_rows co_marks co_rowSets co_partners co_open co_count tr_kinds tr_lefts tr_rights tr_seconds tr_size gr_kinds gr_nodes gr_rowSets gr_firstStates gr_targetCounts gr_targets gr_stepScores gr_letterScores gr_size tx_letters tx_length va_scores va_knownEnds hi_begins hi_lengths hi_scores hi_taken hi_count de_states de_begins de_lengths de_length) sz) := by
  refine xmet_v rfl (Nat.le_of_ble_eq_true rfl) ?_
  intro p e s m below meth c A ls Q hx hb hml hts hown hK hN hA hP hD hS hl hret
  replace hown : s.vm.findClass R_Gr = some m.cls := hown
  have hl : lv_has ls 4 [(0, .ref (ad 11))] := hl
  rw [f_Gr_layStates] at hf
  obtain ⟨H, eH⟩ : ∃ H : Heap, H = s.heap := ⟨_, rfl⟩
  obtain ⟨locs, eL⟩ : ∃ L : List Loc, L = [] := ⟨_, rfl⟩
  have hP : va_P (dC, dI) classes (wX ty ad co_rows co_marks co_rowSets co_partners co_open co_count tr_kinds tr_lefts tr_rights tr_seconds tr_size gr_kinds gr_nodes gr_rowSets gr_firstStates gr_targetCounts gr_targets gr_stepScores gr_letterScores gr_size tx_letters tx_length va_scores va_knownEnds hi_begins hi_lengths hi_scores hi_taken hi_count de_states de_begins de_lengths de_length) H := by rw [eH]; exact hP
  have hS : va_S A s.heap H locs := by rw [eH, eL]; exact hS
  rw [← eL]
  suffices hgoal : W p l e rm_Gr_layStates s m (List.toArray [.ref (ad 11)]) below meth c H locs 0 0 Q (F0 m 0 ls []) by rw [eH] at hgoal; exact hgoal
  clear eH eL
  refine lv_aload_n hx hb d_Gr_layStates_0 rfl (lv_at hl 0 rfl) ?_
  refine lv_iconst (v := 0) hx hb d_Gr_layStates_1 (by decide) ?_
  refine va_put (D := (dC, dI)) (ci := 3) (v := .int (0 : Int32)) (ty := .int) (C := R_Gr) (T := F_Gr) (N := 11) hx hb hts iw_Gr t_Gr t_Gr_ok n_Gr hown hK hP hD hS 11 rfl rfl 10 (by decide) (hts _ m_142) (fun _ h9 => h9) rfl (by decide +kernel) rfl rfl (Nat.le_of_ble_eq_true rfl) d_Gr_layStates_2 (fun H locs hP hD hS => ?_)
  have hP : va_P (dC, dI) classes (wX ty ad co_rows co_marks co_rowSets co_partners co_open co_count tr_kinds tr_lefts tr_rights tr_seconds tr_size gr_kinds gr_nodes gr_rowSets gr_firstStates gr_targetCounts gr_targets gr_stepScores gr_letterScores (0 : Int32) tx_letters tx_length va_scores va_knownEnds hi_begins hi_lengths hi_scores hi_taken hi_count de_states de_begins de_lengths de_length) H := hP
  have hD : va_D A (wX ty ad co_rows co_marks co_rowSets co_partners co_open co_count tr_kinds tr_lefts tr_rights tr_seconds tr_size gr_kinds gr_nodes gr_rowSets gr_firstStates gr_targetCounts gr_targets gr_stepScores gr_letterScores (0 : Int32) tx_letters tx_length va_scores va_knownEnds hi_begins hi_lengths hi_scores hi_taken hi_count de_states de_begins de_lengths de_length) := hD
  refine lv_iconst (v := 0) hx hb d_Gr_layStates_5 (by decide) ?_
  refine lv_istore_n (lv' := [(1, .int (0 : Int32)), (0, .ref (ad 11))]) hx hb d_Gr_layStates_6 rfl hl (by decide) rfl (fun ls hl => ?_)
  have K7_109 : ∀ (x1_7 : Int32) (gr_kinds_7 : (Nat → Int32)) (gr_nodes_7 : (Nat → Int32)) (gr_rowSets_7 : (Nat → Int32)) (gr_firstStates_7 : (Nat → Int32)) (gr_size_7 : Int32) (H : Heap) (locs : List Loc) (ls : Array Slot), va_P (dC, dI) classes (wX ty ad co_rows co_marks co_rowSets co_partners co_open co_count tr_kinds tr_lefts tr_rights tr_seconds tr_size gr_kinds_7 gr_nodes_7 gr_rowSets_7 gr_firstStates_7 gr_targetCounts gr_targets gr_stepScores gr_letterScores gr_size_7 tx_letters tx_length va_scores va_knownEnds hi_begins hi_lengths hi_scores hi_taken hi_count de_states de_begins de_lengths de_length) H → va_D A (wX ty ad co_rows co_marks co_rowSets co_partners co_open co_count tr_kinds tr_lefts tr_rights tr_seconds tr_size gr_kinds_7 gr_nodes_7 gr_rowSets_7 gr_firstStates_7 gr_targetCounts gr_targets gr_stepScores gr_letterScores gr_size_7 tx_letters tx_length va_scores va_knownEnds hi_begins hi_lengths hi_scores hi_taken hi_count de_states de_begins de_lengths de_length) → va_S A s.heap H locs → lv_has ls 4 [(0, .ref (ad 11))] → f_Gr_layStates_K7_109 tr_size x1_7 gr_kinds_7 gr_nodes_7 gr_rowSets_7 gr_firstStates_7 gr_size_7 = some (n_gr_kinds, n_gr_nodes, n_gr_rowSets, n_gr_firstStates, n_gr_size) → W p l e rm_Gr_layStates s m (List.toArray [.ref (ad 11)]) below meth c H locs 0 0 Q (F0 m 109 ls []) := by
    intro x1_7 gr_kinds_7 gr_nodes_7 gr_rowSets_7 gr_firstStates_7 gr_size_7 H locs ls hP hD hS hl hf
    rw [f_Gr_layStates_K7_109] at hf
    refine lv_aload_n hx hb d_Gr_layStates_109 rfl (lv_at hl 0 rfl) ?_
    refine va_get (D := (dC, dI)) (ci := 3) (v := .ref (ad 15)) (C := R_Gr) (T := F_Gr) (N := 11) hx hb hts iw_Gr hown hK hP 11 rfl rfl 5 (by decide) (hts _ m_137) (fun _ h9 => h9) rfl d_Gr_layStates_110 ?_
    refine lv_aload_n hx hb d_Gr_layStates_113 rfl (lv_at hl 0 rfl) ?_
    refine va_get (D := (dC, dI)) (ci := 3) (v := .ref (ad 6)) (C := R_Gr) (T := F_Gr) (N := 11) hx hb hts iw_Gr hown hK hP 11 rfl rfl 1 (by decide) (hts _ m_133) (fun _ h9 => h9) rfl d_Gr_layStates_114 ?_
    obtain ⟨r17, hc18, hf⟩ := ob1_inv hf
    refine xk_i (xrunV (C := R_Tr) (As := []) (rest := [.ref (ad 15)]) ⟨hx, hb, hml, hown, hts⟩ (c_Tr_size l dC dI ty ad ta H.size co_rows co_marks co_rowSets co_partners co_open co_count tr_kinds tr_lefts tr_rights tr_seconds tr_size gr_kinds_7 gr_nodes_7 gr_rowSets_7 gr_firstStates_7 gr_targetCounts gr_targets gr_stepScores gr_letterScores gr_size_7 tx_letters tx_length va_scores va_knownEnds hi_begins hi_lengths hi_scores hi_taken hi_count de_states de_begins de_lengths de_length  r17 hc18) z_Gr_65 ⟨⟨rfl, rfl⟩, by decide, by decide⟩ hK hP hD hN hS hA (va_recv hK hP (ci := 2) (q0 := 6) rfl rfl) rfl hl.1 rfl (Nat.le_of_ble_eq_true rfl) d_Gr_layStates_117 ⟨Nat.zero_le _, Nat.zero_le _⟩) hS hD rfl hA (fun H locs hP hD hS => ?_)
    refine W.eq (g2 := F0 m 120 ls [.int r17, .ref (ad 15)]) rfl ?_
    refine lv_aload_n hx hb d_Gr_layStates_120 rfl (lv_at hl 0 rfl) ?_
    refine va_get (D := (dC, dI)) (ci := 3) (v := .int gr_size_7) (C := R_Gr) (T := F_Gr) (N := 11) hx hb hts iw_Gr hown hK hP 11 rfl rfl 10 (by decide) (hts _ m_142) (fun _ h9 => h9) rfl d_Gr_layStates_121 ?_
    obtain ⟨hi19, hf⟩ := gdi hf
    refine va_iast hx hb hK hP hD hS 15 0 rfl rfl hi19 d_Gr_layStates_124 (fun H locs hP hD hS => ?_)
    have hP : va_P (dC, dI) classes (wX ty ad co_rows co_marks co_rowSets co_partners co_open co_count tr_kinds tr_lefts tr_rights tr_seconds tr_size gr_kinds_7 gr_nodes_7 gr_rowSets_7 (upd gr_firstStates_7 (Int32.toNatClampNeg r17) gr_size_7) gr_targetCounts gr_targets gr_stepScores gr_letterScores gr_size_7 tx_letters tx_length va_scores va_knownEnds hi_begins hi_lengths hi_scores hi_taken hi_count de_states de_begins de_lengths de_length) H := hP
    have hD : va_D A (wX ty ad co_rows co_marks co_rowSets co_partners co_open co_count tr_kinds tr_lefts tr_rights tr_seconds tr_size gr_kinds_7 gr_nodes_7 gr_rowSets_7 (upd gr_firstStates_7 (Int32.toNatClampNeg r17) gr_size_7) gr_targetCounts gr_targets gr_stepScores gr_letterScores gr_size_7 tx_letters tx_length va_scores va_knownEnds hi_begins hi_lengths hi_scores hi_taken hi_count de_states de_begins de_lengths de_length) := hD
    obtain ⟨rfl, rfl, rfl, rfl, rfl⟩ := os5 hf
    exact hret H locs _ _ d_Gr_layStates_125 hP hS
  have L7 : ∀ (n7 : Nat), ∀ (x1_7 : Int32) (gr_kinds_7 : (Nat → Int32)) (gr_nodes_7 : (Nat → Int32)) (gr_rowSets_7 : (Nat → Int32)) (gr_firstStates_7 : (Nat → Int32)) (gr_size_7 : Int32) (H : Heap) (locs : List Loc) (ls : Array Slot), va_P (dC, dI) classes (wX ty ad co_rows co_marks co_rowSets co_partners co_open co_count tr_kinds tr_lefts tr_rights tr_seconds tr_size gr_kinds_7 gr_nodes_7 gr_rowSets_7 gr_firstStates_7 gr_targetCounts gr_targets gr_stepScores gr_letterScores gr_size_7 tx_letters tx_length va_scores va_knownEnds hi_begins hi_lengths hi_scores hi_taken hi_count de_states de_begins de_lengths de_length) H → va_D A (wX ty ad co_rows co_marks co_rowSets co_partners co_open co_count tr_kinds tr_lefts tr_rights tr_seconds tr_size gr_kinds_7 gr_nodes_7 gr_rowSets_7 gr_firstStates_7 gr_targetCounts gr_targets gr_stepScores gr_letterScores gr_size_7 tx_letters tx_length va_scores va_knownEnds hi_begins hi_lengths hi_scores hi_taken hi_count de_states de_begins de_lengths de_length) → va_S A s.heap H locs → lv_has ls 4 [(0, .ref (ad 11)), (1, .int x1_7)] → f_Gr_layStates_L7 co_rows co_rowSets tr_kinds tr_lefts tr_rights tr_size (f_Gr_layStates_K7_109 tr_size) n7 x1_7 gr_kinds_7 gr_nodes_7 gr_rowSets_7 gr_firstStates_7 gr_size_7 = some (n_gr_kinds, n_gr_nodes, n_gr_rowSets, n_gr_firstStates, n_gr_size) → W p l e rm_Gr_layStates s m (List.toArray [.ref (ad 11)]) below meth c H locs 0 0 Q (F0 m 7 ls []) := by
    intro n7
    induction n7 with
    | zero =>
      intro x1_7 gr_kinds_7 gr_nodes_7 gr_rowSets_7 gr_firstStates_7 gr_size_7 H locs ls hP hD hS hl hf
      rw [f_Gr_layStates_L7] at hf
      cases hf
    | succ n7 ih7 =>
      intro x1_7 gr_kinds_7 gr_nodes_7 gr_rowSets_7 gr_firstStates_7 gr_size_7 H locs ls hP hD hS hl hf
      rw [f_Gr_layStates_L7] at hf
      refine lv_iload_n hx hb d_Gr_layStates_7 rfl (lv_at hl 1 rfl) ?_
      refine lv_aload_n hx hb d_Gr_layStates_8 rfl (lv_at hl 0 rfl) ?_
      refine va_get (D := (dC, dI)) (ci := 3) (v := .ref (ad 6)) (C := R_Gr) (T := F_Gr) (N := 11) hx hb hts iw_Gr hown hK hP 11 rfl rfl 1 (by decide) (hts _ m_133) (fun _ h9 => h9) rfl d_Gr_layStates_9 ?_
      obtain ⟨r1, hc2, hf⟩ := ob1_inv hf
      refine xk_i (xrunV (C := R_Tr) (As := []) (rest := [.int x1_7]) ⟨hx, hb, hml, hown, hts⟩ (c_Tr_size l dC dI ty ad ta H.size co_rows co_marks co_rowSets co_partners co_open co_count tr_kinds tr_lefts tr_rights tr_seconds tr_size gr_kinds_7 gr_nodes_7 gr_rowSets_7 gr_firstStates_7 gr_targetCounts gr_targets gr_stepScores gr_letterScores gr_size_7 tx_letters tx_length va_scores va_knownEnds hi_begins hi_lengths hi_scores hi_taken hi_count de_states de_begins de_lengths de_length  r1 hc2) z_Gr_65 ⟨⟨rfl, rfl⟩, by decide, by decide⟩ hK hP hD hN hS hA (va_recv hK hP (ci := 2) (q0 := 6) rfl rfl) rfl hl.1 rfl (Nat.le_of_ble_eq_true rfl) d_Gr_layStates_12 ⟨Nat.zero_le _, Nat.zero_le _⟩) hS hD rfl hA (fun H locs hP hD hS => ?_)
      refine W.eq (g2 := F0 m 15 ls [.int r1, .int x1_7]) rfl ?_
      refine lv_icmp_ge (tgt := 109) hx hb d_Gr_layStates_15 (by decide) (fun c3 => ?_) (fun c3 => ?_)
      · have hf := xif_t c3 hf
        exact K7_109 x1_7 gr_kinds_7 gr_nodes_7 gr_rowSets_7 gr_firstStates_7 gr_size_7 _ _ _ hP hD hS (lv_sub hl [0] rfl) hf
      · have hf := xif_f c3 hf
        refine lv_aload_n hx hb d_Gr_layStates_18 rfl (lv_at hl 0 rfl) ?_
        refine va_get (D := (dC, dI)) (ci := 3) (v := .ref (ad 15)) (C := R_Gr) (T := F_Gr) (N := 11) hx hb hts iw_Gr hown hK hP 11 rfl rfl 5 (by decide) (hts _ m_137) (fun _ h9 => h9) rfl d_Gr_layStates_19 ?_
        refine lv_iload_n hx hb d_Gr_layStates_22 rfl (lv_at hl 1 rfl) ?_
        refine lv_aload_n hx hb d_Gr_layStates_23 rfl (lv_at hl 0 rfl) ?_
        refine va_get (D := (dC, dI)) (ci := 3) (v := .int gr_size_7) (C := R_Gr) (T := F_Gr) (N := 11) hx hb hts iw_Gr hown hK hP 11 rfl rfl 10 (by decide) (hts _ m_142) (fun _ h9 => h9) rfl d_Gr_layStates_24 ?_
        obtain ⟨hi4, hf⟩ := gdi hf
        refine va_iast hx hb hK hP hD hS 15 0 rfl rfl hi4 d_Gr_layStates_27 (fun H locs hP hD hS => ?_)
        have hP : va_P (dC, dI) classes (wX ty ad co_rows co_marks co_rowSets co_partners co_open co_count tr_kinds tr_lefts tr_rights tr_seconds tr_size gr_kinds_7 gr_nodes_7 gr_rowSets_7 (upd gr_firstStates_7 (Int32.toNatClampNeg x1_7) gr_size_7) gr_targetCounts gr_targets gr_stepScores gr_letterScores gr_size_7 tx_letters tx_length va_scores va_knownEnds hi_begins hi_lengths hi_scores hi_taken hi_count de_states de_begins de_lengths de_length) H := hP
        have hD : va_D A (wX ty ad co_rows co_marks co_rowSets co_partners co_open co_count tr_kinds tr_lefts tr_rights tr_seconds tr_size gr_kinds_7 gr_nodes_7 gr_rowSets_7 (upd gr_firstStates_7 (Int32.toNatClampNeg x1_7) gr_size_7) gr_targetCounts gr_targets gr_stepScores gr_letterScores gr_size_7 tx_letters tx_length va_scores va_knownEnds hi_begins hi_lengths hi_scores hi_taken hi_count de_states de_begins de_lengths de_length) := hD
        refine lv_aload_n hx hb d_Gr_layStates_28 rfl (lv_at hl 0 rfl) ?_
        refine va_get (D := (dC, dI)) (ci := 3) (v := .ref (ad 6)) (C := R_Gr) (T := F_Gr) (N := 11) hx hb hts iw_Gr hown hK hP 11 rfl rfl 1 (by decide) (hts _ m_133) (fun _ h9 => h9) rfl d_Gr_layStates_29 ?_
        refine lv_iload_n hx hb d_Gr_layStates_32 rfl (lv_at hl 1 rfl) ?_
        obtain ⟨r5, hc6, hf⟩ := ob1_inv hf
        refine xk_i (xrunV (C := R_Tr) (As := [.int x1_7]) (rest := []) ⟨hx, hb, hml, hown, hts⟩ (c_Tr_kindOf l dC dI ty ad ta H.size co_rows co_marks co_rowSets co_partners co_open co_count tr_kinds tr_lefts tr_rights tr_seconds tr_size gr_kinds_7 gr_nodes_7 gr_rowSets_7 (upd gr_firstStates_7 (Int32.toNatClampNeg x1_7) gr_size_7) gr_targetCounts gr_targets gr_stepScores gr_letterScores gr_size_7 tx_letters tx_length va_scores va_knownEnds hi_begins hi_lengths hi_scores hi_taken hi_count de_states de_begins de_lengths de_length x1_7 r5 hc6) z_Gr_70 ⟨⟨rfl, rfl⟩, by decide, by decide⟩ hK hP hD hN hS hA (va_recv hK hP (ci := 2) (q0 := 6) rfl rfl) rfl hl.1 rfl (Nat.le_of_ble_eq_true rfl) d_Gr_layStates_33 ⟨Nat.zero_le _, Nat.zero_le _⟩) hS hD rfl hA (fun H locs hP hD hS => ?_)
        refine W.eq (g2 := F0 m 36 ls [.int r5]) rfl ?_
        obtain ⟨r7, hc8, hf⟩ := ob1_inv hf
        refine xk_r (xrunSN (As := [.int r5]) (rest := []) ⟨hx, hb, hml, hown, hts⟩ (c_Fa_statesOf l dC dI ty ad ta H.size co_rows co_marks co_rowSets co_partners co_open co_count tr_kinds tr_lefts tr_rights tr_seconds tr_size gr_kinds_7 gr_nodes_7 gr_rowSets_7 (upd gr_firstStates_7 (Int32.toNatClampNeg x1_7) gr_size_7) gr_targetCounts gr_targets gr_stepScores gr_letterScores gr_size_7 tx_letters tx_length va_scores va_knownEnds hi_begins hi_lengths hi_scores hi_taken hi_count de_states de_begins de_lengths de_length r5 r7 hc8) z_Gr_74 ⟨⟨rfl, rfl⟩, by decide, by decide⟩ hK hP hD hN hS hA rfl hl.1 rfl (Nat.le_of_ble_eq_true rfl) d_Gr_layStates_36 ⟨Nat.zero_le _, Nat.zero_le _⟩) hS hD rfl hA (fun H locs hP hD hS => ?_)
        refine W.eq (g2 := F0 m 39 ls [.ref (ta r7)]) rfl ?_
        refine lv_astore_n (lv' := [(2, .ref (ta r7)), (0, .ref (ad 11)), (1, .int x1_7)]) hx hb d_Gr_layStates_39 rfl hl (by decide) rfl (fun ls hl => ?_)
        refine lv_iconst (v := 0) hx hb d_Gr_layStates_40 (by decide) ?_
        refine lv_istore_n (lv' := [(3, .int (0 : Int32)), (2, .ref (ta r7)), (0, .ref (ad 11)), (1, .int x1_7)]) hx hb d_Gr_layStates_41 rfl hl (by decide) rfl (fun ls hl => ?_)
        have K42_103 : ∀ (x3_42 : Int32) (gr_kinds_42 : (Nat → Int32)) (gr_nodes_42 : (Nat → Int32)) (gr_rowSets_42 : (Nat → Int32)) (gr_size_42 : Int32) (H : Heap) (locs : List Loc) (ls : Array Slot), va_P (dC, dI) classes (wX ty ad co_rows co_marks co_rowSets co_partners co_open co_count tr_kinds tr_lefts tr_rights tr_seconds tr_size gr_kinds_42 gr_nodes_42 gr_rowSets_42 (upd gr_firstStates_7 (Int32.toNatClampNeg x1_7) gr_size_7) gr_targetCounts gr_targets gr_stepScores gr_letterScores gr_size_42 tx_letters tx_length va_scores va_knownEnds hi_begins hi_lengths hi_scores hi_taken hi_count de_states de_begins de_lengths de_length) H → va_D A (wX ty ad co_rows co_marks co_rowSets co_partners co_open co_count tr_kinds tr_lefts tr_rights tr_seconds tr_size gr_kinds_42 gr_nodes_42 gr_rowSets_42 (upd gr_firstStates_7 (Int32.toNatClampNeg x1_7) gr_size_7) gr_targetCounts gr_targets gr_stepScores gr_letterScores gr_size_42 tx_letters tx_length va_scores va_knownEnds hi_begins hi_lengths hi_scores hi_taken hi_count de_states de_begins de_lengths de_length) → va_S A s.heap H locs → lv_has ls 4 [(0, .ref (ad 11)), (1, .int x1_7)] → f_Gr_layStates_K42_103 x1_7 gr_firstStates_7 gr_size_7 (f_Gr_layStates_L7 co_rows co_rowSets tr_kinds tr_lefts tr_rights tr_size (f_Gr_layStates_K7_109 tr_size) n7) x3_42 gr_kinds_42 gr_nodes_42 gr_rowSets_42 gr_size_42 = some (n_gr_kinds, n_gr_nodes, n_gr_rowSets, n_gr_firstStates, n_gr_size) → W p l e rm_Gr_layStates s m (List.toArray [.ref (ad 11)]) below meth c H locs 0 0 Q (F0 m 103 ls []) := by
          intro x3_42 gr_kinds_42 gr_nodes_42 gr_rowSets_42 gr_size_42 H locs ls hP hD hS hl hf
          rw [f_Gr_layStates_K42_103] at hf
          refine lv_iinc (v := (x1_7 + (1 : Int32))) (lv' := [(1, .int (x1_7 + (1 : Int32))), (0, .ref (ad 11))]) hx hb d_Gr_layStates_103 hl (k := 1) rfl rfl (by decide) rfl (fun ls hl => ?_)
          refine lv_goto (tgt := 7) hx hb d_Gr_layStates_106 (by decide) ?_
          exact ih7 (x1_7 + (1 : Int32)) gr_kinds_42 gr_nodes_42 gr_rowSets_42 (upd gr_firstStates_7 (Int32.toNatClampNeg x1_7) gr_size_7) gr_size_42 _ _ _ hP hD hS (lv_sub hl [1, 0] rfl) hf
        have L42 : ∀ (n42 : Nat), ∀ (x3_42 : Int32) (gr_kinds_42 : (Nat → Int32)) (gr_nodes_42 : (Nat → Int32)) (gr_rowSets_42 : (Nat → Int32)) (gr_size_42 : Int32) (H : Heap) (locs : List Loc) (ls : Array Slot), va_P (dC, dI) classes (wX ty ad co_rows co_marks co_rowSets co_partners co_open co_count tr_kinds tr_lefts tr_rights tr_seconds tr_size gr_kinds_42 gr_nodes_42 gr_rowSets_42 (upd gr_firstStates_7 (Int32.toNatClampNeg x1_7) gr_size_7) gr_targetCounts gr_targets gr_stepScores gr_letterScores gr_size_42 tx_letters tx_length va_scores va_knownEnds hi_begins hi_lengths hi_scores hi_taken hi_count de_states de_begins de_lengths de_length) H → va_D A (wX ty ad co_rows co_marks co_rowSets co_partners co_open co_count tr_kinds tr_lefts tr_rights tr_seconds tr_size gr_kinds_42 gr_nodes_42 gr_rowSets_42 (upd gr_firstStates_7 (Int32.toNatClampNeg x1_7) gr_size_7) gr_targetCounts gr_targets gr_stepScores gr_letterScores gr_size_42 tx_letters tx_length va_scores va_knownEnds hi_begins hi_lengths hi_scores hi_taken hi_count de_states de_begins de_lengths de_length) → va_S A s.heap H locs → lv_has ls 4 [(0, .ref (ad 11)), (1, .int x1_7), (2, .ref (ta r7)), (3, .int x3_42)] → f_Gr_layStates_L42 co_rows co_rowSets tr_lefts tr_rights x1_7 r7 (f_Gr_layStates_K42_103 x1_7 gr_firstStates_7 gr_size_7 (f_Gr_layStates_L7 co_rows co_rowSets tr_kinds tr_lefts tr_rights tr_size (f_Gr_layStates_K7_109 tr_size) n7)) n42 x3_42 gr_kinds_42 gr_nodes_42 gr_rowSets_42 gr_size_42 = some (n_gr_kinds, n_gr_nodes, n_gr_rowSets, n_gr_firstStates, n_gr_size) → W p l e rm_Gr_layStates s m (List.toArray [.ref (ad 11)]) below meth c H locs 0 0 Q (F0 m 42 ls []) := by
          intro n42
          induction n42 with
          | zero =>
            intro x3_42 gr_kinds_42 gr_nodes_42 gr_rowSets_42 gr_size_42 H locs ls hP hD hS hl hf
            rw [f_Gr_layStates_L42] at hf
            cases hf
          | succ n42 ih42 =>
            intro x3_42 gr_kinds_42 gr_nodes_42 gr_rowSets_42 gr_size_42 H locs ls hP hD hS hl hf
            rw [f_Gr_layStates_L42] at hf
            refine lv_iload_n hx hb d_Gr_layStates_42 rfl (lv_at hl 3 rfl) ?_
            refine lv_aload_n hx hb d_Gr_layStates_43 rfl (lv_at hl 2 rfl) ?_
            refine va_tlen hx hb (hN.2 r7).2 hS (v := (Int32.ofNat (stL r7))) rfl d_Gr_layStates_44 ?_
            refine lv_icmp_ge (tgt := 103) hx hb d_Gr_layStates_45 (by decide) (fun c9 => ?_) (fun c9 => ?_)
            · have hf := xif_t c9 hf
              exact K42_103 x3_42 gr_kinds_42 gr_nodes_42 gr_rowSets_42 gr_size_42 _ _ _ hP hD hS (lv_sub hl [0, 1] rfl) hf
            · have hf := xif_f c9 hf
              refine lv_aload_n hx hb d_Gr_layStates_48 rfl (lv_at hl 0 rfl) ?_
              refine va_get (D := (dC, dI)) (ci := 3) (v := .ref (ad 12)) (C := R_Gr) (T := F_Gr) (N := 11) hx hb hts iw_Gr hown hK hP 11 rfl rfl 2 (by decide) (hts _ m_134) (fun _ h9 => h9) rfl d_Gr_layStates_49 ?_
              refine lv_aload_n hx hb d_Gr_layStates_52 rfl (lv_at hl 0 rfl) ?_
              refine va_get (D := (dC, dI)) (ci := 3) (v := .int gr_size_42) (C := R_Gr) (T := F_Gr) (N := 11) hx hb hts iw_Gr hown hK hP 11 rfl rfl 10 (by decide) (hts _ m_142) (fun _ h9 => h9) rfl d_Gr_layStates_53 ?_
              refine lv_aload_n hx hb d_Gr_layStates_56 rfl (lv_at hl 2 rfl) ?_
              refine lv_iload_n hx hb d_Gr_layStates_57 rfl (lv_at hl 3 rfl) ?_
              obtain ⟨hi10, hf⟩ := gdi hf
              refine va_ti hx hb (hN.2 r7).2 hS hi10 (v := .int (stV r7 (Int32.toNatClampNeg x3_42))) rfl d_Gr_layStates_58 ?_
              obtain ⟨hi11, hf⟩ := gdi hf
              refine va_iast hx hb hK hP hD hS 12 0 rfl rfl hi11 d_Gr_layStates_59 (fun H locs hP hD hS => ?_)
              have hP : va_P (dC, dI) classes (wX ty ad co_rows co_marks co_rowSets co_partners co_open co_count tr_kinds tr_lefts tr_rights tr_seconds tr_size (upd gr_kinds_42 (Int32.toNatClampNeg gr_size_42) (stV r7 (Int32.toNatClampNeg x3_42))) gr_nodes_42 gr_rowSets_42 (upd gr_firstStates_7 (Int32.toNatClampNeg x1_7) gr_size_7) gr_targetCounts gr_targets gr_stepScores gr_letterScores gr_size_42 tx_letters tx_length va_scores va_knownEnds hi_begins hi_lengths hi_scores hi_taken hi_count de_states de_begins de_lengths de_length) H := hP
              have hD : va_D A (wX ty ad co_rows co_marks co_rowSets co_partners co_open co_count tr_kinds tr_lefts tr_rights tr_seconds tr_size (upd gr_kinds_42 (Int32.toNatClampNeg gr_size_42) (stV r7 (Int32.toNatClampNeg x3_42))) gr_nodes_42 gr_rowSets_42 (upd gr_firstStates_7 (Int32.toNatClampNeg x1_7) gr_size_7) gr_targetCounts gr_targets gr_stepScores gr_letterScores gr_size_42 tx_letters tx_length va_scores va_knownEnds hi_begins hi_lengths hi_scores hi_taken hi_count de_states de_begins de_lengths de_length) := hD
              refine lv_aload_n hx hb d_Gr_layStates_60 rfl (lv_at hl 0 rfl) ?_
              refine va_get (D := (dC, dI)) (ci := 3) (v := .ref (ad 13)) (C := R_Gr) (T := F_Gr) (N := 11) hx hb hts iw_Gr hown hK hP 11 rfl rfl 3 (by decide) (hts _ m_135) (fun _ h9 => h9) rfl d_Gr_layStates_61 ?_
              refine lv_aload_n hx hb d_Gr_layStates_64 rfl (lv_at hl 0 rfl) ?_
              refine va_get (D := (dC, dI)) (ci := 3) (v := .int gr_size_42) (C := R_Gr) (T := F_Gr) (N := 11) hx hb hts iw_Gr hown hK hP 11 rfl rfl 10 (by decide) (hts _ m_142) (fun _ h9 => h9) rfl d_Gr_layStates_65 ?_
              refine lv_iload_n hx hb d_Gr_layStates_68 rfl (lv_at hl 1 rfl) ?_
              obtain ⟨hi12, hf⟩ := gdi hf
              refine va_iast hx hb hK hP hD hS 13 0 rfl rfl hi12 d_Gr_layStates_69 (fun H locs hP hD hS => ?_)
              have hP : va_P (dC, dI) classes (wX ty ad co_rows co_marks co_rowSets co_partners co_open co_count tr_kinds tr_lefts tr_rights tr_seconds tr_size (upd gr_kinds_42 (Int32.toNatClampNeg gr_size_42) (stV r7 (Int32.toNatClampNeg x3_42))) (upd gr_nodes_42 (Int32.toNatClampNeg gr_size_42) x1_7) gr_rowSets_42 (upd gr_firstStates_7 (Int32.toNatClampNeg x1_7) gr_size_7) gr_targetCounts gr_targets gr_stepScores gr_letterScores gr_size_42 tx_letters tx_length va_scores va_knownEnds hi_begins hi_lengths hi_scores hi_taken hi_count de_states de_begins de_lengths de_length) H := hP
              have hD : va_D A (wX ty ad co_rows co_marks co_rowSets co_partners co_open co_count tr_kinds tr_lefts tr_rights tr_seconds tr_size (upd gr_kinds_42 (Int32.toNatClampNeg gr_size_42) (stV r7 (Int32.toNatClampNeg x3_42))) (upd gr_nodes_42 (Int32.toNatClampNeg gr_size_42) x1_7) gr_rowSets_42 (upd gr_firstStates_7 (Int32.toNatClampNeg x1_7) gr_size_7) gr_targetCounts gr_targets gr_stepScores gr_letterScores gr_size_42 tx_letters tx_length va_scores va_knownEnds hi_begins hi_lengths hi_scores hi_taken hi_count de_states de_begins de_lengths de_length) := hD
              refine lv_aload_n hx hb d_Gr_layStates_70 rfl (lv_at hl 0 rfl) ?_
              refine va_get (D := (dC, dI)) (ci := 3) (v := .ref (ad 14)) (C := R_Gr) (T := F_Gr) (N := 11) hx hb hts iw_Gr hown hK hP 11 rfl rfl 4 (by decide) (hts _ m_136) (fun _ h9 => h9) rfl d_Gr_layStates_71 ?_
              refine lv_aload_n hx hb d_Gr_layStates_74 rfl (lv_at hl 0 rfl) ?_
              refine va_get (D := (dC, dI)) (ci := 3) (v := .int gr_size_42) (C := R_Gr) (T := F_Gr) (N := 11) hx hb hts iw_Gr hown hK hP 11 rfl rfl 10 (by decide) (hts _ m_142) (fun _ h9 => h9) rfl d_Gr_layStates_75 ?_
              refine lv_aload_n hx hb d_Gr_layStates_78 rfl (lv_at hl 0 rfl) ?_
              refine lv_aload_n hx hb d_Gr_layStates_79 rfl (lv_at hl 2 rfl) ?_
              refine lv_iload_n hx hb d_Gr_layStates_80 rfl (lv_at hl 3 rfl) ?_
              obtain ⟨hi13, hf⟩ := gdi hf
              refine va_ti hx hb (hN.2 r7).2 hS hi13 (v := .int (stV r7 (Int32.toNatClampNeg x3_42))) rfl d_Gr_layStates_81 ?_
              refine lv_iload_n hx hb d_Gr_layStates_82 rfl (lv_at hl 1 rfl) ?_
              obtain ⟨r14, hc15, hf⟩ := ob1_inv hf
              refine xk_i (xrunV (C := R_Gr) (As := [.int (stV r7 (Int32.toNatClampNeg x3_42)), .int x1_7]) (rest := [.int gr_size_42, .ref (ad 14)]) ⟨hx, hb, hml, hown, hts⟩ (c_Gr_rowsIn l dC dI ty ad ta H.size co_rows co_marks co_rowSets co_partners co_open co_count tr_kinds tr_lefts tr_rights tr_seconds tr_size (upd gr_kinds_42 (Int32.toNatClampNeg gr_size_42) (stV r7 (Int32.toNatClampNeg x3_42))) (upd gr_nodes_42 (Int32.toNatClampNeg gr_size_42) x1_7) gr_rowSets_42 (upd gr_firstStates_7 (Int32.toNatClampNeg x1_7) gr_size_7) gr_targetCounts gr_targets gr_stepScores gr_letterScores gr_size_42 tx_letters tx_length va_scores va_knownEnds hi_begins hi_lengths hi_scores hi_taken hi_count de_states de_begins de_lengths de_length (stV r7 (Int32.toNatClampNeg x3_42)) x1_7 r14 hc15) z_Gr_78 ⟨⟨rfl, rfl⟩, by decide, by decide⟩ hK hP hD hN hS hA (va_recv hK hP (ci := 3) (q0 := 11) rfl rfl) rfl hl.1 rfl (Nat.le_of_ble_eq_true rfl) d_Gr_layStates_83 ⟨Nat.zero_le _, Nat.zero_le _⟩) hS hD rfl hA (fun H locs hP hD hS => ?_)
              refine W.eq (g2 := F0 m 86 ls [.int r14, .int gr_size_42, .ref (ad 14)]) rfl ?_
              obtain ⟨hi16, hf⟩ := gdi hf
              refine va_iast hx hb hK hP hD hS 14 0 rfl rfl hi16 d_Gr_layStates_86 (fun H locs hP hD hS => ?_)
              have hP : va_P (dC, dI) classes (wX ty ad co_rows co_marks co_rowSets co_partners co_open co_count tr_kinds tr_lefts tr_rights tr_seconds tr_size (upd gr_kinds_42 (Int32.toNatClampNeg gr_size_42) (stV r7 (Int32.toNatClampNeg x3_42))) (upd gr_nodes_42 (Int32.toNatClampNeg gr_size_42) x1_7) (upd gr_rowSets_42 (Int32.toNatClampNeg gr_size_42) r14) (upd gr_firstStates_7 (Int32.toNatClampNeg x1_7) gr_size_7) gr_targetCounts gr_targets gr_stepScores gr_letterScores gr_size_42 tx_letters tx_length va_scores va_knownEnds hi_begins hi_lengths hi_scores hi_taken hi_count de_states de_begins de_lengths de_length) H := hP
              have hD : va_D A (wX ty ad co_rows co_marks co_rowSets co_partners co_open co_count tr_kinds tr_lefts tr_rights tr_seconds tr_size (upd gr_kinds_42 (Int32.toNatClampNeg gr_size_42) (stV r7 (Int32.toNatClampNeg x3_42))) (upd gr_nodes_42 (Int32.toNatClampNeg gr_size_42) x1_7) (upd gr_rowSets_42 (Int32.toNatClampNeg gr_size_42) r14) (upd gr_firstStates_7 (Int32.toNatClampNeg x1_7) gr_size_7) gr_targetCounts gr_targets gr_stepScores gr_letterScores gr_size_42 tx_letters tx_length va_scores va_knownEnds hi_begins hi_lengths hi_scores hi_taken hi_count de_states de_begins de_lengths de_length) := hD
              refine lv_aload_n hx hb d_Gr_layStates_87 rfl (lv_at hl 0 rfl) ?_
              refine lv_dup hx hb d_Gr_layStates_88 rfl ?_
              refine va_get (D := (dC, dI)) (ci := 3) (v := .int gr_size_42) (C := R_Gr) (T := F_Gr) (N := 11) hx hb hts iw_Gr hown hK hP 11 rfl rfl 10 (by decide) (hts _ m_142) (fun _ h9 => h9) rfl d_Gr_layStates_89 ?_
              refine lv_iconst (v := 1) hx hb d_Gr_layStates_92 (by decide) ?_
              refine lv_iadd hx hb d_Gr_layStates_93 ?_
              refine va_put (D := (dC, dI)) (ci := 3) (v := .int (gr_size_42 + (1 : Int32))) (ty := .int) (C := R_Gr) (T := F_Gr) (N := 11) hx hb hts iw_Gr t_Gr t_Gr_ok n_Gr hown hK hP hD hS 11 rfl rfl 10 (by decide) (hts _ m_142) (fun _ h9 => h9) rfl (by decide +kernel) rfl rfl (Nat.le_of_ble_eq_true rfl) d_Gr_layStates_94 (fun H locs hP hD hS => ?_)
              have hP : va_P (dC, dI) classes (wX ty ad co_rows co_marks co_rowSets co_partners co_open co_count tr_kinds tr_lefts tr_rights tr_seconds tr_size (upd gr_kinds_42 (Int32.toNatClampNeg gr_size_42) (stV r7 (Int32.toNatClampNeg x3_42))) (upd gr_nodes_42 (Int32.toNatClampNeg gr_size_42) x1_7) (upd gr_rowSets_42 (Int32.toNatClampNeg gr_size_42) r14) (upd gr_firstStates_7 (Int32.toNatClampNeg x1_7) gr_size_7) gr_targetCounts gr_targets gr_stepScores gr_letterScores (gr_size_42 + (1 : Int32)) tx_letters tx_length va_scores va_knownEnds hi_begins hi_lengths hi_scores hi_taken hi_count de_states de_begins de_lengths de_length) H := hP
              have hD : va_D A (wX ty ad co_rows co_marks co_rowSets co_partners co_open co_count tr_kinds tr_lefts tr_rights tr_seconds tr_size (upd gr_kinds_42 (Int32.toNatClampNeg gr_size_42) (stV r7 (Int32.toNatClampNeg x3_42))) (upd gr_nodes_42 (Int32.toNatClampNeg gr_size_42) x1_7) (upd gr_rowSets_42 (Int32.toNatClampNeg gr_size_42) r14) (upd gr_firstStates_7 (Int32.toNatClampNeg x1_7) gr_size_7) gr_targetCounts gr_targets gr_stepScores gr_letterScores (gr_size_42 + (1 : Int32)) tx_letters tx_length va_scores va_knownEnds hi_begins hi_lengths hi_scores hi_taken hi_count de_states de_begins de_lengths de_length) := hD
              refine lv_iinc (v := (x3_42 + (1 : Int32))) (lv' := [(3, .int (x3_42 + (1 : Int32))), (0, .ref (ad 11)), (1, .int x1_7), (2, .ref (ta r7))]) hx hb d_Gr_layStates_97 hl (k := 3) rfl rfl (by decide) rfl (fun ls hl => ?_)
              refine lv_goto (tgt := 42) hx hb d_Gr_layStates_100 (by decide) ?_
              exact ih42 (x3_42 + (1 : Int32)) (upd gr_kinds_42 (Int32.toNatClampNeg gr_size_42) (stV r7 (Int32.toNatClampNeg x3_42))) (upd gr_nodes_42 (Int32.toNatClampNeg gr_size_42) x1_7) (upd gr_rowSets_42 (Int32.toNatClampNeg gr_size_42) r14) (gr_size_42 + (1 : Int32)) _ _ _ hP hD hS (lv_sub hl [1, 2, 3, 0] rfl) hf
        exact L42 1000 (0 : Int32) gr_kinds_7 gr_nodes_7 gr_rowSets_7 gr_size_7 _ _ _ hP hD hS (lv_sub hl [2, 3, 1, 0] rfl) hf
  exact L7 1000 (0 : Int32) gr_kinds gr_nodes gr_rowSets gr_firstStates (0 : Int32) _ _ _ hP hD hS (lv_sub hl [1, 0] rfl) hf
def f_Fa_isInsert (a1 : Int32) : Option (Int32) := if a1 = (5 : Int32) then (some ((1 : Int32))) else (if a1 = (6 : Int32) then (some ((1 : Int32))) else (some ((0 : Int32))))
set_option maxHeartbeats 4000000 in
set_option maxRecDepth 100000 in
theorem c_Fa_isInsert (l : Launch) (dC : Nat → ClassId) (dI : Nat → Nat → Nat) (ty : Nat → ClassId) (ad : Nat → Nat) (ta : Nat → Nat) (sz : Nat) (co_rows : Int32) (co_marks : (Nat → Int32)) (co_rowSets : (Nat → Int32)) (co_partners : (Nat → Int32)) (co_open : (Nat → Int32)) (co_count : Int32) (tr_kinds : (Nat → Int32)) (tr_lefts : (Nat → Int32)) (tr_rights : (Nat → Int32)) (tr_seconds : (Nat → Int32)) (tr_size : Int32) (gr_kinds : (Nat → Int32)) (gr_nodes : (Nat → Int32)) (gr_rowSets : (Nat → Int32)) (gr_firstStates : (Nat → Int32)) (gr_targetCounts : (Nat → Int32)) (gr_targets : (Nat → Int32)) (gr_stepScores : (Nat → Int32)) (gr_letterScores : (Nat → Int32)) (gr_size : Int32) (tx_letters : (Nat → Int32)) (tx_length : Int32) (va_scores : (Nat → Int32)) (va_knownEnds : Int32) (hi_begins : (Nat → Int32)) (hi_lengths : (Nat → Int32)) (hi_scores : (Nat → Int32)) (hi_taken : (Nat → Int32)) (hi_count : Int32) (de_states : (Nat → Int32)) (de_begins : (Nat → Int32)) (de_lengths : (Nat → Int32)) (de_length : Int32) (a1 : Int32) (r0 : Int32) (hf : f_Fa_isInsert a1 = some (r0)) : Met l y_Fa_isInsert (.code y_Fa_isInsert prog_1_method_19_code 1 (some .boolean) :: gw) rm_Fa_isInsert (xPre ta (dC, dI) classes (tys3 ty) (wX ty ad co_rows co_marks co_rowSets co_partners co_open co_count tr_kinds tr_lefts tr_rights tr_seconds tr_size gr_kinds gr_nodes gr_rowSets gr_firstStates gr_targetCounts gr_targets gr_stepScores gr_letterScores gr_size tx_letters tx_length va_scores va_knownEnds hi_begins hi_lengths hi_scores hi_taken hi_count de_states de_begins de_lengths de_length) sz [.int a1]) (xQi (dC, dI) classes (wX ty ad co_rows co_marks co_rowSets co_partners co_open co_count tr_kinds tr_lefts tr_rights tr_seconds tr_size gr_kinds gr_nodes gr_rowSets gr_firstStates gr_targetCounts gr_targets gr_stepScores gr_letterScores gr_size tx_letters tx_length va_scores va_knownEnds hi_begins hi_lengths hi_scores hi_taken hi_count de_states de_begins de_lengths de_length) (wX ty ad co_rows co_marks co_rowSets co_partners co_open co_count tr_kinds tr_lefts tr_rights tr_seconds tr_size gr_kinds gr_nodes gr_rowSets gr_firstStates gr_targetCounts gr_targets gr_stepScores gr_letterScores gr_size tx_letters tx_length va_scores va_knownEnds hi_begins hi_lengths hi_scores hi_taken hi_count de_states de_begins de_lengths de_length) sz r0) 0 0 (va_A (wX ty ad co_rows co_marks co_rowSets co_partners co_open co_count tr_kinds tr_lefts tr_rights tr_seconds tr_size gr_kinds gr_nodes gr_rowSets gr_firstStates gr_targetCounts gr_targets gr_stepScores gr_letterScores gr_size tx_letters tx_length va_scores va_knownEnds hi_begins hi_lengths hi_scores hi_taken hi_count de_states de_begins de_lengths de_length) sz) := by
  refine xmet_z rfl (Nat.le_of_ble_eq_true rfl) ?_
  intro p e s m below meth c A ls Q hx hb hml hts hown hK hN hA hP hD hS hl hret
  replace hown : s.vm.findClass R_Fa = some m.cls := hown
  have hl : lv_has ls 1 [(0, .int a1)] := hl
  rw [f_Fa_isInsert] at hf
  obtain ⟨H, eH⟩ : ∃ H : Heap, H = s.heap := ⟨_, rfl⟩
  obtain ⟨locs, eL⟩ : ∃ L : List Loc, L = [] := ⟨_, rfl⟩
  have hP : va_P (dC, dI) classes (wX ty ad co_rows co_marks co_rowSets co_partners co_open co_count tr_kinds tr_lefts tr_rights tr_seconds tr_size gr_kinds gr_nodes gr_rowSets gr_firstStates gr_targetCounts gr_targets gr_stepScores gr_letterScores gr_size tx_letters tx_length va_scores va_knownEnds hi_begins hi_lengths hi_scores hi_taken hi_count de_states de_begins de_lengths de_length) H := by rw [eH]; exact hP
  have hS : va_S A s.heap H locs := by rw [eH, eL]; exact hS
  rw [← eL]
  suffices hgoal : W p l e rm_Fa_isInsert s m (List.toArray [.int a1]) below meth c H locs 0 0 Q (F0 m 0 ls []) by rw [eH] at hgoal; exact hgoal
  clear eH eL
  refine lv_iload_n hx hb d_Fa_isInsert_0 rfl (lv_at hl 0 rfl) ?_
  refine lv_iconst (v := 5) hx hb d_Fa_isInsert_1 (by decide) ?_
  refine lv_icmp_eq (tgt := 11) hx hb d_Fa_isInsert_2 (by decide) (fun c1 => ?_) (fun c1 => ?_)
  · have hf := xif_t c1 hf
    refine lv_iconst (v := 1) hx hb d_Fa_isInsert_11 (by decide) ?_
    refine lv_goto (tgt := 16) hx hb d_Fa_isInsert_12 (by decide) ?_
    obtain rfl := os1 hf
    exact hret H locs _ _ _ d_Fa_isInsert_16 rfl rfl hP hS
  · have hf := xif_f c1 hf
    refine lv_iload_n hx hb d_Fa_isInsert_5 rfl (lv_at hl 0 rfl) ?_
    refine lv_bipush (v := 6) hx hb d_Fa_isInsert_6 (by decide) ?_
    refine lv_icmp_ne (tgt := 15) hx hb d_Fa_isInsert_8 (by decide) (fun c2 => ?_) (fun c2 => ?_)
    · have hf := xif_f c2 hf
      refine lv_iconst (v := 0) hx hb d_Fa_isInsert_15 (by decide) ?_
      obtain rfl := os1 hf
      exact hret H locs _ _ _ d_Fa_isInsert_16 rfl rfl hP hS
    · have hf := xif_t c2 hf
      refine lv_iconst (v := 1) hx hb d_Fa_isInsert_11 (by decide) ?_
      refine lv_goto (tgt := 16) hx hb d_Fa_isInsert_12 (by decide) ?_
      obtain rfl := os1 hf
      exact hret H locs _ _ _ d_Fa_isInsert_16 rfl rfl hP hS
def f_Gr_addTarget (gr_targetCounts : (Nat → Int32)) (gr_targets : (Nat → Int32)) (a1 : Int32) (a2 : Int32) : Option ((Nat → Int32) × (Nat → Int32)) := gd (xin a1 43) (gd (xin ((a1 * (6 : Int32)) + (gr_targetCounts (Int32.toNatClampNeg a1))) 258) (gd (xin a1 43) (gd (xin a1 43) (some ((upd gr_targetCounts (Int32.toNatClampNeg a1) ((gr_targetCounts (Int32.toNatClampNeg a1)) + (1 : Int32))), (upd gr_targets (Int32.toNatClampNeg ((a1 * (6 : Int32)) + (gr_targetCounts (Int32.toNatClampNeg a1)))) a2))))))
set_option maxHeartbeats 4000000 in
set_option maxRecDepth 100000 in
theorem c_Gr_addTarget (l : Launch) (dC : Nat → ClassId) (dI : Nat → Nat → Nat) (ty : Nat → ClassId) (ad : Nat → Nat) (ta : Nat → Nat) (sz : Nat) (co_rows : Int32) (co_marks : (Nat → Int32)) (co_rowSets : (Nat → Int32)) (co_partners : (Nat → Int32)) (co_open : (Nat → Int32)) (co_count : Int32) (tr_kinds : (Nat → Int32)) (tr_lefts : (Nat → Int32)) (tr_rights : (Nat → Int32)) (tr_seconds : (Nat → Int32)) (tr_size : Int32) (gr_kinds : (Nat → Int32)) (gr_nodes : (Nat → Int32)) (gr_rowSets : (Nat → Int32)) (gr_firstStates : (Nat → Int32)) (gr_targetCounts : (Nat → Int32)) (gr_targets : (Nat → Int32)) (gr_stepScores : (Nat → Int32)) (gr_letterScores : (Nat → Int32)) (gr_size : Int32) (tx_letters : (Nat → Int32)) (tx_length : Int32) (va_scores : (Nat → Int32)) (va_knownEnds : Int32) (hi_begins : (Nat → Int32)) (hi_lengths : (Nat → Int32)) (hi_scores : (Nat → Int32)) (hi_taken : (Nat → Int32)) (hi_count : Int32) (de_states : (Nat → Int32)) (de_begins : (Nat → Int32)) (de_lengths : (Nat → Int32)) (de_length : Int32) (a1 : Int32) (a2 : Int32) (n_gr_targetCounts : (Nat → Int32)) (n_gr_targets : (Nat → Int32)) (hf : f_Gr_addTarget gr_targetCounts gr_targets a1 a2 = some (n_gr_targetCounts, n_gr_targets)) : Met l y_Gr_addTarget (.code y_Gr_addTarget prog_4_method_17_code 3 none :: gw) rm_Gr_addTarget (xPre ta (dC, dI) classes (tys3 ty) (wX ty ad co_rows co_marks co_rowSets co_partners co_open co_count tr_kinds tr_lefts tr_rights tr_seconds tr_size gr_kinds gr_nodes gr_rowSets gr_firstStates gr_targetCounts gr_targets gr_stepScores gr_letterScores gr_size tx_letters tx_length va_scores va_knownEnds hi_begins hi_lengths hi_scores hi_taken hi_count de_states de_begins de_lengths de_length) sz [.ref (ad 11), .int a1, .int a2]) (xQv (dC, dI) classes (wX ty ad co_rows co_marks co_rowSets co_partners co_open co_count tr_kinds tr_lefts tr_rights tr_seconds tr_size gr_kinds gr_nodes gr_rowSets gr_firstStates gr_targetCounts gr_targets gr_stepScores gr_letterScores gr_size tx_letters tx_length va_scores va_knownEnds hi_begins hi_lengths hi_scores hi_taken hi_count de_states de_begins de_lengths de_length) (wX ty ad co_rows co_marks co_rowSets co_partners co_open co_count tr_kinds tr_lefts tr_rights tr_seconds tr_size gr_kinds gr_nodes gr_rowSets gr_firstStates n_gr_targetCounts n_gr_targets gr_stepScores gr_letterScores gr_size tx_letters tx_length va_scores va_knownEnds hi_begins hi_lengths hi_scores hi_taken hi_count de_states de_begins de_lengths de_length) sz) 0 0 (va_A (wX ty ad co_rows co_marks co_rowSets co_partners co_open co_count tr_kinds tr_lefts tr_rights tr_seconds tr_size gr_kinds gr_nodes gr_rowSets gr_firstStates gr_targetCounts gr_targets gr_stepScores gr_letterScores gr_size tx_letters tx_length va_scores va_knownEnds hi_begins hi_lengths hi_scores hi_taken hi_count de_states de_begins de_lengths de_length) sz) := by
  refine xmet_v rfl (Nat.le_of_ble_eq_true rfl) ?_
  intro p e s m below meth c A ls Q hx hb hml hts hown hK hN hA hP hD hS hl hret
  replace hown : s.vm.findClass R_Gr = some m.cls := hown
  have hl : lv_has ls 3 [(0, .ref (ad 11)), (1, .int a1), (2, .int a2)] := hl
  rw [f_Gr_addTarget] at hf
  obtain ⟨H, eH⟩ : ∃ H : Heap, H = s.heap := ⟨_, rfl⟩
  obtain ⟨locs, eL⟩ : ∃ L : List Loc, L = [] := ⟨_, rfl⟩
  have hP : va_P (dC, dI) classes (wX ty ad co_rows co_marks co_rowSets co_partners co_open co_count tr_kinds tr_lefts tr_rights tr_seconds tr_size gr_kinds gr_nodes gr_rowSets gr_firstStates gr_targetCounts gr_targets gr_stepScores gr_letterScores gr_size tx_letters tx_length va_scores va_knownEnds hi_begins hi_lengths hi_scores hi_taken hi_count de_states de_begins de_lengths de_length) H := by rw [eH]; exact hP
  have hS : va_S A s.heap H locs := by rw [eH, eL]; exact hS
  rw [← eL]
  suffices hgoal : W p l e rm_Gr_addTarget s m (List.toArray [.ref (ad 11), .int a1, .int a2]) below meth c H locs 0 0 Q (F0 m 0 ls []) by rw [eH] at hgoal; exact hgoal
  clear eH eL
  refine lv_aload_n hx hb d_Gr_addTarget_0 rfl (lv_at hl 0 rfl) ?_
  refine va_get (D := (dC, dI)) (ci := 3) (v := .ref (ad 17)) (C := R_Gr) (T := F_Gr) (N := 11) hx hb hts iw_Gr hown hK hP 11 rfl rfl 7 (by decide) (hts _ m_139) (fun _ h9 => h9) rfl d_Gr_addTarget_1 ?_
  refine lv_iload_n hx hb d_Gr_addTarget_4 rfl (lv_at hl 1 rfl) ?_
  refine lv_bipush (v := 6) hx hb d_Gr_addTarget_5 (by decide) ?_
  refine lv_imul hx hb d_Gr_addTarget_7 ?_
  refine lv_aload_n hx hb d_Gr_addTarget_8 rfl (lv_at hl 0 rfl) ?_
  refine va_get (D := (dC, dI)) (ci := 3) (v := .ref (ad 16)) (C := R_Gr) (T := F_Gr) (N := 11) hx hb hts iw_Gr hown hK hP 11 rfl rfl 6 (by decide) (hts _ m_138) (fun _ h9 => h9) rfl d_Gr_addTarget_9 ?_
  refine lv_iload_n hx hb d_Gr_addTarget_12 rfl (lv_at hl 1 rfl) ?_
  obtain ⟨hi1, hf⟩ := gdi hf
  refine va_iald hx hb hK hP 16 0 rfl rfl hi1 d_Gr_addTarget_13 ?_
  refine lv_iadd hx hb d_Gr_addTarget_14 ?_
  refine lv_iload_n hx hb d_Gr_addTarget_15 rfl (lv_at hl 2 rfl) ?_
  obtain ⟨hi2, hf⟩ := gdi hf
  refine va_iast hx hb hK hP hD hS 17 0 rfl rfl hi2 d_Gr_addTarget_16 (fun H locs hP hD hS => ?_)
  have hP : va_P (dC, dI) classes (wX ty ad co_rows co_marks co_rowSets co_partners co_open co_count tr_kinds tr_lefts tr_rights tr_seconds tr_size gr_kinds gr_nodes gr_rowSets gr_firstStates gr_targetCounts (upd gr_targets (Int32.toNatClampNeg ((a1 * (6 : Int32)) + (gr_targetCounts (Int32.toNatClampNeg a1)))) a2) gr_stepScores gr_letterScores gr_size tx_letters tx_length va_scores va_knownEnds hi_begins hi_lengths hi_scores hi_taken hi_count de_states de_begins de_lengths de_length) H := hP
  have hD : va_D A (wX ty ad co_rows co_marks co_rowSets co_partners co_open co_count tr_kinds tr_lefts tr_rights tr_seconds tr_size gr_kinds gr_nodes gr_rowSets gr_firstStates gr_targetCounts (upd gr_targets (Int32.toNatClampNeg ((a1 * (6 : Int32)) + (gr_targetCounts (Int32.toNatClampNeg a1)))) a2) gr_stepScores gr_letterScores gr_size tx_letters tx_length va_scores va_knownEnds hi_begins hi_lengths hi_scores hi_taken hi_count de_states de_begins de_lengths de_length) := hD
  refine lv_aload_n hx hb d_Gr_addTarget_17 rfl (lv_at hl 0 rfl) ?_
  refine va_get (D := (dC, dI)) (ci := 3) (v := .ref (ad 16)) (C := R_Gr) (T := F_Gr) (N := 11) hx hb hts iw_Gr hown hK hP 11 rfl rfl 6 (by decide) (hts _ m_138) (fun _ h9 => h9) rfl d_Gr_addTarget_18 ?_
  refine lv_iload_n hx hb d_Gr_addTarget_21 rfl (lv_at hl 1 rfl) ?_
  refine lv_dup2_11 hx hb d_Gr_addTarget_22 rfl rfl ?_
  obtain ⟨hi3, hf⟩ := gdi hf
  refine va_iald hx hb hK hP 16 0 rfl rfl hi3 d_Gr_addTarget_23 ?_
  refine lv_iconst (v := 1) hx hb d_Gr_addTarget_24 (by decide) ?_
  refine lv_iadd hx hb d_Gr_addTarget_25 ?_
  obtain ⟨hi4, hf⟩ := gdi hf
  refine va_iast hx hb hK hP hD hS 16 0 rfl rfl hi4 d_Gr_addTarget_26 (fun H locs hP hD hS => ?_)
  have hP : va_P (dC, dI) classes (wX ty ad co_rows co_marks co_rowSets co_partners co_open co_count tr_kinds tr_lefts tr_rights tr_seconds tr_size gr_kinds gr_nodes gr_rowSets gr_firstStates (upd gr_targetCounts (Int32.toNatClampNeg a1) ((gr_targetCounts (Int32.toNatClampNeg a1)) + (1 : Int32))) (upd gr_targets (Int32.toNatClampNeg ((a1 * (6 : Int32)) + (gr_targetCounts (Int32.toNatClampNeg a1)))) a2) gr_stepScores gr_letterScores gr_size tx_letters tx_length va_scores va_knownEnds hi_begins hi_lengths hi_scores hi_taken hi_count de_states de_begins de_lengths de_length) H := hP
  have hD : va_D A (wX ty ad co_rows co_marks co_rowSets co_partners co_open co_count tr_kinds tr_lefts tr_rights tr_seconds tr_size gr_kinds gr_nodes gr_rowSets gr_firstStates (upd gr_targetCounts (Int32.toNatClampNeg a1) ((gr_targetCounts (Int32.toNatClampNeg a1)) + (1 : Int32))) (upd gr_targets (Int32.toNatClampNeg ((a1 * (6 : Int32)) + (gr_targetCounts (Int32.toNatClampNeg a1)))) a2) gr_stepScores gr_letterScores gr_size tx_letters tx_length va_scores va_knownEnds hi_begins hi_lengths hi_scores hi_taken hi_count de_states de_begins de_lengths de_length) := hD
  obtain ⟨rfl, rfl⟩ := os2 hf
  exact hret H locs _ _ d_Gr_addTarget_27 hP hS
def f_Gr_addStates_K8_48  (x4_8 : Int32) (gr_targetCounts_8 : (Nat → Int32)) (gr_targets_8 : (Nat → Int32)) : Option ((Nat → Int32) × (Nat → Int32)) := some (gr_targetCounts_8, gr_targets_8)
def f_Gr_addStates_L8 (gr_kinds : (Nat → Int32)) (gr_firstStates : (Nat → Int32)) (a1 : Int32) (a2 : Int32) (a3 : Int32) (k8_48 : (Int32 → (Nat → Int32) → (Nat → Int32) → Option ((Nat → Int32) × (Nat → Int32)))) : Nat → Int32 → (Nat → Int32) → (Nat → Int32) → Option ((Nat → Int32) × (Nat → Int32))
  | 0, _, _, _ => none
  | n8 + 1, x4_8, gr_targetCounts_8, gr_targets_8 => gd (xin (a2 + (1 : Int32)) 19) (if (gr_firstStates (Int32.toNatClampNeg (a2 + (1 : Int32)))) ≤ x4_8 then (k8_48 x4_8 gr_targetCounts_8 gr_targets_8) else (gd (xin x4_8 43) (ob1 (f_Fa_isInsert (gr_kinds (Int32.toNatClampNeg x4_8))) (fun r5 => if r5 = a3 then (ob2 (f_Gr_addTarget gr_targetCounts_8 gr_targets_8 a1 x4_8) (fun w8 w9 => (f_Gr_addStates_L8 gr_kinds gr_firstStates a1 a2 a3 k8_48 n8) (x4_8 + (1 : Int32)) w8 w9)) else ((f_Gr_addStates_L8 gr_kinds gr_firstStates a1 a2 a3 k8_48 n8) (x4_8 + (1 : Int32)) gr_targetCounts_8 gr_targets_8)))))
def f_Gr_addStates (gr_kinds : (Nat → Int32)) (gr_firstStates : (Nat → Int32)) (gr_targetCounts : (Nat → Int32)) (gr_targets : (Nat → Int32)) (a1 : Int32) (a2 : Int32) (a3 : Int32) : Option ((Nat → Int32) × (Nat → Int32)) := gd (xin a2 19) (f_Gr_addStates_L8 gr_kinds gr_firstStates a1 a2 a3 (f_Gr_addStates_K8_48) 1000 (gr_firstStates (Int32.toNatClampNeg a2)) gr_targetCounts gr_targets)
set_option maxHeartbeats 4000000 in
set_option maxRecDepth 100000 in
theorem c_Gr_addStates (l : Launch) (dC : Nat → ClassId) (dI : Nat → Nat → Nat) (ty : Nat → ClassId) (ad : Nat → Nat) (ta : Nat → Nat) (sz : Nat) (co_rows : Int32) (co_marks : (Nat → Int32)) (co_rowSets : (Nat → Int32)) (co_partners : (Nat → Int32)) (co_open : (Nat → Int32)) (co_count : Int32) (tr_kinds : (Nat → Int32)) (tr_lefts : (Nat → Int32)) (tr_rights : (Nat → Int32)) (tr_seconds : (Nat → Int32)) (tr_size : Int32) (gr_kinds : (Nat → Int32)) (gr_nodes : (Nat → Int32)) (gr_rowSets : (Nat → Int32)) (gr_firstStates : (Nat → Int32)) (gr_targetCounts : (Nat → Int32)) (gr_targets : (Nat → Int32)) (gr_stepScores : (Nat → Int32)) (gr_letterScores : (Nat → Int32)) (gr_size : Int32) (tx_letters : (Nat → Int32)) (tx_length : Int32) (va_scores : (Nat → Int32)) (va_knownEnds : Int32) (hi_begins : (Nat → Int32)) (hi_lengths : (Nat → Int32)) (hi_scores : (Nat → Int32)) (hi_taken : (Nat → Int32)) (hi_count : Int32) (de_states : (Nat → Int32)) (de_begins : (Nat → Int32)) (de_lengths : (Nat → Int32)) (de_length : Int32) (a1 : Int32) (a2 : Int32) (a3 : Int32) (n_gr_targetCounts : (Nat → Int32)) (n_gr_targets : (Nat → Int32)) (hf : f_Gr_addStates gr_kinds gr_firstStates gr_targetCounts gr_targets a1 a2 a3 = some (n_gr_targetCounts, n_gr_targets)) : Met l y_Gr_addStates (.code y_Gr_addStates prog_4_method_16_code 5 none :: gw) rm_Gr_addStates (xPre ta (dC, dI) classes (tys3 ty) (wX ty ad co_rows co_marks co_rowSets co_partners co_open co_count tr_kinds tr_lefts tr_rights tr_seconds tr_size gr_kinds gr_nodes gr_rowSets gr_firstStates gr_targetCounts gr_targets gr_stepScores gr_letterScores gr_size tx_letters tx_length va_scores va_knownEnds hi_begins hi_lengths hi_scores hi_taken hi_count de_states de_begins de_lengths de_length) sz [.ref (ad 11), .int a1, .int a2, .int a3]) (xQv (dC, dI) classes (wX ty ad co_rows co_marks co_rowSets co_partners co_open co_count tr_kinds tr_lefts tr_rights tr_seconds tr_size gr_kinds gr_nodes gr_rowSets gr_firstStates gr_targetCounts gr_targets gr_stepScores gr_letterScores gr_size tx_letters tx_length va_scores va_knownEnds hi_begins hi_lengths hi_scores hi_taken hi_count de_states de_begins de_lengths de_length) (wX ty ad co_rows co_marks co_rowSets co_partners co_open co_count tr_kinds tr_lefts tr_rights tr_seconds tr_size gr_kinds gr_nodes gr_rowSets gr_firstStates n_gr_targetCounts n_gr_targets gr_stepScores gr_letterScores gr_size tx_letters tx_length va_scores va_knownEnds hi_begins hi_lengths hi_scores hi_taken hi_count de_states de_begins de_lengths de_length) sz) 0 0 (va_A (wX ty ad co_rows co_marks co_rowSets co_partners co_open co_count tr_kinds tr_lefts tr_rights tr_seconds tr_size gr_kinds gr_nodes gr_rowSets gr_firstStates gr_targetCounts gr_targets gr_stepScores gr_letterScores gr_size tx_letters tx_length va_scores va_knownEnds hi_begins hi_lengths hi_scores hi_taken hi_count de_states de_begins de_lengths de_length) sz) := by
  refine xmet_v rfl (Nat.le_of_ble_eq_true rfl) ?_
  intro p e s m below meth c A ls Q hx hb hml hts hown hK hN hA hP hD hS hl hret
  replace hown : s.vm.findClass R_Gr = some m.cls := hown
  have hl : lv_has ls 5 [(0, .ref (ad 11)), (1, .int a1), (2, .int a2), (3, .int a3)] := hl
  rw [f_Gr_addStates] at hf
  obtain ⟨H, eH⟩ : ∃ H : Heap, H = s.heap := ⟨_, rfl⟩
  obtain ⟨locs, eL⟩ : ∃ L : List Loc, L = [] := ⟨_, rfl⟩
  have hP : va_P (dC, dI) classes (wX ty ad co_rows co_marks co_rowSets co_partners co_open co_count tr_kinds tr_lefts tr_rights tr_seconds tr_size gr_kinds gr_nodes gr_rowSets gr_firstStates gr_targetCounts gr_targets gr_stepScores gr_letterScores gr_size tx_letters tx_length va_scores va_knownEnds hi_begins hi_lengths hi_scores hi_taken hi_count de_states de_begins de_lengths de_length) H := by rw [eH]; exact hP
  have hS : va_S A s.heap H locs := by rw [eH, eL]; exact hS
  rw [← eL]
  suffices hgoal : W p l e rm_Gr_addStates s m (List.toArray [.ref (ad 11), .int a1, .int a2, .int a3]) below meth c H locs 0 0 Q (F0 m 0 ls []) by rw [eH] at hgoal; exact hgoal
  clear eH eL
  refine lv_aload_n hx hb d_Gr_addStates_0 rfl (lv_at hl 0 rfl) ?_
  refine va_get (D := (dC, dI)) (ci := 3) (v := .ref (ad 15)) (C := R_Gr) (T := F_Gr) (N := 11) hx hb hts iw_Gr hown hK hP 11 rfl rfl 5 (by decide) (hts _ m_137) (fun _ h9 => h9) rfl d_Gr_addStates_1 ?_
  refine lv_iload_n hx hb d_Gr_addStates_4 rfl (lv_at hl 2 rfl) ?_
  obtain ⟨hi1, hf⟩ := gdi hf
  refine va_iald hx hb hK hP 15 0 rfl rfl hi1 d_Gr_addStates_5 ?_
  refine lv_istore (lv' := [(4, .int (gr_firstStates (Int32.toNatClampNeg a2))), (0, .ref (ad 11)), (1, .int a1), (2, .int a2), (3, .int a3)]) hx hb d_Gr_addStates_6 hl (by decide) rfl (fun ls hl => ?_)
  have K8_48 : ∀ (x4_8 : Int32) (gr_targetCounts_8 : (Nat → Int32)) (gr_targets_8 : (Nat → Int32)) (H : Heap) (locs : List Loc) (ls : Array Slot), va_P (dC, dI) classes (wX ty ad co_rows co_marks co_rowSets co_partners co_open co_count tr_kinds tr_lefts tr_rights tr_seconds tr_size gr_kinds gr_nodes gr_rowSets gr_firstStates gr_targetCounts_8 gr_targets_8 gr_stepScores gr_letterScores gr_size tx_letters tx_length va_scores va_knownEnds hi_begins hi_lengths hi_scores hi_taken hi_count de_states de_begins de_lengths de_length) H → va_D A (wX ty ad co_rows co_marks co_rowSets co_partners co_open co_count tr_kinds tr_lefts tr_rights tr_seconds tr_size gr_kinds gr_nodes gr_rowSets gr_firstStates gr_targetCounts_8 gr_targets_8 gr_stepScores gr_letterScores gr_size tx_letters tx_length va_scores va_knownEnds hi_begins hi_lengths hi_scores hi_taken hi_count de_states de_begins de_lengths de_length) → va_S A s.heap H locs → lv_has ls 5 [] → f_Gr_addStates_K8_48 x4_8 gr_targetCounts_8 gr_targets_8 = some (n_gr_targetCounts, n_gr_targets) → W p l e rm_Gr_addStates s m (List.toArray [.ref (ad 11), .int a1, .int a2, .int a3]) below meth c H locs 0 0 Q (F0 m 48 ls []) := by
    intro x4_8 gr_targetCounts_8 gr_targets_8 H locs ls hP hD hS hl hf
    rw [f_Gr_addStates_K8_48] at hf
    obtain ⟨rfl, rfl⟩ := os2 hf
    exact hret H locs _ _ d_Gr_addStates_48 hP hS
  have L8 : ∀ (n8 : Nat), ∀ (x4_8 : Int32) (gr_targetCounts_8 : (Nat → Int32)) (gr_targets_8 : (Nat → Int32)) (H : Heap) (locs : List Loc) (ls : Array Slot), va_P (dC, dI) classes (wX ty ad co_rows co_marks co_rowSets co_partners co_open co_count tr_kinds tr_lefts tr_rights tr_seconds tr_size gr_kinds gr_nodes gr_rowSets gr_firstStates gr_targetCounts_8 gr_targets_8 gr_stepScores gr_letterScores gr_size tx_letters tx_length va_scores va_knownEnds hi_begins hi_lengths hi_scores hi_taken hi_count de_states de_begins de_lengths de_length) H → va_D A (wX ty ad co_rows co_marks co_rowSets co_partners co_open co_count tr_kinds tr_lefts tr_rights tr_seconds tr_size gr_kinds gr_nodes gr_rowSets gr_firstStates gr_targetCounts_8 gr_targets_8 gr_stepScores gr_letterScores gr_size tx_letters tx_length va_scores va_knownEnds hi_begins hi_lengths hi_scores hi_taken hi_count de_states de_begins de_lengths de_length) → va_S A s.heap H locs → lv_has ls 5 [(0, .ref (ad 11)), (1, .int a1), (2, .int a2), (3, .int a3), (4, .int x4_8)] → f_Gr_addStates_L8 gr_kinds gr_firstStates a1 a2 a3 (f_Gr_addStates_K8_48) n8 x4_8 gr_targetCounts_8 gr_targets_8 = some (n_gr_targetCounts, n_gr_targets) → W p l e rm_Gr_addStates s m (List.toArray [.ref (ad 11), .int a1, .int a2, .int a3]) below meth c H locs 0 0 Q (F0 m 8 ls []) := by
    intro n8
    induction n8 with
    | zero =>
      intro x4_8 gr_targetCounts_8 gr_targets_8 H locs ls hP hD hS hl hf
      rw [f_Gr_addStates_L8] at hf
      cases hf
    | succ n8 ih8 =>
      intro x4_8 gr_targetCounts_8 gr_targets_8 H locs ls hP hD hS hl hf
      rw [f_Gr_addStates_L8] at hf
      refine lv_iload hx hb d_Gr_addStates_8 (lv_at hl 4 rfl) ?_
      refine lv_aload_n hx hb d_Gr_addStates_10 rfl (lv_at hl 0 rfl) ?_
      refine va_get (D := (dC, dI)) (ci := 3) (v := .ref (ad 15)) (C := R_Gr) (T := F_Gr) (N := 11) hx hb hts iw_Gr hown hK hP 11 rfl rfl 5 (by decide) (hts _ m_137) (fun _ h9 => h9) rfl d_Gr_addStates_11 ?_
      refine lv_iload_n hx hb d_Gr_addStates_14 rfl (lv_at hl 2 rfl) ?_
      refine lv_iconst (v := 1) hx hb d_Gr_addStates_15 (by decide) ?_
      refine lv_iadd hx hb d_Gr_addStates_16 ?_
      obtain ⟨hi2, hf⟩ := gdi hf
      refine va_iald hx hb hK hP 15 0 rfl rfl hi2 d_Gr_addStates_17 ?_
      refine lv_icmp_ge (tgt := 48) hx hb d_Gr_addStates_18 (by decide) (fun c3 => ?_) (fun c3 => ?_)
      · have hf := xif_t c3 hf
        exact K8_48 x4_8 gr_targetCounts_8 gr_targets_8 _ _ _ hP hD hS (lv_sub hl [] rfl) hf
      · have hf := xif_f c3 hf
        refine lv_aload_n hx hb d_Gr_addStates_21 rfl (lv_at hl 0 rfl) ?_
        refine va_get (D := (dC, dI)) (ci := 3) (v := .ref (ad 12)) (C := R_Gr) (T := F_Gr) (N := 11) hx hb hts iw_Gr hown hK hP 11 rfl rfl 2 (by decide) (hts _ m_134) (fun _ h9 => h9) rfl d_Gr_addStates_22 ?_
        refine lv_iload hx hb d_Gr_addStates_25 (lv_at hl 4 rfl) ?_
        obtain ⟨hi4, hf⟩ := gdi hf
        refine va_iald hx hb hK hP 12 0 rfl rfl hi4 d_Gr_addStates_27 ?_
        obtain ⟨r5, hc6, hf⟩ := ob1_inv hf
        refine xk_i (xrunSN (As := [.int (gr_kinds (Int32.toNatClampNeg x4_8))]) (rest := []) ⟨hx, hb, hml, hown, hts⟩ (c_Fa_isInsert l dC dI ty ad ta H.size co_rows co_marks co_rowSets co_partners co_open co_count tr_kinds tr_lefts tr_rights tr_seconds tr_size gr_kinds gr_nodes gr_rowSets gr_firstStates gr_targetCounts_8 gr_targets_8 gr_stepScores gr_letterScores gr_size tx_letters tx_length va_scores va_knownEnds hi_begins hi_lengths hi_scores hi_taken hi_count de_states de_begins de_lengths de_length (gr_kinds (Int32.toNatClampNeg x4_8)) r5 hc6) z_Gr_107 ⟨⟨rfl, rfl⟩, by decide, by decide⟩ hK hP hD hN hS hA rfl hl.1 rfl (Nat.le_of_ble_eq_true rfl) d_Gr_addStates_28 ⟨Nat.zero_le _, Nat.zero_le _⟩) hS hD rfl hA (fun H locs hP hD hS => ?_)
        refine W.eq (g2 := F0 m 31 ls [.int r5]) rfl ?_
        refine lv_iload_n hx hb d_Gr_addStates_31 rfl (lv_at hl 3 rfl) ?_
        refine lv_icmp_ne (tgt := 42) hx hb d_Gr_addStates_32 (by decide) (fun c7 => ?_) (fun c7 => ?_)
        · have hf := xif_f c7 hf
          refine lv_iinc (v := (x4_8 + (1 : Int32))) (lv' := [(4, .int (x4_8 + (1 : Int32))), (0, .ref (ad 11)), (1, .int a1), (2, .int a2), (3, .int a3)]) hx hb d_Gr_addStates_42 hl (k := 4) rfl rfl (by decide) rfl (fun ls hl => ?_)
          refine lv_goto (tgt := 8) hx hb d_Gr_addStates_45 (by decide) ?_
          exact ih8 (x4_8 + (1 : Int32)) gr_targetCounts_8 gr_targets_8 _ _ _ hP hD hS (lv_sub hl [1, 2, 3, 4, 0] rfl) hf
        · have hf := xif_t c7 hf
          refine lv_aload_n hx hb d_Gr_addStates_35 rfl (lv_at hl 0 rfl) ?_
          refine lv_iload_n hx hb d_Gr_addStates_36 rfl (lv_at hl 1 rfl) ?_
          refine lv_iload hx hb d_Gr_addStates_37 (lv_at hl 4 rfl) ?_
          obtain ⟨w8, w9, hc10, hf⟩ := ob2_inv hf
          refine xk_v (xrunV (C := R_Gr) (As := [.int a1, .int x4_8]) (rest := []) ⟨hx, hb, hml, hown, hts⟩ (c_Gr_addTarget l dC dI ty ad ta H.size co_rows co_marks co_rowSets co_partners co_open co_count tr_kinds tr_lefts tr_rights tr_seconds tr_size gr_kinds gr_nodes gr_rowSets gr_firstStates gr_targetCounts_8 gr_targets_8 gr_stepScores gr_letterScores gr_size tx_letters tx_length va_scores va_knownEnds hi_begins hi_lengths hi_scores hi_taken hi_count de_states de_begins de_lengths de_length a1 x4_8 w8 w9 hc10) z_Gr_96 ⟨⟨rfl, rfl⟩, by decide, by decide⟩ hK hP hD hN hS hA (va_recv hK hP (ci := 3) (q0 := 11) rfl rfl) rfl hl.1 rfl (Nat.le_of_ble_eq_true rfl) d_Gr_addStates_39 ⟨Nat.zero_le _, Nat.zero_le _⟩) hS hD rfl hA (fun H locs hP hD hS => ?_)
          refine W.eq (g2 := F0 m 42 ls []) rfl ?_
          refine lv_iinc (v := (x4_8 + (1 : Int32))) (lv' := [(4, .int (x4_8 + (1 : Int32))), (0, .ref (ad 11)), (1, .int a1), (2, .int a2), (3, .int a3)]) hx hb d_Gr_addStates_42 hl (k := 4) rfl rfl (by decide) rfl (fun ls hl => ?_)
          refine lv_goto (tgt := 8) hx hb d_Gr_addStates_45 (by decide) ?_
          exact ih8 (x4_8 + (1 : Int32)) w8 w9 _ _ _ hP hD hS (lv_sub hl [1, 2, 3, 4, 0] rfl) hf
  exact L8 1000 (gr_firstStates (Int32.toNatClampNeg a2)) gr_targetCounts gr_targets _ _ _ hP hD hS (lv_sub hl [1, 2, 3, 4, 0] rfl) hf
def f_Tr_second (tr_seconds : (Nat → Int32)) (a1 : Int32) : Option (Int32) := gd (xin a1 18) (some ((tr_seconds (Int32.toNatClampNeg a1))))
set_option maxHeartbeats 4000000 in
set_option maxRecDepth 100000 in
theorem c_Tr_second (l : Launch) (dC : Nat → ClassId) (dI : Nat → Nat → Nat) (ty : Nat → ClassId) (ad : Nat → Nat) (ta : Nat → Nat) (sz : Nat) (co_rows : Int32) (co_marks : (Nat → Int32)) (co_rowSets : (Nat → Int32)) (co_partners : (Nat → Int32)) (co_open : (Nat → Int32)) (co_count : Int32) (tr_kinds : (Nat → Int32)) (tr_lefts : (Nat → Int32)) (tr_rights : (Nat → Int32)) (tr_seconds : (Nat → Int32)) (tr_size : Int32) (gr_kinds : (Nat → Int32)) (gr_nodes : (Nat → Int32)) (gr_rowSets : (Nat → Int32)) (gr_firstStates : (Nat → Int32)) (gr_targetCounts : (Nat → Int32)) (gr_targets : (Nat → Int32)) (gr_stepScores : (Nat → Int32)) (gr_letterScores : (Nat → Int32)) (gr_size : Int32) (tx_letters : (Nat → Int32)) (tx_length : Int32) (va_scores : (Nat → Int32)) (va_knownEnds : Int32) (hi_begins : (Nat → Int32)) (hi_lengths : (Nat → Int32)) (hi_scores : (Nat → Int32)) (hi_taken : (Nat → Int32)) (hi_count : Int32) (de_states : (Nat → Int32)) (de_begins : (Nat → Int32)) (de_lengths : (Nat → Int32)) (de_length : Int32) (a1 : Int32) (r0 : Int32) (hf : f_Tr_second tr_seconds a1 = some (r0)) : Met l y_Tr_second (.code y_Tr_second prog_7_method_6_code 2 (some .int) :: gw) rm_Tr_second (xPre ta (dC, dI) classes (tys3 ty) (wX ty ad co_rows co_marks co_rowSets co_partners co_open co_count tr_kinds tr_lefts tr_rights tr_seconds tr_size gr_kinds gr_nodes gr_rowSets gr_firstStates gr_targetCounts gr_targets gr_stepScores gr_letterScores gr_size tx_letters tx_length va_scores va_knownEnds hi_begins hi_lengths hi_scores hi_taken hi_count de_states de_begins de_lengths de_length) sz [.ref (ad 6), .int a1]) (xQi (dC, dI) classes (wX ty ad co_rows co_marks co_rowSets co_partners co_open co_count tr_kinds tr_lefts tr_rights tr_seconds tr_size gr_kinds gr_nodes gr_rowSets gr_firstStates gr_targetCounts gr_targets gr_stepScores gr_letterScores gr_size tx_letters tx_length va_scores va_knownEnds hi_begins hi_lengths hi_scores hi_taken hi_count de_states de_begins de_lengths de_length) (wX ty ad co_rows co_marks co_rowSets co_partners co_open co_count tr_kinds tr_lefts tr_rights tr_seconds tr_size gr_kinds gr_nodes gr_rowSets gr_firstStates gr_targetCounts gr_targets gr_stepScores gr_letterScores gr_size tx_letters tx_length va_scores va_knownEnds hi_begins hi_lengths hi_scores hi_taken hi_count de_states de_begins de_lengths de_length) sz r0) 0 0 (va_A (wX ty ad co_rows co_marks co_rowSets co_partners co_open co_count tr_kinds tr_lefts tr_rights tr_seconds tr_size gr_kinds gr_nodes gr_rowSets gr_firstStates gr_targetCounts gr_targets gr_stepScores gr_letterScores gr_size tx_letters tx_length va_scores va_knownEnds hi_begins hi_lengths hi_scores hi_taken hi_count de_states de_begins de_lengths de_length) sz) := by
  refine xmet_i rfl (Nat.le_of_ble_eq_true rfl) ?_
  intro p e s m below meth c A ls Q hx hb hml hts hown hK hN hA hP hD hS hl hret
  replace hown : s.vm.findClass R_Tr = some m.cls := hown
  have hl : lv_has ls 2 [(0, .ref (ad 6)), (1, .int a1)] := hl
  rw [f_Tr_second] at hf
  obtain ⟨H, eH⟩ : ∃ H : Heap, H = s.heap := ⟨_, rfl⟩
  obtain ⟨locs, eL⟩ : ∃ L : List Loc, L = [] := ⟨_, rfl⟩
  have hP : va_P (dC, dI) classes (wX ty ad co_rows co_marks co_rowSets co_partners co_open co_count tr_kinds tr_lefts tr_rights tr_seconds tr_size gr_kinds gr_nodes gr_rowSets gr_firstStates gr_targetCounts gr_targets gr_stepScores gr_letterScores gr_size tx_letters tx_length va_scores va_knownEnds hi_begins hi_lengths hi_scores hi_taken hi_count de_states de_begins de_lengths de_length) H := by rw [eH]; exact hP
  have hS : va_S A s.heap H locs := by rw [eH, eL]; exact hS
  rw [← eL]
  suffices hgoal : W p l e rm_Tr_second s m (List.toArray [.ref (ad 6), .int a1]) below meth c H locs 0 0 Q (F0 m 0 ls []) by rw [eH] at hgoal; exact hgoal
  clear eH eL
  refine lv_aload_n hx hb d_Tr_second_0 rfl (lv_at hl 0 rfl) ?_
  refine va_get (D := (dC, dI)) (ci := 2) (v := .ref (ad 10)) (C := R_Tr) (T := F_Tr) (N := 6) hx hb hts iw_Tr hown hK hP 6 rfl rfl 4 (by decide) (hts _ m_111) (fun _ h9 => h9) rfl d_Tr_second_1 ?_
  refine lv_iload_n hx hb d_Tr_second_4 rfl (lv_at hl 1 rfl) ?_
  obtain ⟨hi1, hf⟩ := gdi hf
  refine va_iald hx hb hK hP 10 0 rfl rfl hi1 d_Tr_second_5 ?_
  obtain rfl := os1 hf
  exact hret H locs _ _ _ d_Tr_second_6 rfl hP hS
def f_Gr_addTargets (tr_seconds : (Nat → Int32)) (gr_kinds : (Nat → Int32)) (gr_nodes : (Nat → Int32)) (gr_firstStates : (Nat → Int32)) (gr_targetCounts : (Nat → Int32)) (gr_targets : (Nat → Int32)) (a1 : Int32) : Option ((Nat → Int32) × (Nat → Int32)) := gd (xin a1 43) (gd (xin a1 43) (if (gr_kinds (Int32.toNatClampNeg a1)) = (6 : Int32) then (ob2 (f_Gr_addTarget gr_targetCounts gr_targets a1 a1) (fun w4 w5 => ob2 (f_Gr_addStates gr_kinds gr_firstStates w4 w5 a1 ((gr_nodes (Int32.toNatClampNeg a1)) + (1 : Int32)) (0 : Int32)) (fun w7 w8 => some (w7, w8)))) else (if (gr_kinds (Int32.toNatClampNeg a1)) = (7 : Int32) then (gd (xin ((gr_nodes (Int32.toNatClampNeg a1)) + (1 : Int32)) 19) (ob2 (f_Gr_addTarget gr_targetCounts gr_targets a1 (gr_firstStates (Int32.toNatClampNeg ((gr_nodes (Int32.toNatClampNeg a1)) + (1 : Int32))))) (fun w12 w13 => ob1 (f_Tr_second tr_seconds (gr_nodes (Int32.toNatClampNeg a1))) (fun r15 => gd (xin r15 19) (ob2 (f_Gr_addTarget w12 w13 a1 (gr_firstStates (Int32.toNatClampNeg r15))) (fun w18 w19 => some (w18, w19))))))) else (if (gr_kinds (Int32.toNatClampNeg a1)) = (8 : Int32) then (some (gr_targetCounts, gr_targets)) else (ob2 (f_Gr_addStates gr_kinds gr_firstStates gr_targetCounts gr_targets a1 (gr_nodes (Int32.toNatClampNeg a1)) (1 : Int32)) (fun w22 w23 => ob2 (f_Gr_addStates gr_kinds gr_firstStates w22 w23 a1 ((gr_nodes (Int32.toNatClampNeg a1)) + (1 : Int32)) (0 : Int32)) (fun w25 w26 => some (w25, w26))))))))
set_option maxHeartbeats 4000000 in
set_option maxRecDepth 100000 in
theorem c_Gr_addTargets (l : Launch) (dC : Nat → ClassId) (dI : Nat → Nat → Nat) (ty : Nat → ClassId) (ad : Nat → Nat) (ta : Nat → Nat) (sz : Nat) (co_rows : Int32) (co_marks : (Nat → Int32)) (co_rowSets : (Nat → Int32)) (co_partners : (Nat → Int32)) (co_open : (Nat → Int32)) (co_count : Int32) (tr_kinds : (Nat → Int32)) (tr_lefts : (Nat → Int32)) (tr_rights : (Nat → Int32)) (tr_seconds : (Nat → Int32)) (tr_size : Int32) (gr_kinds : (Nat → Int32)) (gr_nodes : (Nat → Int32)) (gr_rowSets : (Nat → Int32)) (gr_firstStates : (Nat → Int32)) (gr_targetCounts : (Nat → Int32)) (gr_targets : (Nat → Int32)) (gr_stepScores : (Nat → Int32)) (gr_letterScores : (Nat → Int32)) (gr_size : Int32) (tx_letters : (Nat → Int32)) (tx_length : Int32) (va_scores : (Nat → Int32)) (va_knownEnds : Int32) (hi_begins : (Nat → Int32)) (hi_lengths : (Nat → Int32)) (hi_scores : (Nat → Int32)) (hi_taken : (Nat → Int32)) (hi_count : Int32) (de_states : (Nat → Int32)) (de_begins : (Nat → Int32)) (de_lengths : (Nat → Int32)) (de_length : Int32) (a1 : Int32) (n_gr_targetCounts : (Nat → Int32)) (n_gr_targets : (Nat → Int32)) (hf : f_Gr_addTargets tr_seconds gr_kinds gr_nodes gr_firstStates gr_targetCounts gr_targets a1 = some (n_gr_targetCounts, n_gr_targets)) : Met l y_Gr_addTargets (.code y_Gr_addTargets prog_4_method_15_code 3 none :: gw) rm_Gr_addTargets (xPre ta (dC, dI) classes (tys3 ty) (wX ty ad co_rows co_marks co_rowSets co_partners co_open co_count tr_kinds tr_lefts tr_rights tr_seconds tr_size gr_kinds gr_nodes gr_rowSets gr_firstStates gr_targetCounts gr_targets gr_stepScores gr_letterScores gr_size tx_letters tx_length va_scores va_knownEnds hi_begins hi_lengths hi_scores hi_taken hi_count de_states de_begins de_lengths de_length) sz [.ref (ad 11), .int a1]) (xQv (dC, dI) classes (wX ty ad co_rows co_marks co_rowSets co_partners co_open co_count tr_kinds tr_lefts tr_rights tr_seconds tr_size gr_kinds gr_nodes gr_rowSets gr_firstStates gr_targetCounts gr_targets gr_stepScores gr_letterScores gr_size tx_letters tx_length va_scores va_knownEnds hi_begins hi_lengths hi_scores hi_taken hi_count de_states de_begins de_lengths de_length) (wX ty ad co_rows co_marks co_rowSets co_partners co_open co_count tr_kinds tr_lefts tr_rights tr_seconds tr_size gr_kinds gr_nodes gr_rowSets gr_firstStates n_gr_targetCounts n_gr_targets gr_stepScores gr_letterScores gr_size tx_letters tx_length va_scores va_knownEnds hi_begins hi_lengths hi_scores hi_taken hi_count de_states de_begins de_lengths de_length) sz) 0 0 (va_A (wX ty ad co_rows co_marks co_rowSets co_partners co_open co_count tr_kinds tr_lefts tr_rights tr_seconds tr_size gr_kinds gr_nodes gr_rowSets gr_firstStates gr_targetCounts gr_targets gr_stepScores gr_letterScores gr_size tx_letters tx_length va_scores va_knownEnds hi_begins hi_lengths hi_scores hi_taken hi_count de_states de_begins de_lengths de_length) sz) := by
  refine xmet_v rfl (Nat.le_of_ble_eq_true rfl) ?_
  intro p e s m below meth c A ls Q hx hb hml hts hown hK hN hA hP hD hS hl hret
  replace hown : s.vm.findClass R_Gr = some m.cls := hown
  have hl : lv_has ls 3 [(0, .ref (ad 11)), (1, .int a1)] := hl
  rw [f_Gr_addTargets] at hf
  obtain ⟨H, eH⟩ : ∃ H : Heap, H = s.heap := ⟨_, rfl⟩
  obtain ⟨locs, eL⟩ : ∃ L : List Loc, L = [] := ⟨_, rfl⟩
  have hP : va_P (dC, dI) classes (wX ty ad co_rows co_marks co_rowSets co_partners co_open co_count tr_kinds tr_lefts tr_rights tr_seconds tr_size gr_kinds gr_nodes gr_rowSets gr_firstStates gr_targetCounts gr_targets gr_stepScores gr_letterScores gr_size tx_letters tx_length va_scores va_knownEnds hi_begins hi_lengths hi_scores hi_taken hi_count de_states de_begins de_lengths de_length) H := by rw [eH]; exact hP
  have hS : va_S A s.heap H locs := by rw [eH, eL]; exact hS
  rw [← eL]
  suffices hgoal : W p l e rm_Gr_addTargets s m (List.toArray [.ref (ad 11), .int a1]) below meth c H locs 0 0 Q (F0 m 0 ls []) by rw [eH] at hgoal; exact hgoal
  clear eH eL
  refine lv_aload_n hx hb d_Gr_addTargets_0 rfl (lv_at hl 0 rfl) ?_
  refine va_get (D := (dC, dI)) (ci := 3) (v := .ref (ad 13)) (C := R_Gr) (T := F_Gr) (N := 11) hx hb hts iw_Gr hown hK hP 11 rfl rfl 3 (by decide) (hts _ m_135) (fun _ h9 => h9) rfl d_Gr_addTargets_1 ?_
  refine lv_iload_n hx hb d_Gr_addTargets_4 rfl (lv_at hl 1 rfl) ?_
  obtain ⟨hi1, hf⟩ := gdi hf
  refine va_iald hx hb hK hP 13 0 rfl rfl hi1 d_Gr_addTargets_5 ?_
  refine lv_istore_n (lv' := [(2, .int (gr_nodes (Int32.toNatClampNeg a1))), (0, .ref (ad 11)), (1, .int a1)]) hx hb d_Gr_addTargets_6 rfl hl (by decide) rfl (fun ls hl => ?_)
  refine lv_aload_n hx hb d_Gr_addTargets_7 rfl (lv_at hl 1 rfl) ?_
  refine va_get (D := (dC, dI)) (ci := 3) (v := .ref (ad 12)) (C := R_Gr) (T := F_Gr) (N := 11) hx hb hts iw_Gr hown hK hP 11 rfl rfl 2 (by decide) (hts _ m_134) (fun _ h9 => h9) rfl d_Gr_addTargets_8 ?_
  refine lv_iload_n hx hb d_Gr_addTargets_11 rfl (lv_at hl 2 rfl) ?_
  obtain ⟨hi2, hf⟩ := gdi hf
  refine va_iald hx hb hK hP 12 0 rfl rfl hi2 d_Gr_addTargets_12 ?_
  by_cases c3 : (gr_kinds (Int32.toNatClampNeg a1)) = (6 : Int32)
  · have hf := xif_t c3 hf
    refine lv_tableIn (off := 64) (tgt := 77) hx hb d_Gr_addTargets_13 (by rw [c3]; decide) (by rw [c3]; decide) (by rw [c3]; rfl) (by decide) ?_
    refine lv_aload_n hx hb d_Gr_addTargets_77 rfl (lv_at hl 1 rfl) ?_
    refine lv_iload_n hx hb d_Gr_addTargets_78 rfl (lv_at hl 2 rfl) ?_
    refine lv_iload_n hx hb d_Gr_addTargets_79 rfl (lv_at hl 2 rfl) ?_
    obtain ⟨w4, w5, hc6, hf⟩ := ob2_inv hf
    refine xk_v (xrunV (C := R_Gr) (As := [.int a1, .int a1]) (rest := []) ⟨hx, hb, hml, hown, hts⟩ (c_Gr_addTarget l dC dI ty ad ta H.size co_rows co_marks co_rowSets co_partners co_open co_count tr_kinds tr_lefts tr_rights tr_seconds tr_size gr_kinds gr_nodes gr_rowSets gr_firstStates gr_targetCounts gr_targets gr_stepScores gr_letterScores gr_size tx_letters tx_length va_scores va_knownEnds hi_begins hi_lengths hi_scores hi_taken hi_count de_states de_begins de_lengths de_length a1 a1 w4 w5 hc6) z_Gr_96 ⟨⟨rfl, rfl⟩, by decide, by decide⟩ hK hP hD hN hS hA (va_recv hK hP (ci := 3) (q0 := 11) rfl rfl) rfl hl.1 rfl (Nat.le_of_ble_eq_true rfl) d_Gr_addTargets_80 ⟨Nat.zero_le _, Nat.zero_le _⟩) hS hD rfl hA (fun H locs hP hD hS => ?_)
    refine W.eq (g2 := F0 m 83 ls []) rfl ?_
    refine lv_aload_n hx hb d_Gr_addTargets_83 rfl (lv_at hl 1 rfl) ?_
    refine lv_iload_n hx hb d_Gr_addTargets_84 rfl (lv_at hl 2 rfl) ?_
    refine lv_iload_n hx hb d_Gr_addTargets_85 rfl (lv_at hl 0 rfl) ?_
    refine lv_iconst (v := 1) hx hb d_Gr_addTargets_86 (by decide) ?_
    refine lv_iadd hx hb d_Gr_addTargets_87 ?_
    refine lv_iconst (v := 0) hx hb d_Gr_addTargets_88 (by decide) ?_
    obtain ⟨w7, w8, hc9, hf⟩ := ob2_inv hf
    refine xk_v (xrunV (C := R_Gr) (As := [.int a1, .int ((gr_nodes (Int32.toNatClampNeg a1)) + (1 : Int32)), .int (0 : Int32)]) (rest := []) ⟨hx, hb, hml, hown, hts⟩ (c_Gr_addStates l dC dI ty ad ta H.size co_rows co_marks co_rowSets co_partners co_open co_count tr_kinds tr_lefts tr_rights tr_seconds tr_size gr_kinds gr_nodes gr_rowSets gr_firstStates w4 w5 gr_stepScores gr_letterScores gr_size tx_letters tx_length va_scores va_knownEnds hi_begins hi_lengths hi_scores hi_taken hi_count de_states de_begins de_lengths de_length a1 ((gr_nodes (Int32.toNatClampNeg a1)) + (1 : Int32)) (0 : Int32) w7 w8 hc9) z_Gr_103 ⟨⟨rfl, rfl⟩, by decide, by decide⟩ hK hP hD hN hS hA (va_recv hK hP (ci := 3) (q0 := 11) rfl rfl) rfl hl.1 rfl (Nat.le_of_ble_eq_true rfl) d_Gr_addTargets_89 ⟨Nat.zero_le _, Nat.zero_le _⟩) hS hD rfl hA (fun H locs hP hD hS => ?_)
    refine W.eq (g2 := F0 m 92 ls []) rfl ?_
    refine lv_goto (tgt := 111) hx hb d_Gr_addTargets_92 (by decide) ?_
    obtain ⟨rfl, rfl⟩ := os2 hf
    exact hret H locs _ _ d_Gr_addTargets_111 hP hS
  · have hf := xif_f c3 hf
    by_cases c10 : (gr_kinds (Int32.toNatClampNeg a1)) = (7 : Int32)
    · have hf := xif_t c10 hf
      refine lv_tableIn (off := 30) (tgt := 43) hx hb d_Gr_addTargets_13 (by rw [c10]; decide) (by rw [c10]; decide) (by rw [c10]; rfl) (by decide) ?_
      refine lv_aload_n hx hb d_Gr_addTargets_43 rfl (lv_at hl 1 rfl) ?_
      refine lv_iload_n hx hb d_Gr_addTargets_44 rfl (lv_at hl 2 rfl) ?_
      refine lv_aload_n hx hb d_Gr_addTargets_45 rfl (lv_at hl 1 rfl) ?_
      refine va_get (D := (dC, dI)) (ci := 3) (v := .ref (ad 15)) (C := R_Gr) (T := F_Gr) (N := 11) hx hb hts iw_Gr hown hK hP 11 rfl rfl 5 (by decide) (hts _ m_137) (fun _ h9 => h9) rfl d_Gr_addTargets_46 ?_
      refine lv_iload_n hx hb d_Gr_addTargets_49 rfl (lv_at hl 0 rfl) ?_
      refine lv_iconst (v := 1) hx hb d_Gr_addTargets_50 (by decide) ?_
      refine lv_iadd hx hb d_Gr_addTargets_51 ?_
      obtain ⟨hi11, hf⟩ := gdi hf
      refine va_iald hx hb hK hP 15 0 rfl rfl hi11 d_Gr_addTargets_52 ?_
      obtain ⟨w12, w13, hc14, hf⟩ := ob2_inv hf
      refine xk_v (xrunV (C := R_Gr) (As := [.int a1, .int (gr_firstStates (Int32.toNatClampNeg ((gr_nodes (Int32.toNatClampNeg a1)) + (1 : Int32))))]) (rest := []) ⟨hx, hb, hml, hown, hts⟩ (c_Gr_addTarget l dC dI ty ad ta H.size co_rows co_marks co_rowSets co_partners co_open co_count tr_kinds tr_lefts tr_rights tr_seconds tr_size gr_kinds gr_nodes gr_rowSets gr_firstStates gr_targetCounts gr_targets gr_stepScores gr_letterScores gr_size tx_letters tx_length va_scores va_knownEnds hi_begins hi_lengths hi_scores hi_taken hi_count de_states de_begins de_lengths de_length a1 (gr_firstStates (Int32.toNatClampNeg ((gr_nodes (Int32.toNatClampNeg a1)) + (1 : Int32)))) w12 w13 hc14) z_Gr_96 ⟨⟨rfl, rfl⟩, by decide, by decide⟩ hK hP hD hN hS hA (va_recv hK hP (ci := 3) (q0 := 11) rfl rfl) rfl hl.1 rfl (Nat.le_of_ble_eq_true rfl) d_Gr_addTargets_53 ⟨Nat.zero_le _, Nat.zero_le _⟩) hS hD rfl hA (fun H locs hP hD hS => ?_)
      refine W.eq (g2 := F0 m 56 ls []) rfl ?_
      refine lv_aload_n hx hb d_Gr_addTargets_56 rfl (lv_at hl 1 rfl) ?_
      refine lv_iload_n hx hb d_Gr_addTargets_57 rfl (lv_at hl 2 rfl) ?_
      refine lv_aload_n hx hb d_Gr_addTargets_58 rfl (lv_at hl 1 rfl) ?_
      refine va_get (D := (dC, dI)) (ci := 3) (v := .ref (ad 15)) (C := R_Gr) (T := F_Gr) (N := 11) hx hb hts iw_Gr hown hK hP 11 rfl rfl 5 (by decide) (hts _ m_137) (fun _ h9 => h9) rfl d_Gr_addTargets_59 ?_
      refine lv_aload_n hx hb d_Gr_addTargets_62 rfl (lv_at hl 1 rfl) ?_
      refine va_get (D := (dC, dI)) (ci := 3) (v := .ref (ad 6)) (C := R_Gr) (T := F_Gr) (N := 11) hx hb hts iw_Gr hown hK hP 11 rfl rfl 1 (by decide) (hts _ m_133) (fun _ h9 => h9) rfl d_Gr_addTargets_63 ?_
      refine lv_iload_n hx hb d_Gr_addTargets_66 rfl (lv_at hl 0 rfl) ?_
      obtain ⟨r15, hc16, hf⟩ := ob1_inv hf
      refine xk_i (xrunV (C := R_Tr) (As := [.int (gr_nodes (Int32.toNatClampNeg a1))]) (rest := [.ref (ad 15), .int a1, .ref (ad 11)]) ⟨hx, hb, hml, hown, hts⟩ (c_Tr_second l dC dI ty ad ta H.size co_rows co_marks co_rowSets co_partners co_open co_count tr_kinds tr_lefts tr_rights tr_seconds tr_size gr_kinds gr_nodes gr_rowSets gr_firstStates w12 w13 gr_stepScores gr_letterScores gr_size tx_letters tx_length va_scores va_knownEnds hi_begins hi_lengths hi_scores hi_taken hi_count de_states de_begins de_lengths de_length (gr_nodes (Int32.toNatClampNeg a1)) r15 hc16) z_Gr_100 ⟨⟨rfl, rfl⟩, by decide, by decide⟩ hK hP hD hN hS hA (va_recv hK hP (ci := 2) (q0 := 6) rfl rfl) rfl hl.1 rfl (Nat.le_of_ble_eq_true rfl) d_Gr_addTargets_67 ⟨Nat.zero_le _, Nat.zero_le _⟩) hS hD rfl hA (fun H locs hP hD hS => ?_)
      refine W.eq (g2 := F0 m 70 ls [.int r15, .ref (ad 15), .int a1, .ref (ad 11)]) rfl ?_
      obtain ⟨hi17, hf⟩ := gdi hf
      refine va_iald hx hb hK hP 15 0 rfl rfl hi17 d_Gr_addTargets_70 ?_
      obtain ⟨w18, w19, hc20, hf⟩ := ob2_inv hf
      refine xk_v (xrunV (C := R_Gr) (As := [.int a1, .int (gr_firstStates (Int32.toNatClampNeg r15))]) (rest := []) ⟨hx, hb, hml, hown, hts⟩ (c_Gr_addTarget l dC dI ty ad ta H.size co_rows co_marks co_rowSets co_partners co_open co_count tr_kinds tr_lefts tr_rights tr_seconds tr_size gr_kinds gr_nodes gr_rowSets gr_firstStates w12 w13 gr_stepScores gr_letterScores gr_size tx_letters tx_length va_scores va_knownEnds hi_begins hi_lengths hi_scores hi_taken hi_count de_states de_begins de_lengths de_length a1 (gr_firstStates (Int32.toNatClampNeg r15)) w18 w19 hc20) z_Gr_96 ⟨⟨rfl, rfl⟩, by decide, by decide⟩ hK hP hD hN hS hA (va_recv hK hP (ci := 3) (q0 := 11) rfl rfl) rfl hl.1 rfl (Nat.le_of_ble_eq_true rfl) d_Gr_addTargets_71 ⟨Nat.zero_le _, Nat.zero_le _⟩) hS hD rfl hA (fun H locs hP hD hS => ?_)
      refine W.eq (g2 := F0 m 74 ls []) rfl ?_
      refine lv_goto (tgt := 111) hx hb d_Gr_addTargets_74 (by decide) ?_
      obtain ⟨rfl, rfl⟩ := os2 hf
      exact hret H locs _ _ d_Gr_addTargets_111 hP hS
    · have hf := xif_f c10 hf
      by_cases c21 : (gr_kinds (Int32.toNatClampNeg a1)) = (8 : Int32)
      · have hf := xif_t c21 hf
        refine lv_tableIn (off := 27) (tgt := 40) hx hb d_Gr_addTargets_13 (by rw [c21]; decide) (by rw [c21]; decide) (by rw [c21]; rfl) (by decide) ?_
        refine lv_goto (tgt := 111) hx hb d_Gr_addTargets_40 (by decide) ?_
        obtain ⟨rfl, rfl⟩ := os2 hf
        exact hret H locs _ _ d_Gr_addTargets_111 hP hS
      · have hf := xif_f c21 hf
        have qc3 := lv_neT (a := 6) c3 rfl
        have qc10 := lv_neT (a := 7) c10 rfl
        have qc21 := lv_neT (a := 8) c21 rfl
        refine lv_tableOut (tgt := 95) hx hb d_Gr_addTargets_13 (by omega) (by decide) ?_
        refine lv_aload_n hx hb d_Gr_addTargets_95 rfl (lv_at hl 1 rfl) ?_
        refine lv_iload_n hx hb d_Gr_addTargets_96 rfl (lv_at hl 2 rfl) ?_
        refine lv_iload_n hx hb d_Gr_addTargets_97 rfl (lv_at hl 0 rfl) ?_
        refine lv_iconst (v := 1) hx hb d_Gr_addTargets_98 (by decide) ?_
        obtain ⟨w22, w23, hc24, hf⟩ := ob2_inv hf
        refine xk_v (xrunV (C := R_Gr) (As := [.int a1, .int (gr_nodes (Int32.toNatClampNeg a1)), .int (1 : Int32)]) (rest := []) ⟨hx, hb, hml, hown, hts⟩ (c_Gr_addStates l dC dI ty ad ta H.size co_rows co_marks co_rowSets co_partners co_open co_count tr_kinds tr_lefts tr_rights tr_seconds tr_size gr_kinds gr_nodes gr_rowSets gr_firstStates gr_targetCounts gr_targets gr_stepScores gr_letterScores gr_size tx_letters tx_length va_scores va_knownEnds hi_begins hi_lengths hi_scores hi_taken hi_count de_states de_begins de_lengths de_length a1 (gr_nodes (Int32.toNatClampNeg a1)) (1 : Int32) w22 w23 hc24) z_Gr_103 ⟨⟨rfl, rfl⟩, by decide, by decide⟩ hK hP hD hN hS hA (va_recv hK hP (ci := 3) (q0 := 11) rfl rfl) rfl hl.1 rfl (Nat.le_of_ble_eq_true rfl) d_Gr_addTargets_99 ⟨Nat.zero_le _, Nat.zero_le _⟩) hS hD rfl hA (fun H locs hP hD hS => ?_)
        refine W.eq (g2 := F0 m 102 ls []) rfl ?_
        refine lv_aload_n hx hb d_Gr_addTargets_102 rfl (lv_at hl 1 rfl) ?_
        refine lv_iload_n hx hb d_Gr_addTargets_103 rfl (lv_at hl 2 rfl) ?_
        refine lv_iload_n hx hb d_Gr_addTargets_104 rfl (lv_at hl 0 rfl) ?_
        refine lv_iconst (v := 1) hx hb d_Gr_addTargets_105 (by decide) ?_
        refine lv_iadd hx hb d_Gr_addTargets_106 ?_
        refine lv_iconst (v := 0) hx hb d_Gr_addTargets_107 (by decide) ?_
        obtain ⟨w25, w26, hc27, hf⟩ := ob2_inv hf
        refine xk_v (xrunV (C := R_Gr) (As := [.int a1, .int ((gr_nodes (Int32.toNatClampNeg a1)) + (1 : Int32)), .int (0 : Int32)]) (rest := []) ⟨hx, hb, hml, hown, hts⟩ (c_Gr_addStates l dC dI ty ad ta H.size co_rows co_marks co_rowSets co_partners co_open co_count tr_kinds tr_lefts tr_rights tr_seconds tr_size gr_kinds gr_nodes gr_rowSets gr_firstStates w22 w23 gr_stepScores gr_letterScores gr_size tx_letters tx_length va_scores va_knownEnds hi_begins hi_lengths hi_scores hi_taken hi_count de_states de_begins de_lengths de_length a1 ((gr_nodes (Int32.toNatClampNeg a1)) + (1 : Int32)) (0 : Int32) w25 w26 hc27) z_Gr_103 ⟨⟨rfl, rfl⟩, by decide, by decide⟩ hK hP hD hN hS hA (va_recv hK hP (ci := 3) (q0 := 11) rfl rfl) rfl hl.1 rfl (Nat.le_of_ble_eq_true rfl) d_Gr_addTargets_108 ⟨Nat.zero_le _, Nat.zero_le _⟩) hS hD rfl hA (fun H locs hP hD hS => ?_)
        refine W.eq (g2 := F0 m 111 ls []) rfl ?_
        obtain ⟨rfl, rfl⟩ := os2 hf
        exact hret H locs _ _ d_Gr_addTargets_111 hP hS
def f_Ig_bitCount (a1 : Int32) : Option (Int32) := some (((((((((a1 - ((ushr32 a1 (1 : Int32)) &&& (1431655765 : Int32))) &&& (858993459 : Int32)) + ((ushr32 (a1 - ((ushr32 a1 (1 : Int32)) &&& (1431655765 : Int32))) (2 : Int32)) &&& (858993459 : Int32))) + (ushr32 (((a1 - ((ushr32 a1 (1 : Int32)) &&& (1431655765 : Int32))) &&& (858993459 : Int32)) + ((ushr32 (a1 - ((ushr32 a1 (1 : Int32)) &&& (1431655765 : Int32))) (2 : Int32)) &&& (858993459 : Int32))) (4 : Int32))) &&& (252645135 : Int32)) + (ushr32 (((((a1 - ((ushr32 a1 (1 : Int32)) &&& (1431655765 : Int32))) &&& (858993459 : Int32)) + ((ushr32 (a1 - ((ushr32 a1 (1 : Int32)) &&& (1431655765 : Int32))) (2 : Int32)) &&& (858993459 : Int32))) + (ushr32 (((a1 - ((ushr32 a1 (1 : Int32)) &&& (1431655765 : Int32))) &&& (858993459 : Int32)) + ((ushr32 (a1 - ((ushr32 a1 (1 : Int32)) &&& (1431655765 : Int32))) (2 : Int32)) &&& (858993459 : Int32))) (4 : Int32))) &&& (252645135 : Int32)) (8 : Int32))) + (ushr32 ((((((a1 - ((ushr32 a1 (1 : Int32)) &&& (1431655765 : Int32))) &&& (858993459 : Int32)) + ((ushr32 (a1 - ((ushr32 a1 (1 : Int32)) &&& (1431655765 : Int32))) (2 : Int32)) &&& (858993459 : Int32))) + (ushr32 (((a1 - ((ushr32 a1 (1 : Int32)) &&& (1431655765 : Int32))) &&& (858993459 : Int32)) + ((ushr32 (a1 - ((ushr32 a1 (1 : Int32)) &&& (1431655765 : Int32))) (2 : Int32)) &&& (858993459 : Int32))) (4 : Int32))) &&& (252645135 : Int32)) + (ushr32 (((((a1 - ((ushr32 a1 (1 : Int32)) &&& (1431655765 : Int32))) &&& (858993459 : Int32)) + ((ushr32 (a1 - ((ushr32 a1 (1 : Int32)) &&& (1431655765 : Int32))) (2 : Int32)) &&& (858993459 : Int32))) + (ushr32 (((a1 - ((ushr32 a1 (1 : Int32)) &&& (1431655765 : Int32))) &&& (858993459 : Int32)) + ((ushr32 (a1 - ((ushr32 a1 (1 : Int32)) &&& (1431655765 : Int32))) (2 : Int32)) &&& (858993459 : Int32))) (4 : Int32))) &&& (252645135 : Int32)) (8 : Int32))) (16 : Int32))) &&& (63 : Int32)))
set_option maxHeartbeats 4000000 in
set_option maxRecDepth 100000 in
theorem c_Ig_bitCount (l : Launch) (dC : Nat → ClassId) (dI : Nat → Nat → Nat) (ty : Nat → ClassId) (ad : Nat → Nat) (ta : Nat → Nat) (sz : Nat) (co_rows : Int32) (co_marks : (Nat → Int32)) (co_rowSets : (Nat → Int32)) (co_partners : (Nat → Int32)) (co_open : (Nat → Int32)) (co_count : Int32) (tr_kinds : (Nat → Int32)) (tr_lefts : (Nat → Int32)) (tr_rights : (Nat → Int32)) (tr_seconds : (Nat → Int32)) (tr_size : Int32) (gr_kinds : (Nat → Int32)) (gr_nodes : (Nat → Int32)) (gr_rowSets : (Nat → Int32)) (gr_firstStates : (Nat → Int32)) (gr_targetCounts : (Nat → Int32)) (gr_targets : (Nat → Int32)) (gr_stepScores : (Nat → Int32)) (gr_letterScores : (Nat → Int32)) (gr_size : Int32) (tx_letters : (Nat → Int32)) (tx_length : Int32) (va_scores : (Nat → Int32)) (va_knownEnds : Int32) (hi_begins : (Nat → Int32)) (hi_lengths : (Nat → Int32)) (hi_scores : (Nat → Int32)) (hi_taken : (Nat → Int32)) (hi_count : Int32) (de_states : (Nat → Int32)) (de_begins : (Nat → Int32)) (de_lengths : (Nat → Int32)) (de_length : Int32) (a1 : Int32) (r0 : Int32) (hf : f_Ig_bitCount a1 = some (r0)) : Met l y_Ig_bitCount (.code y_Ig_bitCount prog_11_method_49_code 1 (some .int) :: gw) rm_Ig_bitCount (xPre ta (dC, dI) classes (tys3 ty) (wX ty ad co_rows co_marks co_rowSets co_partners co_open co_count tr_kinds tr_lefts tr_rights tr_seconds tr_size gr_kinds gr_nodes gr_rowSets gr_firstStates gr_targetCounts gr_targets gr_stepScores gr_letterScores gr_size tx_letters tx_length va_scores va_knownEnds hi_begins hi_lengths hi_scores hi_taken hi_count de_states de_begins de_lengths de_length) sz [.int a1]) (xQi (dC, dI) classes (wX ty ad co_rows co_marks co_rowSets co_partners co_open co_count tr_kinds tr_lefts tr_rights tr_seconds tr_size gr_kinds gr_nodes gr_rowSets gr_firstStates gr_targetCounts gr_targets gr_stepScores gr_letterScores gr_size tx_letters tx_length va_scores va_knownEnds hi_begins hi_lengths hi_scores hi_taken hi_count de_states de_begins de_lengths de_length) (wX ty ad co_rows co_marks co_rowSets co_partners co_open co_count tr_kinds tr_lefts tr_rights tr_seconds tr_size gr_kinds gr_nodes gr_rowSets gr_firstStates gr_targetCounts gr_targets gr_stepScores gr_letterScores gr_size tx_letters tx_length va_scores va_knownEnds hi_begins hi_lengths hi_scores hi_taken hi_count de_states de_begins de_lengths de_length) sz r0) 0 0 (va_A (wX ty ad co_rows co_marks co_rowSets co_partners co_open co_count tr_kinds tr_lefts tr_rights tr_seconds tr_size gr_kinds gr_nodes gr_rowSets gr_firstStates gr_targetCounts gr_targets gr_stepScores gr_letterScores gr_size tx_letters tx_length va_scores va_knownEnds hi_begins hi_lengths hi_scores hi_taken hi_count de_states de_begins de_lengths de_length) sz) := by
  refine xmet_i rfl (Nat.le_of_ble_eq_true rfl) ?_
  intro p e s m below meth c A ls Q hx hb hml hts hown hK hN hA hP hD hS hl hret
  replace hown : s.vm.findClass R_Ig = some m.cls := hown
  have hl : lv_has ls 1 [(0, .int a1)] := hl
  rw [f_Ig_bitCount] at hf
  obtain ⟨H, eH⟩ : ∃ H : Heap, H = s.heap := ⟨_, rfl⟩
  obtain ⟨locs, eL⟩ : ∃ L : List Loc, L = [] := ⟨_, rfl⟩
  have hP : va_P (dC, dI) classes (wX ty ad co_rows co_marks co_rowSets co_partners co_open co_count tr_kinds tr_lefts tr_rights tr_seconds tr_size gr_kinds gr_nodes gr_rowSets gr_firstStates gr_targetCounts gr_targets gr_stepScores gr_letterScores gr_size tx_letters tx_length va_scores va_knownEnds hi_begins hi_lengths hi_scores hi_taken hi_count de_states de_begins de_lengths de_length) H := by rw [eH]; exact hP
  have hS : va_S A s.heap H locs := by rw [eH, eL]; exact hS
  rw [← eL]
  suffices hgoal : W p l e rm_Ig_bitCount s m (List.toArray [.int a1]) below meth c H locs 0 0 Q (F0 m 0 ls []) by rw [eH] at hgoal; exact hgoal
  clear eH eL
  refine lv_iload_n hx hb d_Ig_bitCount_0 rfl (lv_at hl 0 rfl) ?_
  refine lv_iload_n hx hb d_Ig_bitCount_1 rfl (lv_at hl 0 rfl) ?_
  refine lv_iconst (v := 1) hx hb d_Ig_bitCount_2 (by decide) ?_
  refine lv_iushr (v := (ushr32 a1 (1 : Int32))) hx hb d_Ig_bitCount_3 rfl ?_
  refine lv_ldcw (v := 1431655765) hx hb hown (hts _ m_422) d_Ig_bitCount_4 ?_
  refine lv_iand hx hb d_Ig_bitCount_7 ?_
  refine lv_isub hx hb d_Ig_bitCount_8 ?_
  refine lv_istore_n (lv' := [(0, .int (a1 - ((ushr32 a1 (1 : Int32)) &&& (1431655765 : Int32))))]) hx hb d_Ig_bitCount_9 rfl hl (by decide) rfl (fun ls hl => ?_)
  refine lv_iload_n hx hb d_Ig_bitCount_10 rfl (lv_at hl 0 rfl) ?_
  refine lv_ldcw (v := 858993459) hx hb hown (hts _ m_423) d_Ig_bitCount_11 ?_
  refine lv_iand hx hb d_Ig_bitCount_14 ?_
  refine lv_iload_n hx hb d_Ig_bitCount_15 rfl (lv_at hl 0 rfl) ?_
  refine lv_iconst (v := 2) hx hb d_Ig_bitCount_16 (by decide) ?_
  refine lv_iushr (v := (ushr32 (a1 - ((ushr32 a1 (1 : Int32)) &&& (1431655765 : Int32))) (2 : Int32))) hx hb d_Ig_bitCount_17 rfl ?_
  refine lv_ldcw (v := 858993459) hx hb hown (hts _ m_423) d_Ig_bitCount_18 ?_
  refine lv_iand hx hb d_Ig_bitCount_21 ?_
  refine lv_iadd hx hb d_Ig_bitCount_22 ?_
  refine lv_istore_n (lv' := [(0, .int (((a1 - ((ushr32 a1 (1 : Int32)) &&& (1431655765 : Int32))) &&& (858993459 : Int32)) + ((ushr32 (a1 - ((ushr32 a1 (1 : Int32)) &&& (1431655765 : Int32))) (2 : Int32)) &&& (858993459 : Int32))))]) hx hb d_Ig_bitCount_23 rfl hl (by decide) rfl (fun ls hl => ?_)
  refine lv_iload_n hx hb d_Ig_bitCount_24 rfl (lv_at hl 0 rfl) ?_
  refine lv_iload_n hx hb d_Ig_bitCount_25 rfl (lv_at hl 0 rfl) ?_
  refine lv_iconst (v := 4) hx hb d_Ig_bitCount_26 (by decide) ?_
  refine lv_iushr (v := (ushr32 (((a1 - ((ushr32 a1 (1 : Int32)) &&& (1431655765 : Int32))) &&& (858993459 : Int32)) + ((ushr32 (a1 - ((ushr32 a1 (1 : Int32)) &&& (1431655765 : Int32))) (2 : Int32)) &&& (858993459 : Int32))) (4 : Int32))) hx hb d_Ig_bitCount_27 rfl ?_
  refine lv_iadd hx hb d_Ig_bitCount_28 ?_
  refine lv_ldcw (v := 252645135) hx hb hown (hts _ m_424) d_Ig_bitCount_29 ?_
  refine lv_iand hx hb d_Ig_bitCount_32 ?_
  refine lv_istore_n (lv' := [(0, .int (((((a1 - ((ushr32 a1 (1 : Int32)) &&& (1431655765 : Int32))) &&& (858993459 : Int32)) + ((ushr32 (a1 - ((ushr32 a1 (1 : Int32)) &&& (1431655765 : Int32))) (2 : Int32)) &&& (858993459 : Int32))) + (ushr32 (((a1 - ((ushr32 a1 (1 : Int32)) &&& (1431655765 : Int32))) &&& (858993459 : Int32)) + ((ushr32 (a1 - ((ushr32 a1 (1 : Int32)) &&& (1431655765 : Int32))) (2 : Int32)) &&& (858993459 : Int32))) (4 : Int32))) &&& (252645135 : Int32)))]) hx hb d_Ig_bitCount_33 rfl hl (by decide) rfl (fun ls hl => ?_)
  refine lv_iload_n hx hb d_Ig_bitCount_34 rfl (lv_at hl 0 rfl) ?_
  refine lv_iload_n hx hb d_Ig_bitCount_35 rfl (lv_at hl 0 rfl) ?_
  refine lv_bipush (v := 8) hx hb d_Ig_bitCount_36 (by decide) ?_
  refine lv_iushr (v := (ushr32 (((((a1 - ((ushr32 a1 (1 : Int32)) &&& (1431655765 : Int32))) &&& (858993459 : Int32)) + ((ushr32 (a1 - ((ushr32 a1 (1 : Int32)) &&& (1431655765 : Int32))) (2 : Int32)) &&& (858993459 : Int32))) + (ushr32 (((a1 - ((ushr32 a1 (1 : Int32)) &&& (1431655765 : Int32))) &&& (858993459 : Int32)) + ((ushr32 (a1 - ((ushr32 a1 (1 : Int32)) &&& (1431655765 : Int32))) (2 : Int32)) &&& (858993459 : Int32))) (4 : Int32))) &&& (252645135 : Int32)) (8 : Int32))) hx hb d_Ig_bitCount_38 rfl ?_
  refine lv_iadd hx hb d_Ig_bitCount_39 ?_
  refine lv_istore_n (lv' := [(0, .int ((((((a1 - ((ushr32 a1 (1 : Int32)) &&& (1431655765 : Int32))) &&& (858993459 : Int32)) + ((ushr32 (a1 - ((ushr32 a1 (1 : Int32)) &&& (1431655765 : Int32))) (2 : Int32)) &&& (858993459 : Int32))) + (ushr32 (((a1 - ((ushr32 a1 (1 : Int32)) &&& (1431655765 : Int32))) &&& (858993459 : Int32)) + ((ushr32 (a1 - ((ushr32 a1 (1 : Int32)) &&& (1431655765 : Int32))) (2 : Int32)) &&& (858993459 : Int32))) (4 : Int32))) &&& (252645135 : Int32)) + (ushr32 (((((a1 - ((ushr32 a1 (1 : Int32)) &&& (1431655765 : Int32))) &&& (858993459 : Int32)) + ((ushr32 (a1 - ((ushr32 a1 (1 : Int32)) &&& (1431655765 : Int32))) (2 : Int32)) &&& (858993459 : Int32))) + (ushr32 (((a1 - ((ushr32 a1 (1 : Int32)) &&& (1431655765 : Int32))) &&& (858993459 : Int32)) + ((ushr32 (a1 - ((ushr32 a1 (1 : Int32)) &&& (1431655765 : Int32))) (2 : Int32)) &&& (858993459 : Int32))) (4 : Int32))) &&& (252645135 : Int32)) (8 : Int32))))]) hx hb d_Ig_bitCount_40 rfl hl (by decide) rfl (fun ls hl => ?_)
  refine lv_iload_n hx hb d_Ig_bitCount_41 rfl (lv_at hl 0 rfl) ?_
  refine lv_iload_n hx hb d_Ig_bitCount_42 rfl (lv_at hl 0 rfl) ?_
  refine lv_bipush (v := 16) hx hb d_Ig_bitCount_43 (by decide) ?_
  refine lv_iushr (v := (ushr32 ((((((a1 - ((ushr32 a1 (1 : Int32)) &&& (1431655765 : Int32))) &&& (858993459 : Int32)) + ((ushr32 (a1 - ((ushr32 a1 (1 : Int32)) &&& (1431655765 : Int32))) (2 : Int32)) &&& (858993459 : Int32))) + (ushr32 (((a1 - ((ushr32 a1 (1 : Int32)) &&& (1431655765 : Int32))) &&& (858993459 : Int32)) + ((ushr32 (a1 - ((ushr32 a1 (1 : Int32)) &&& (1431655765 : Int32))) (2 : Int32)) &&& (858993459 : Int32))) (4 : Int32))) &&& (252645135 : Int32)) + (ushr32 (((((a1 - ((ushr32 a1 (1 : Int32)) &&& (1431655765 : Int32))) &&& (858993459 : Int32)) + ((ushr32 (a1 - ((ushr32 a1 (1 : Int32)) &&& (1431655765 : Int32))) (2 : Int32)) &&& (858993459 : Int32))) + (ushr32 (((a1 - ((ushr32 a1 (1 : Int32)) &&& (1431655765 : Int32))) &&& (858993459 : Int32)) + ((ushr32 (a1 - ((ushr32 a1 (1 : Int32)) &&& (1431655765 : Int32))) (2 : Int32)) &&& (858993459 : Int32))) (4 : Int32))) &&& (252645135 : Int32)) (8 : Int32))) (16 : Int32))) hx hb d_Ig_bitCount_45 rfl ?_
  refine lv_iadd hx hb d_Ig_bitCount_46 ?_
  refine lv_istore_n (lv' := [(0, .int (((((((a1 - ((ushr32 a1 (1 : Int32)) &&& (1431655765 : Int32))) &&& (858993459 : Int32)) + ((ushr32 (a1 - ((ushr32 a1 (1 : Int32)) &&& (1431655765 : Int32))) (2 : Int32)) &&& (858993459 : Int32))) + (ushr32 (((a1 - ((ushr32 a1 (1 : Int32)) &&& (1431655765 : Int32))) &&& (858993459 : Int32)) + ((ushr32 (a1 - ((ushr32 a1 (1 : Int32)) &&& (1431655765 : Int32))) (2 : Int32)) &&& (858993459 : Int32))) (4 : Int32))) &&& (252645135 : Int32)) + (ushr32 (((((a1 - ((ushr32 a1 (1 : Int32)) &&& (1431655765 : Int32))) &&& (858993459 : Int32)) + ((ushr32 (a1 - ((ushr32 a1 (1 : Int32)) &&& (1431655765 : Int32))) (2 : Int32)) &&& (858993459 : Int32))) + (ushr32 (((a1 - ((ushr32 a1 (1 : Int32)) &&& (1431655765 : Int32))) &&& (858993459 : Int32)) + ((ushr32 (a1 - ((ushr32 a1 (1 : Int32)) &&& (1431655765 : Int32))) (2 : Int32)) &&& (858993459 : Int32))) (4 : Int32))) &&& (252645135 : Int32)) (8 : Int32))) + (ushr32 ((((((a1 - ((ushr32 a1 (1 : Int32)) &&& (1431655765 : Int32))) &&& (858993459 : Int32)) + ((ushr32 (a1 - ((ushr32 a1 (1 : Int32)) &&& (1431655765 : Int32))) (2 : Int32)) &&& (858993459 : Int32))) + (ushr32 (((a1 - ((ushr32 a1 (1 : Int32)) &&& (1431655765 : Int32))) &&& (858993459 : Int32)) + ((ushr32 (a1 - ((ushr32 a1 (1 : Int32)) &&& (1431655765 : Int32))) (2 : Int32)) &&& (858993459 : Int32))) (4 : Int32))) &&& (252645135 : Int32)) + (ushr32 (((((a1 - ((ushr32 a1 (1 : Int32)) &&& (1431655765 : Int32))) &&& (858993459 : Int32)) + ((ushr32 (a1 - ((ushr32 a1 (1 : Int32)) &&& (1431655765 : Int32))) (2 : Int32)) &&& (858993459 : Int32))) + (ushr32 (((a1 - ((ushr32 a1 (1 : Int32)) &&& (1431655765 : Int32))) &&& (858993459 : Int32)) + ((ushr32 (a1 - ((ushr32 a1 (1 : Int32)) &&& (1431655765 : Int32))) (2 : Int32)) &&& (858993459 : Int32))) (4 : Int32))) &&& (252645135 : Int32)) (8 : Int32))) (16 : Int32))))]) hx hb d_Ig_bitCount_47 rfl hl (by decide) rfl (fun ls hl => ?_)
  refine lv_iload_n hx hb d_Ig_bitCount_48 rfl (lv_at hl 0 rfl) ?_
  refine lv_bipush (v := 63) hx hb d_Ig_bitCount_49 (by decide) ?_
  refine lv_iand hx hb d_Ig_bitCount_51 ?_
  obtain rfl := os1 hf
  exact hret H locs _ _ _ d_Ig_bitCount_52 rfl hP hS
