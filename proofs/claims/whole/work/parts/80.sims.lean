/-! 80.sims: the relation, and that every operation keeps it (written by wip/gen/sims.py) -/
def RelF : RelT := fun co_rows co_marks co_rowSets co_partners co_open co_count tr_kinds tr_lefts tr_rights tr_seconds tr_size gr_kinds gr_nodes gr_rowSets gr_firstStates gr_targetCounts gr_targets gr_stepScores gr_letterScores gr_size tx_letters tx_length va_scores va_knownEnds hi_begins hi_lengths hi_scores hi_taken hi_count de_states de_begins de_lengths de_length mo_rows mo_columns mo_marks mo_letters mo_mate mo_made mo_nodes mo_sort mo_from mo_to mo_begin mo_other mo_states mo_kinds mo_nodeOf mo_steps mo_emissions mo_length mo_text mo_worked mo_values mo_hits mo_hitAt mo_hitLength mo_written mo_listState mo_listAt mo_listLength mo_stack => ∃ (R C : Nat) (mk : Nat → Nat) (lt : Nat → Nat → Nat) (T : Nat) (tx : Nat → Nat), FamR R C mk lt co_rows co_marks co_rowSets co_count mo_rows mo_columns mo_marks mo_letters ∧ TxR T tx tx_letters tx_length mo_length mo_text ∧ GrR T tx gr_kinds gr_nodes gr_targetCounts gr_targets gr_stepScores gr_letterScores gr_size va_scores va_knownEnds hi_begins hi_lengths hi_scores hi_count mo_made mo_begin mo_other mo_states mo_kinds mo_nodeOf mo_steps mo_emissions mo_worked mo_values mo_hits mo_hitAt mo_hitLength
set_option maxHeartbeats 2000000 in
theorem s_column : sim_column RelF := by
  intro co_rows co_marks co_rowSets co_partners co_open co_count tr_kinds tr_lefts tr_rights tr_seconds tr_size gr_kinds gr_nodes gr_rowSets gr_firstStates gr_targetCounts gr_targets gr_stepScores gr_letterScores gr_size tx_letters tx_length va_scores va_knownEnds hi_begins hi_lengths hi_scores hi_taken hi_count de_states de_begins de_lengths de_length mo_rows mo_columns mo_marks mo_letters mo_mate mo_made mo_nodes mo_sort mo_from mo_to mo_begin mo_other mo_states mo_kinds mo_nodeOf mo_steps mo_emissions mo_length mo_text mo_worked mo_values mo_hits mo_hitAt mo_hitLength mo_written mo_listState mo_listAt mo_listLength mo_stack hR z a2
  obtain ⟨R, C, mk, lt, T, tx, hF, hT, hG⟩ := hR
  rcases o_column (gr_size := gr_size) (hi_count := hi_count) (mo_made := mo_made) (mo_hits := mo_hits) hF z a2 with ⟨e1, e2⟩ | ⟨cm, crs, cc, mc, mm, ml, C2, mk2, lt2, e1, e2, hF2⟩
  · exact ⟨_, _, _, _, _, _, _, _, _, _, _, e1, e2, R, C, mk, lt, T, tx, hF, hT, hG⟩
  · exact ⟨_, _, _, _, _, _, _, _, _, _, _, e1, e2, R, C2, mk2, lt2, T, tx, hF2, hT, Or.inl ⟨rfl, rfl, rfl, rfl⟩⟩
set_option maxHeartbeats 2000000 in
theorem s_clear : sim_clear RelF := by
  intro co_rows co_marks co_rowSets co_partners co_open co_count tr_kinds tr_lefts tr_rights tr_seconds tr_size gr_kinds gr_nodes gr_rowSets gr_firstStates gr_targetCounts gr_targets gr_stepScores gr_letterScores gr_size tx_letters tx_length va_scores va_knownEnds hi_begins hi_lengths hi_scores hi_taken hi_count de_states de_begins de_lengths de_length mo_rows mo_columns mo_marks mo_letters mo_mate mo_made mo_nodes mo_sort mo_from mo_to mo_begin mo_other mo_states mo_kinds mo_nodeOf mo_steps mo_emissions mo_length mo_text mo_worked mo_values mo_hits mo_hitAt mo_hitLength mo_written mo_listState mo_listAt mo_listLength mo_stack hR
  obtain ⟨R, C, mk, lt, T, tx, hF, hT, hG⟩ := hR
  obtain ⟨⟨h1, h2, h3⟩, ⟨e1, e2, e3, e4⟩, -, -, -⟩ := hF
  exact ⟨0, 0, 0, 0, 0, 0, rfl, rfl, R, 0, mk, lt, T, tx, ⟨⟨h1, h2, Nat.zero_le _⟩, ⟨e1, e2, rfl, rfl⟩, (fun c hc => absurd hc (Nat.not_lt_zero c)), (fun c hc => absurd hc (Nat.not_lt_zero c)), (fun c hc => absurd hc (Nat.not_lt_zero c))⟩, hT, Or.inl ⟨rfl, rfl, rfl, rfl⟩⟩
set_option maxHeartbeats 2000000 in
theorem s_kind : sim_kind RelF := by
  intro co_rows co_marks co_rowSets co_partners co_open co_count tr_kinds tr_lefts tr_rights tr_seconds tr_size gr_kinds gr_nodes gr_rowSets gr_firstStates gr_targetCounts gr_targets gr_stepScores gr_letterScores gr_size tx_letters tx_length va_scores va_knownEnds hi_begins hi_lengths hi_scores hi_taken hi_count de_states de_begins de_lengths de_length mo_rows mo_columns mo_marks mo_letters mo_mate mo_made mo_nodes mo_sort mo_from mo_to mo_begin mo_other mo_states mo_kinds mo_nodeOf mo_steps mo_emissions mo_length mo_text mo_worked mo_values mo_hits mo_hitAt mo_hitLength mo_written mo_listState mo_listAt mo_listLength mo_stack hR a1
  obtain ⟨R, C, mk, lt, T, tx, hF, hT, hG⟩ := hR
  obtain ⟨r0, e1, e2⟩ := o_kind hG a1
  exact ⟨r0, e1, e2, R, C, mk, lt, T, tx, hF, hT, hG⟩
set_option maxHeartbeats 2000000 in
theorem s_node : sim_node RelF := by
  intro co_rows co_marks co_rowSets co_partners co_open co_count tr_kinds tr_lefts tr_rights tr_seconds tr_size gr_kinds gr_nodes gr_rowSets gr_firstStates gr_targetCounts gr_targets gr_stepScores gr_letterScores gr_size tx_letters tx_length va_scores va_knownEnds hi_begins hi_lengths hi_scores hi_taken hi_count de_states de_begins de_lengths de_length mo_rows mo_columns mo_marks mo_letters mo_mate mo_made mo_nodes mo_sort mo_from mo_to mo_begin mo_other mo_states mo_kinds mo_nodeOf mo_steps mo_emissions mo_length mo_text mo_worked mo_values mo_hits mo_hitAt mo_hitLength mo_written mo_listState mo_listAt mo_listLength mo_stack hR a1
  obtain ⟨R, C, mk, lt, T, tx, hF, hT, hG⟩ := hR
  obtain ⟨r0, e1, e2⟩ := o_node hG a1
  exact ⟨r0, e1, e2, R, C, mk, lt, T, tx, hF, hT, hG⟩
set_option maxHeartbeats 2000000 in
theorem s_target : sim_target RelF := by
  intro co_rows co_marks co_rowSets co_partners co_open co_count tr_kinds tr_lefts tr_rights tr_seconds tr_size gr_kinds gr_nodes gr_rowSets gr_firstStates gr_targetCounts gr_targets gr_stepScores gr_letterScores gr_size tx_letters tx_length va_scores va_knownEnds hi_begins hi_lengths hi_scores hi_taken hi_count de_states de_begins de_lengths de_length mo_rows mo_columns mo_marks mo_letters mo_mate mo_made mo_nodes mo_sort mo_from mo_to mo_begin mo_other mo_states mo_kinds mo_nodeOf mo_steps mo_emissions mo_length mo_text mo_worked mo_values mo_hits mo_hitAt mo_hitLength mo_written mo_listState mo_listAt mo_listLength mo_stack hR a1 a2
  obtain ⟨R, C, mk, lt, T, tx, hF, hT, hG⟩ := hR
  obtain ⟨r0, e1, e2⟩ := o_target hG a1 a2
  exact ⟨r0, e1, e2, R, C, mk, lt, T, tx, hF, hT, hG⟩
set_option maxHeartbeats 2000000 in
theorem s_step : sim_step RelF := by
  intro co_rows co_marks co_rowSets co_partners co_open co_count tr_kinds tr_lefts tr_rights tr_seconds tr_size gr_kinds gr_nodes gr_rowSets gr_firstStates gr_targetCounts gr_targets gr_stepScores gr_letterScores gr_size tx_letters tx_length va_scores va_knownEnds hi_begins hi_lengths hi_scores hi_taken hi_count de_states de_begins de_lengths de_length mo_rows mo_columns mo_marks mo_letters mo_mate mo_made mo_nodes mo_sort mo_from mo_to mo_begin mo_other mo_states mo_kinds mo_nodeOf mo_steps mo_emissions mo_length mo_text mo_worked mo_values mo_hits mo_hitAt mo_hitLength mo_written mo_listState mo_listAt mo_listLength mo_stack hR a1 a2
  obtain ⟨R, C, mk, lt, T, tx, hF, hT, hG⟩ := hR
  obtain ⟨r0, e1, e2⟩ := o_step hG a1 a2
  exact ⟨r0, e1, e2, R, C, mk, lt, T, tx, hF, hT, hG⟩
set_option maxHeartbeats 2000000 in
theorem s_emits : sim_emits RelF := by
  intro co_rows co_marks co_rowSets co_partners co_open co_count tr_kinds tr_lefts tr_rights tr_seconds tr_size gr_kinds gr_nodes gr_rowSets gr_firstStates gr_targetCounts gr_targets gr_stepScores gr_letterScores gr_size tx_letters tx_length va_scores va_knownEnds hi_begins hi_lengths hi_scores hi_taken hi_count de_states de_begins de_lengths de_length mo_rows mo_columns mo_marks mo_letters mo_mate mo_made mo_nodes mo_sort mo_from mo_to mo_begin mo_other mo_states mo_kinds mo_nodeOf mo_steps mo_emissions mo_length mo_text mo_worked mo_values mo_hits mo_hitAt mo_hitLength mo_written mo_listState mo_listAt mo_listLength mo_stack hR a1 a2 a3
  obtain ⟨R, C, mk, lt, T, tx, hF, hT, hG⟩ := hR
  obtain ⟨r0, e1, e2⟩ := o_emits hG a1 a2 a3
  exact ⟨r0, e1, e2, R, C, mk, lt, T, tx, hF, hT, hG⟩
set_option maxHeartbeats 2000000 in
theorem s_feed : sim_feed RelF := by
  intro co_rows co_marks co_rowSets co_partners co_open co_count tr_kinds tr_lefts tr_rights tr_seconds tr_size gr_kinds gr_nodes gr_rowSets gr_firstStates gr_targetCounts gr_targets gr_stepScores gr_letterScores gr_size tx_letters tx_length va_scores va_knownEnds hi_begins hi_lengths hi_scores hi_taken hi_count de_states de_begins de_lengths de_length mo_rows mo_columns mo_marks mo_letters mo_mate mo_made mo_nodes mo_sort mo_from mo_to mo_begin mo_other mo_states mo_kinds mo_nodeOf mo_steps mo_emissions mo_length mo_text mo_worked mo_values mo_hits mo_hitAt mo_hitLength mo_written mo_listState mo_listAt mo_listLength mo_stack hR a1 a2
  obtain ⟨R, C, mk, lt, T, tx, hF, hT, hG⟩ := hR
  obtain ⟨r0, l2, n2, hc2, m2, t2, wk2, mh2, e1, e2, T2, tx2, hT2, hG2⟩ := o_feed hT hG a1 a2
  exact ⟨_, _, _, _, _, _, _, _, e1, e2, R, C, mk, lt, T2, tx2, hF, hT2, hG2⟩
set_option maxHeartbeats 2000000 in
theorem s_erase : sim_erase RelF := by
  intro co_rows co_marks co_rowSets co_partners co_open co_count tr_kinds tr_lefts tr_rights tr_seconds tr_size gr_kinds gr_nodes gr_rowSets gr_firstStates gr_targetCounts gr_targets gr_stepScores gr_letterScores gr_size tx_letters tx_length va_scores va_knownEnds hi_begins hi_lengths hi_scores hi_taken hi_count de_states de_begins de_lengths de_length mo_rows mo_columns mo_marks mo_letters mo_mate mo_made mo_nodes mo_sort mo_from mo_to mo_begin mo_other mo_states mo_kinds mo_nodeOf mo_steps mo_emissions mo_length mo_text mo_worked mo_values mo_hits mo_hitAt mo_hitLength mo_written mo_listState mo_listAt mo_listLength mo_stack hR
  obtain ⟨R, C, mk, lt, T, tx, hF, hT, hG⟩ := hR
  have hG2 := GrR_erase hG
  exact ⟨0, 0, 0, 0, 0, 0, rfl, rfl, R, C, mk, lt, 0, tx, hF, ⟨Nat.zero_le _, rfl, rfl, (fun j hj => absurd hj (Nat.not_lt_zero j))⟩, hG2⟩
set_option maxHeartbeats 2000000 in
theorem s_value : sim_value RelF := by
  intro co_rows co_marks co_rowSets co_partners co_open co_count tr_kinds tr_lefts tr_rights tr_seconds tr_size gr_kinds gr_nodes gr_rowSets gr_firstStates gr_targetCounts gr_targets gr_stepScores gr_letterScores gr_size tx_letters tx_length va_scores va_knownEnds hi_begins hi_lengths hi_scores hi_taken hi_count de_states de_begins de_lengths de_length mo_rows mo_columns mo_marks mo_letters mo_mate mo_made mo_nodes mo_sort mo_from mo_to mo_begin mo_other mo_states mo_kinds mo_nodeOf mo_steps mo_emissions mo_length mo_text mo_worked mo_values mo_hits mo_hitAt mo_hitLength mo_written mo_listState mo_listAt mo_listLength mo_stack hR a1 a2 a3
  obtain ⟨R, C, mk, lt, T, tx, hF, hT, hG⟩ := hR
  obtain ⟨r0, x1, x2, y1, y2, e1, e2, hG2⟩ := o_value hT hG a1 a2 a3
  exact ⟨_, _, _, _, _, e1, e2, R, C, mk, lt, T, tx, hF, hT, hG2⟩
set_option maxHeartbeats 2000000 in
theorem s_scan : sim_scan RelF := by
  intro co_rows co_marks co_rowSets co_partners co_open co_count tr_kinds tr_lefts tr_rights tr_seconds tr_size gr_kinds gr_nodes gr_rowSets gr_firstStates gr_targetCounts gr_targets gr_stepScores gr_letterScores gr_size tx_letters tx_length va_scores va_knownEnds hi_begins hi_lengths hi_scores hi_taken hi_count de_states de_begins de_lengths de_length mo_rows mo_columns mo_marks mo_letters mo_mate mo_made mo_nodes mo_sort mo_from mo_to mo_begin mo_other mo_states mo_kinds mo_nodeOf mo_steps mo_emissions mo_length mo_text mo_worked mo_values mo_hits mo_hitAt mo_hitLength mo_written mo_listState mo_listAt mo_listLength mo_stack hR a1 a2
  obtain ⟨R, C, mk, lt, T, tx, hF, hT, hG⟩ := hR
  obtain ⟨r0, x1, x2, x3, x4, x5, x6, x7, y1, y2, y3, y4, y5, e1, e2, hG2⟩ := o_scan (hi_taken := hi_taken) hT hG a1 a2
  exact ⟨_, _, _, _, _, _, _, _, _, _, _, _, _, e1, e2, R, C, mk, lt, T, tx, hF, hT, hG2⟩
set_option maxHeartbeats 2000000 in
theorem s_hit : sim_hit RelF := by
  intro co_rows co_marks co_rowSets co_partners co_open co_count tr_kinds tr_lefts tr_rights tr_seconds tr_size gr_kinds gr_nodes gr_rowSets gr_firstStates gr_targetCounts gr_targets gr_stepScores gr_letterScores gr_size tx_letters tx_length va_scores va_knownEnds hi_begins hi_lengths hi_scores hi_taken hi_count de_states de_begins de_lengths de_length mo_rows mo_columns mo_marks mo_letters mo_mate mo_made mo_nodes mo_sort mo_from mo_to mo_begin mo_other mo_states mo_kinds mo_nodeOf mo_steps mo_emissions mo_length mo_text mo_worked mo_values mo_hits mo_hitAt mo_hitLength mo_written mo_listState mo_listAt mo_listLength mo_stack hR a1 a2
  obtain ⟨R, C, mk, lt, T, tx, hF, hT, hG⟩ := hR
  obtain ⟨r0, ⟨x1, x2, x3, x4, e1⟩, y1, y2, y3, y4, y5, e2⟩ := o_hit (de_states := de_states) (de_begins := de_begins) (de_lengths := de_lengths) (de_length := de_length) (mo_written := mo_written) (mo_listState := mo_listState) (mo_listAt := mo_listAt) (mo_listLength := mo_listLength) (mo_stack := mo_stack) hT hG a1 a2
  exact ⟨_, _, _, _, _, _, _, _, _, _, e1, e2, R, C, mk, lt, T, tx, hF, hT, hG⟩
set_option maxHeartbeats 2000000 in
theorem s_derived : sim_derived RelF := by
  intro co_rows co_marks co_rowSets co_partners co_open co_count tr_kinds tr_lefts tr_rights tr_seconds tr_size gr_kinds gr_nodes gr_rowSets gr_firstStates gr_targetCounts gr_targets gr_stepScores gr_letterScores gr_size tx_letters tx_length va_scores va_knownEnds hi_begins hi_lengths hi_scores hi_taken hi_count de_states de_begins de_lengths de_length mo_rows mo_columns mo_marks mo_letters mo_mate mo_made mo_nodes mo_sort mo_from mo_to mo_begin mo_other mo_states mo_kinds mo_nodeOf mo_steps mo_emissions mo_length mo_text mo_worked mo_values mo_hits mo_hitAt mo_hitLength mo_written mo_listState mo_listAt mo_listLength mo_stack hR a1 a2 a3
  obtain ⟨R, C, mk, lt, T, tx, hF, hT, hG⟩ := hR
  obtain ⟨r0, ⟨x1, x2, x3, x4, e1⟩, y1, y2, y3, y4, y5, e2⟩ := o_derived (de_states := de_states) (de_begins := de_begins) (de_lengths := de_lengths) (de_length := de_length) (mo_written := mo_written) (mo_listState := mo_listState) (mo_listAt := mo_listAt) (mo_listLength := mo_listLength) (mo_stack := mo_stack) hT hG a1 a2 a3
  exact ⟨_, _, _, _, _, _, _, _, _, _, e1, e2, R, C, mk, lt, T, tx, hF, hT, hG⟩
theorem s_build : sim_build RelF := sorry
theorem sims_all : Sims RelF := ⟨s_column, s_clear, s_build, s_kind, s_node, s_target, s_step, s_emits, s_feed, s_erase, s_value, s_scan, s_hit, s_derived⟩
theorem rows_eq (a : Int32) : ∃ R : Nat, 1 ≤ R ∧ R ≤ 4 ∧ imax 1 (imin 4 a) = nI R ∧ (if (1 : Int32) ≤ a then (if a ≤ (4 : Int32) then a else (4 : Int32)) else (1 : Int32)) = nI R := by
  unfold imax imin
  have e1 : (1 : Int32).toInt = 1 := rfl
  have e4 : (4 : Int32).toInt = 4 := rfl
  by_cases h1 : (1 : Int32) ≤ a
  · rw [if_pos h1]
    by_cases h4 : a ≤ 4
    · rw [if_pos h4]
      have h0 : ¬ a < 0 := fun q => by
        rw [Int32.lt_iff_toInt_lt] at q
        rw [Int32.le_iff_toInt_le] at h1
        have e0 : (0 : Int32).toInt = 0 := rfl
        omega
      obtain ⟨j, hj, rfl⟩ := nI_of2 (M := 4) (n := 4) rfl h0 h4
      have hj1 : 1 ≤ j := by rw [nI1] at h1; exact (nI_leI (by omega) (by omega)).mp h1
      refine ⟨j, hj1, hj, ?_, rfl⟩
      rcases (show j = 1 ∨ j = 2 ∨ j = 3 ∨ j = 4 by omega) with rfl | rfl | rfl | rfl <;> decide
    · rw [if_neg h4, if_neg (fun q => h4 (Int32.le_of_lt q))]
      exact ⟨4, by omega, by omega, rfl, rfl⟩
  · rw [if_neg h1]
    have hlt : a < 4 := by
      rw [Int32.lt_iff_toInt_lt]
      rw [Int32.le_iff_toInt_le] at h1
      omega
    rw [if_pos hlt]
    have hn : ¬ (1 : Int32) < a := fun q => h1 (Int32.le_of_lt q)
    rw [if_neg hn]
    exact ⟨1, by omega, by omega, rfl, rfl⟩
theorem rel_init (a1 : Int32) : RelF (imax 1 (imin 4 a1)) (fun _ => (0 : Int32)) (fun _ => (0 : Int32)) (fun _ => (0 : Int32)) (fun _ => (0 : Int32)) (0 : Int32) (fun _ => (0 : Int32)) (fun _ => (0 : Int32)) (fun _ => (0 : Int32)) (fun _ => (0 : Int32)) (0 : Int32) (fun _ => (0 : Int32)) (fun _ => (0 : Int32)) (fun _ => (0 : Int32)) (fun _ => (0 : Int32)) (fun _ => (0 : Int32)) (fun _ => (0 : Int32)) (fun _ => (0 : Int32)) (fun _ => (0 : Int32)) (0 : Int32) (fun _ => (0 : Int32)) (0 : Int32) (fun _ => (0 : Int32)) (0 : Int32) (fun _ => (0 : Int32)) (fun _ => (0 : Int32)) (fun _ => (0 : Int32)) (fun _ => (0 : Int32)) (0 : Int32) (fun _ => (0 : Int32)) (fun _ => (0 : Int32)) (fun _ => (0 : Int32)) (0 : Int32) (if (1 : Int32) ≤ a1 then (if a1 ≤ (4 : Int32) then a1 else (4 : Int32)) else (1 : Int32)) (0 : Int32) (fun _ => (0 : Int32)) (fun _ => (0 : Int32)) (fun _ => (0 : Int32)) (0 : Int32) (0 : Int32) (fun _ => (0 : Int32)) (fun _ => (0 : Int32)) (fun _ => (0 : Int32)) (fun _ => (0 : Int32)) (fun _ => (0 : Int32)) (0 : Int32) (fun _ => (0 : Int32)) (fun _ => (0 : Int32)) (fun _ => (0 : Int32)) (fun _ => (0 : Int32)) (0 : Int32) (fun _ => (0 : Int32)) (0 : Int32) (fun _ => (0 : Int32)) (0 : Int32) (fun _ => (0 : Int32)) (fun _ => (0 : Int32)) (0 : Int32) (fun _ => (0 : Int32)) (fun _ => (0 : Int32)) (fun _ => (0 : Int32)) (fun _ => (0 : Int32)) := by
  obtain ⟨R, h1, h4, e1, e2⟩ := rows_eq a1
  exact ⟨R, 0, fun _ => 0, fun _ _ => 0, 0, fun _ => 0, ⟨⟨h1, h4, Nat.zero_le _⟩, ⟨e1, e2, rfl, rfl⟩, (fun c hc => absurd hc (Nat.not_lt_zero c)), (fun c hc => absurd hc (Nat.not_lt_zero c)), (fun c hc => absurd hc (Nat.not_lt_zero c))⟩, ⟨Nat.zero_le _, rfl, rfl, (fun j hj => absurd hj (Nat.not_lt_zero j))⟩, Or.inl ⟨rfl, rfl, rfl, rfl⟩⟩
