/-! 80.sims: the relation, and that every operation keeps it (written by wip/gen/sims.py) -/
def RelF : RelT := fun co_rows co_marks co_rowSets co_partners co_open co_count tr_kinds tr_lefts tr_rights tr_seconds tr_size gr_kinds gr_nodes gr_rowSets gr_firstStates gr_targetCounts gr_targets gr_stepScores gr_letterScores gr_size tx_letters tx_length va_scores va_knownEnds hi_begins hi_lengths hi_scores hi_taken hi_count de_states de_begins de_lengths de_length mo_rows mo_columns mo_marks mo_letters mo_mate mo_made mo_nodes mo_sort mo_from mo_to mo_begin mo_other mo_states mo_kinds mo_nodeOf mo_steps mo_emissions mo_length mo_text mo_worked mo_values mo_hits mo_hitAt mo_hitLength mo_written mo_listState mo_listAt mo_listLength mo_stack => ∃ (R C : Nat) (mk : Nat → Nat) (lt : Nat → Nat → Nat) (T : Nat) (tx : Nat → Nat), FamR R C mk lt co_rows co_marks co_rowSets co_count mo_rows mo_columns mo_marks mo_letters ∧ TxR T tx tx_letters tx_length mo_length mo_text ∧ GrR T tx gr_kinds gr_nodes gr_targetCounts gr_targets gr_stepScores gr_letterScores gr_size va_scores va_knownEnds hi_begins hi_lengths hi_scores hi_count mo_made mo_begin mo_other mo_states mo_kinds mo_nodeOf mo_steps mo_emissions mo_worked mo_values mo_hits mo_hitAt mo_hitLength
set_option maxHeartbeats 2000000 in
theorem s_column : sim_column RelF := by
  intro co_rows co_marks co_rowSets co_partners co_open co_count tr_kinds tr_lefts tr_rights tr_seconds tr_size gr_kinds gr_nodes gr_rowSets gr_firstStates gr_targetCounts gr_targets gr_stepScores gr_letterScores gr_size tx_letters tx_length va_scores va_knownEnds hi_begins hi_lengths hi_scores hi_taken hi_count de_states de_begins de_lengths de_length mo_rows mo_columns mo_marks mo_letters mo_mate mo_made mo_nodes mo_sort mo_from mo_to mo_begin mo_other mo_states mo_kinds mo_nodeOf mo_steps mo_emissions mo_length mo_text mo_worked mo_values mo_hits mo_hitAt mo_hitLength mo_written mo_listState mo_listAt mo_listLength mo_stack hR z a2
  obtain ⟨R, C, mk, lt, T, tx, hF, hT, hG⟩ := hR
  rcases o_column (gr_size := gr_size) (hi_count := hi_count) (mo_made := mo_made) (mo_hits := mo_hits) hF z a2 with ⟨e1, e2⟩ | ⟨cm, crs, cc, mc, mm, ml, C2, mk2, lt2, e1, e2, hF2⟩
  · exact ⟨_, _, _, _, _, _, _, _, _, _, _, e1, e2, R, C, mk, lt, T, tx, hF, hT, hG⟩
  · exact ⟨_, _, _, _, _, _, _, _, _, _, _, e1, e2, R, C2, mk2, lt2, T, tx, hF2, hT, Or.inl ⟨rfl, rfl, rfl, rfl⟩⟩
set_option maxHeartbeats 2000000 in
theorem s_clear : sim_clear RelF := by
  intro co_rows co_marks co_rowSets co_partners co_open co_count tr_kinds tr_lefts tr_rights tr_seconds tr_size gr_kinds gr_nodes gr_rowSets gr_firstStates gr_targetCounts gr_targets gr_stepScores gr_letterScores gr_size tx_letters tx_length va_scores va_knownEnds hi_begins hi_lengths hi_scores hi_taken hi_count de_states de_begins de_lengths de_length mo_rows mo_columns mo_marks mo_letters mo_mate mo_made mo_nodes mo_sort mo_from mo_to mo_begin mo_other mo_states mo_kinds mo_nodeOf mo_steps mo_emissions mo_length mo_text mo_worked mo_values mo_hits mo_hitAt mo_hitLength mo_written mo_listState mo_listAt mo_listLength mo_stack hR
  obtain ⟨R, C, mk, lt, T, tx, hF, hT, hG⟩ := hR
  obtain ⟨⟨h1, h2, h3⟩, ⟨e1, e2, e3, e4⟩, -, -, -⟩ := hF
  exact ⟨0, 0, 0, 0, 0, 0, rfl, rfl, R, 0, mk, lt, T, tx, ⟨⟨h1, h2, Nat.zero_le _⟩, ⟨e1, e2, rfl, rfl⟩, (fun c hc => absurd hc (Nat.not_lt_zero c)), (fun c hc => absurd hc (Nat.not_lt_zero c)), (fun c hc => absurd hc (Nat.not_lt_zero c))⟩, hT, Or.inl ⟨rfl, rfl, rfl, rfl⟩⟩
set_option maxHeartbeats 2000000 in
theorem s_kind : sim_kind RelF := by
  intro co_rows co_marks co_rowSets co_partners co_open co_count tr_kinds tr_lefts tr_rights tr_seconds tr_size gr_kinds gr_nodes gr_rowSets gr_firstStates gr_targetCounts gr_targets gr_stepScores gr_letterScores gr_size tx_letters tx_length va_scores va_knownEnds hi_begins hi_lengths hi_scores hi_taken hi_count de_states de_begins de_lengths de_length mo_rows mo_columns mo_marks mo_letters mo_mate mo_made mo_nodes mo_sort mo_from mo_to mo_begin mo_other mo_states mo_kinds mo_nodeOf mo_steps mo_emissions mo_length mo_text mo_worked mo_values mo_hits mo_hitAt mo_hitLength mo_written mo_listState mo_listAt mo_listLength mo_stack hR a1
  obtain ⟨R, C, mk, lt, T, tx, hF, hT, hG⟩ := hR
  obtain ⟨r0, e1, e2⟩ := o_kind hG a1
  exact ⟨r0, e1, e2, R, C, mk, lt, T, tx, hF, hT, hG⟩
set_option maxHeartbeats 2000000 in
theorem s_node : sim_node RelF := by
  intro co_rows co_marks co_rowSets co_partners co_open co_count tr_kinds tr_lefts tr_rights tr_seconds tr_size gr_kinds gr_nodes gr_rowSets gr_firstStates gr_targetCounts gr_targets gr_stepScores gr_letterScores gr_size tx_letters tx_length va_scores va_knownEnds hi_begins hi_lengths hi_scores hi_taken hi_count de_states de_begins de_lengths de_length mo_rows mo_columns mo_marks mo_letters mo_mate mo_made mo_nodes mo_sort mo_from mo_to mo_begin mo_other mo_states mo_kinds mo_nodeOf mo_steps mo_emissions mo_length mo_text mo_worked mo_values mo_hits mo_hitAt mo_hitLength mo_written mo_listState mo_listAt mo_listLength mo_stack hR a1
  obtain ⟨R, C, mk, lt, T, tx, hF, hT, hG⟩ := hR
  obtain ⟨r0, e1, e2⟩ := o_node hG a1
  exact ⟨r0, e1, e2, R, C, mk, lt, T, tx, hF, hT, hG⟩
set_option maxHeartbeats 2000000 in
theorem s_target : sim_target RelF := by
  intro co_rows co_marks co_rowSets co_partners co_open co_count tr_kinds tr_lefts tr_rights tr_seconds tr_size gr_kinds gr_nodes gr_rowSets gr_firstStates gr_targetCounts gr_targets gr_stepScores gr_letterScores gr_size tx_letters tx_length va_scores va_knownEnds hi_begins hi_lengths hi_scores hi_taken hi_count de_states de_begins de_lengths de_length mo_rows mo_columns mo_marks mo_letters mo_mate mo_made mo_nodes mo_sort mo_from mo_to mo_begin mo_other mo_states mo_kinds mo_nodeOf mo_steps mo_emissions mo_length mo_text mo_worked mo_values mo_hits mo_hitAt mo_hitLength mo_written mo_listState mo_listAt mo_listLength mo_stack hR a1 a2
  obtain ⟨R, C, mk, lt, T, tx, hF, hT, hG⟩ := hR
  obtain ⟨r0, e1, e2⟩ := o_target hG a1 a2
  exact ⟨r0, e1, e2, R, C, mk, lt, T, tx, hF, hT, hG⟩
set_option maxHeartbeats 2000000 in
theorem s_step : sim_step RelF := by
  intro co_rows co_marks co_rowSets co_partners co_open co_count tr_kinds tr_lefts tr_rights tr_seconds tr_size gr_kinds gr_nodes gr_rowSets gr_firstStates gr_targetCounts gr_targets gr_stepScores gr_letterScores gr_size tx_letters tx_length va_scores va_knownEnds hi_begins hi_lengths hi_scores hi_taken hi_count de_states de_begins de_lengths de_length mo_rows mo_columns mo_marks mo_letters mo_mate mo_made mo_nodes mo_sort mo_from mo_to mo_begin mo_other mo_states mo_kinds mo_nodeOf mo_steps mo_emissions mo_length mo_text mo_worked mo_values mo_hits mo_hitAt mo_hitLength mo_written mo_listState mo_listAt mo_listLength mo_stack hR a1 a2
  obtain ⟨R, C, mk, lt, T, tx, hF, hT, hG⟩ := hR
  obtain ⟨r0, e1, e2⟩ := o_step hG a1 a2
  exact ⟨r0, e1, e2, R, C, mk, lt, T, tx, hF, hT, hG⟩
set_option maxHeartbeats 2000000 in
theorem s_emits : sim_emits RelF := by
  intro co_rows co_marks co_rowSets co_partners co_open co_count tr_kinds tr_lefts tr_rights tr_seconds tr_size gr_kinds gr_nodes gr_rowSets gr_firstStates gr_targetCounts gr_targets gr_stepScores gr_letterScores gr_size tx_letters tx_length va_scores va_knownEnds hi_begins hi_lengths hi_scores hi_taken hi_count de_states de_begins de_lengths de_length mo_rows mo_columns mo_marks mo_letters mo_mate mo_made mo_nodes mo_sort mo_from mo_to mo_begin mo_other mo_states mo_kinds mo_nodeOf mo_steps mo_emissions mo_length mo_text mo_worked mo_values mo_hits mo_hitAt mo_hitLength mo_written mo_listState mo_listAt mo_listLength mo_stack hR a1 a2 a3
  obtain ⟨R, C, mk, lt, T, tx, hF, hT, hG⟩ := hR
  obtain ⟨r0, e1, e2⟩ := o_emits hG a1 a2 a3
  exact ⟨r0, e1, e2, R, C, mk, lt, T, tx, hF, hT, hG⟩
set_option maxHeartbeats 2000000 in
theorem s_feed : sim_feed RelF := by
  intro co_rows co_marks co_rowSets co_partners co_open co_count tr_kinds tr_lefts tr_rights tr_seconds tr_size gr_kinds gr_nodes gr_rowSets gr_firstStates gr_targetCounts gr_targets gr_stepScores gr_letterScores gr_size tx_letters tx_length va_scores va_knownEnds hi_begins hi_lengths hi_scores hi_taken hi_count de_states de_begins de_lengths de_length mo_rows mo_columns mo_marks mo_letters mo_mate mo_made mo_nodes mo_sort mo_from mo_to mo_begin mo_other mo_states mo_kinds mo_nodeOf mo_steps mo_emissions mo_length mo_text mo_worked mo_values mo_hits mo_hitAt mo_hitLength mo_written mo_listState mo_listAt mo_listLength mo_stack hR a1 a2
  obtain ⟨R, C, mk, lt, T, tx, hF, hT, hG⟩ := hR
  obtain ⟨r0, l2, n2, hc2, m2, t2, wk2, mh2, e1, e2, T2, tx2, hT2, hG2⟩ := o_feed hT hG a1 a2
  exact ⟨_, _, _, _, _, _, _, _, e1, e2, R, C, mk, lt, T2, tx2, hF, hT2, hG2⟩
set_option maxHeartbeats 2000000 in
theorem s_erase : sim_erase RelF := by
  intro co_rows co_marks co_rowSets co_partners co_open co_count tr_kinds tr_lefts tr_rights tr_seconds tr_size gr_kinds gr_nodes gr_rowSets gr_firstStates gr_targetCounts gr_targets gr_stepScores gr_letterScores gr_size tx_letters tx_length va_scores va_knownEnds hi_begins hi_lengths hi_scores hi_taken hi_count de_states de_begins de_lengths de_length mo_rows mo_columns mo_marks mo_letters mo_mate mo_made mo_nodes mo_sort mo_from mo_to mo_begin mo_other mo_states mo_kinds mo_nodeOf mo_steps mo_emissions mo_length mo_text mo_worked mo_values mo_hits mo_hitAt mo_hitLength mo_written mo_listState mo_listAt mo_listLength mo_stack hR
  obtain ⟨R, C, mk, lt, T, tx, hF, hT, hG⟩ := hR
  have hG2 := GrR_erase hG
  exact ⟨0, 0, 0, 0, 0, 0, rfl, rfl, R, C, mk, lt, 0, tx, hF, ⟨Nat.zero_le _, rfl, rfl, (fun j hj => absurd hj (Nat.not_lt_zero j))⟩, hG2⟩
set_option maxHeartbeats 2000000 in
theorem s_value : sim_value RelF := by
  intro co_rows co_marks co_rowSets co_partners co_open co_count tr_kinds tr_lefts tr_rights tr_seconds tr_size gr_kinds gr_nodes gr_rowSets gr_firstStates gr_targetCounts gr_targets gr_stepScores gr_letterScores gr_size tx_letters tx_length va_scores va_knownEnds hi_begins hi_lengths hi_scores hi_taken hi_count de_states de_begins de_lengths de_length mo_rows mo_columns mo_marks mo_letters mo_mate mo_made mo_nodes mo_sort mo_from mo_to mo_begin mo_other mo_states mo_kinds mo_nodeOf mo_steps mo_emissions mo_length mo_text mo_worked mo_values mo_hits mo_hitAt mo_hitLength mo_written mo_listState mo_listAt mo_listLength mo_stack hR a1 a2 a3
  obtain ⟨R, C, mk, lt, T, tx, hF, hT, hG⟩ := hR
  obtain ⟨r0, x1, x2, y1, y2, e1, e2, hG2⟩ := o_value hT hG a1 a2 a3
  exact ⟨_, _, _, _, _, e1, e2, R, C, mk, lt, T, tx, hF, hT, hG2⟩
set_option maxHeartbeats 2000000 in
theorem s_scan : sim_scan RelF := by
  intro co_rows co_marks co_rowSets co_partners co_open co_count tr_kinds tr_lefts tr_rights tr_seconds tr_size gr_kinds gr_nodes gr_rowSets gr_firstStates gr_targetCounts gr_targets gr_stepScores gr_letterScores gr_size tx_letters tx_length va_scores va_knownEnds hi_begins hi_lengths hi_scores hi_taken hi_count de_states de_begins de_lengths de_length mo_rows mo_columns mo_marks mo_letters mo_mate mo_made mo_nodes mo_sort mo_from mo_to mo_begin mo_other mo_states mo_kinds mo_nodeOf mo_steps mo_emissions mo_length mo_text mo_worked mo_values mo_hits mo_hitAt mo_hitLength mo_written mo_listState mo_listAt mo_listLength mo_stack hR a1 a2
  obtain ⟨R, C, mk, lt, T, tx, hF, hT, hG⟩ := hR
  obtain ⟨r0, x1, x2, x3, x4, x5, x6, x7, y1, y2, y3, y4, y5, e1, e2, hG2⟩ := o_scan (hi_taken := hi_taken) hT hG a1 a2
  exact ⟨_, _, _, _, _, _, _, _, _, _, _, _, _, e1, e2, R, C, mk, lt, T, tx, hF, hT, hG2⟩
set_option maxHeartbeats 2000000 in
theorem s_hit : sim_hit RelF := by
  intro co_rows co_marks co_rowSets co_partners co_open co_count tr_kinds tr_lefts tr_rights tr_seconds tr_size gr_kinds gr_nodes gr_rowSets gr_firstStates gr_targetCounts gr_targets gr_stepScores gr_letterScores gr_size tx_letters tx_length va_scores va_knownEnds hi_begins hi_lengths hi_scores hi_taken hi_count de_states de_begins de_lengths de_length mo_rows mo_columns mo_marks mo_letters mo_mate mo_made mo_nodes mo_sort mo_from mo_to mo_begin mo_other mo_states mo_kinds mo_nodeOf mo_steps mo_emissions mo_length mo_text mo_worked mo_values mo_hits mo_hitAt mo_hitLength mo_written mo_listState mo_listAt mo_listLength mo_stack hR a1 a2
  obtain ⟨R, C, mk, lt, T, tx, hF, hT, hG⟩ := hR
  obtain ⟨r0, ⟨x1, x2, x3, x4, e1⟩, y1, y2, y3, y4, y5, e2⟩ := o_hit (de_states := de_states) (de_begins := de_begins) (de_lengths := de_lengths) (de_length := de_length) (mo_written := mo_written) (mo_listState := mo_listState) (mo_listAt := mo_listAt) (mo_listLength := mo_listLength) (mo_stack := mo_stack) hT hG a1 a2
  exact ⟨_, _, _, _, _, _, _, _, _, _, e1, e2, R, C, mk, lt, T, tx, hF, hT, hG⟩
set_option maxHeartbeats 2000000 in
theorem s_derived : sim_derived RelF := by
  intro co_rows co_marks co_rowSets co_partners co_open co_count tr_kinds tr_lefts tr_rights tr_seconds tr_size gr_kinds gr_nodes gr_rowSets gr_firstStates gr_targetCounts gr_targets gr_stepScores gr_letterScores gr_size tx_letters tx_length va_scores va_knownEnds hi_begins hi_lengths hi_scores hi_taken hi_count de_states de_begins de_lengths de_length mo_rows mo_columns mo_marks mo_letters mo_mate mo_made mo_nodes mo_sort mo_from mo_to mo_begin mo_other mo_states mo_kinds mo_nodeOf mo_steps mo_emissions mo_length mo_text mo_worked mo_values mo_hits mo_hitAt mo_hitLength mo_written mo_listState mo_listAt mo_listLength mo_stack hR a1 a2 a3
  obtain ⟨R, C, mk, lt, T, tx, hF, hT, hG⟩ := hR
  obtain ⟨r0, ⟨x1, x2, x3, x4, e1⟩, y1, y2, y3, y4, y5, e2⟩ := o_derived (de_states := de_states) (de_begins := de_begins) (de_lengths := de_lengths) (de_length := de_length) (mo_written := mo_written) (mo_listState := mo_listState) (mo_listAt := mo_listAt) (mo_listLength := mo_listLength) (mo_stack := mo_stack) hT hG a1 a2 a3
  exact ⟨_, _, _, _, _, _, _, _, _, _, e1, e2, R, C, mk, lt, T, tx, hF, hT, hG⟩
set_option maxHeartbeats 2000000 in
theorem s_build : sim_build RelF := by
  intro co_rows co_marks co_rowSets co_partners co_open co_count tr_kinds tr_lefts tr_rights tr_seconds tr_size gr_kinds gr_nodes gr_rowSets gr_firstStates gr_targetCounts gr_targets gr_stepScores gr_letterScores gr_size tx_letters tx_length va_scores va_knownEnds hi_begins hi_lengths hi_scores hi_taken hi_count de_states de_begins de_lengths de_length mo_rows mo_columns mo_marks mo_letters mo_mate mo_made mo_nodes mo_sort mo_from mo_to mo_begin mo_other mo_states mo_kinds mo_nodeOf mo_steps mo_emissions mo_length mo_text mo_worked mo_values mo_hits mo_hitAt mo_hitLength mo_written mo_listState mo_listAt mo_listLength mo_stack hR
  obtain ⟨R, C, mk, lt, T, tx, hF, hT, hG⟩ := hR
  have hF0 := hF
  obtain ⟨⟨h1, h2, h3⟩, ⟨rfl, rfl, rfl, rfl⟩, hm, hlt, hrs⟩ := hF
  obtain ⟨P', op', hp⟩ := c_pairUp (marks := co_marks) (P := co_partners) (op := co_open) h3 (fun c hc => ⟨(hm c hc).1, (hm c hc).2.1⟩)
  have hmp := m_pair (marks := mo_marks) (P := P') (M := mo_mate) h3 (fun c hc => ⟨(hm c hc).1, (hm c hc).2.2⟩)
  rcases hp with ⟨hb, hp1, hPP⟩ | ⟨hb, hp1⟩
  · obtain ⟨M', hm1, hmM⟩ := hmp.1 hb hPP
    obtain ⟨nl, N, hNG, hcols, hgrow, hplant⟩ := tree_ok h3 (PP_HPr (fun c hc => (hm c hc).1) h3 hPP) hb
    obtain ⟨K', L', Q', S', g1, g2, g3⟩ := hgrow tr_kinds tr_lefts tr_rights tr_seconds tr_size
    obtain ⟨so', fr', to', ot', stk', j1, j2, j3⟩ := hplant M' hmM mo_nodes mo_sort mo_from mo_to mo_other mo_stack
    obtain ⟨gk, gn, gz, gb, gtc, gtt, gss, gls, k1, k2⟩ := c_make (lt := lt) h2 h3 hrs g2 hNG g3 gr_kinds gr_nodes gr_rowSets gr_firstStates gr_targetCounts gr_targets gr_stepScores gr_letterScores gr_size
    have hMT : MT R C lt nl N mo_letters so' fr' to' := ⟨h2, h3, hNG.1.1, fun r hr c hc => hlt c hc r (by omega), fun n hn => ⟨hNG.1.2.2.1 n hn, (hcols n hn).1, (j2 n hn).1, (j2 n hn).2.1, (j2 n hn).2.2, (hcols n hn).2.1, (hcols n hn).2.2⟩⟩
    obtain ⟨mb, mk', mn, s1, s2, s3⟩ := m_settle hNG.1.1 (fun n hn => ⟨hNG.1.2.2.1 n hn, (j2 n hn).1⟩) hNG.1.2.1 mo_begin mo_kinds mo_nodeOf mo_states
    obtain ⟨y, st', em', b1, b2⟩ := m_build20 hMT hNG s2 s3 j3 (kk := f_Mo_build_K20_85 M' (nI N) so' fr' to' ot' stk' mb (nI (fs nl N)) mk' mn) 1000 0 mo_steps mo_emissions (by omega) (by have := hNG.1.2.1; omega) (fun v hv => by omega)
    have b1 : f_Mo_build_L20 (nI R) mo_letters so' fr' to' ot' mb (nI (fs nl N)) mk' mn (f_Mo_build_K20_85 M' (nI N) so' fr' to' ot' stk' mb (nI (fs nl N)) mk' mn) 1000 0 mo_steps mo_emissions = _ := b1
    have e1 : f_Fa_build (nI R) co_marks co_rowSets co_partners co_open (nI C) tr_kinds tr_lefts tr_rights tr_seconds tr_size gr_kinds gr_nodes gr_rowSets gr_firstStates gr_targetCounts gr_targets gr_stepScores gr_letterScores gr_size va_knownEnds hi_count = some (nI (fs nl N), P', op', K', L', Q', S', nI N, gk, gn, gz, gb, gtc, gtt, gss, gls, nI (fs nl N), 0, 0) := by
      unfold f_Fa_build
      rw [hp1, ob3_some, if_neg (by decide : ¬ (1 : Int32) = 0), g1, ob5_some, k1, ob9_some]
      rfl
    have e2 : f_Mo_build (nI R) (nI C) mo_marks mo_letters mo_mate mo_made mo_nodes mo_sort mo_from mo_to mo_begin mo_other mo_states mo_kinds mo_nodeOf mo_steps mo_emissions mo_worked mo_hits mo_stack = some (nI (fs nl N), M', 1, nI N, so', fr', to', mb, ot', nI (fs nl N), mk', mn, st', em', 0, 0, stk') := by
      unfold f_Mo_build
      rw [hm1, ob2_some, if_neg (by decide : ¬ (1 : Int32) = 0), j1, ob6_some, s1, ob4_some, b1]
      rfl
    refine ⟨_, _, _, _, _, _, _, _, _, _, _, _, _, _, _, _, _, _, _, _, _, _, _, _, _, _, _, _, _, _, _, _, _, _, _, e1, e2, R, C, mk, lt, T, tx, hF0, hT, Or.inr ⟨rfl, fs nl N, kdf nl N, ndf nl N, tgf nl N, stf R lt nl N, emf R lt nl N, rkf nl N, 0, 0, [], 12, wf_all hNG, k2, fun v hv => ?_, ⟨rfl, rfl⟩, ⟨by omega, rfl, fun w' j e hw he hje hq => by omega⟩, ⟨by omega, rfl, fun h => by omega⟩, rfl, rfl, Nat.zero_le _, Nat.le_refl _, (fun h hh => absurd hh List.not_mem_nil), (fun k hk => absurd hk (Nat.not_lt_zero k)), (fun k hk => absurd hk (Nat.not_lt_zero k)), (fun h => absurd rfl h), (fun h hh => absurd hh List.not_mem_nil)⟩⟩
    obtain ⟨a1, a2, -⟩ := Ly_at s2 hv
    have ht := m_targetOf hNG.1 s2 s3 j3 hv
    exact ⟨a1, a2, ht.1, ht.2, (b2 v hv).1, (b2 v hv).2⟩
  · obtain ⟨M', hm1⟩ := hmp.2 hb
    have e1 : f_Fa_build (nI R) co_marks co_rowSets co_partners co_open (nI C) tr_kinds tr_lefts tr_rights tr_seconds tr_size gr_kinds gr_nodes gr_rowSets gr_firstStates gr_targetCounts gr_targets gr_stepScores gr_letterScores gr_size va_knownEnds hi_count = some ((-1000000 : Int32), P', op', tr_kinds, tr_lefts, tr_rights, tr_seconds, tr_size, gr_kinds, gr_nodes, gr_rowSets, gr_firstStates, gr_targetCounts, gr_targets, gr_stepScores, gr_letterScores, gr_size, va_knownEnds, hi_count) := by
      unfold f_Fa_build
      rw [hp1, ob3_some, if_pos rfl]
    have e2 : f_Mo_build (nI R) (nI C) mo_marks mo_letters mo_mate mo_made mo_nodes mo_sort mo_from mo_to mo_begin mo_other mo_states mo_kinds mo_nodeOf mo_steps mo_emissions mo_worked mo_hits mo_stack = some ((-1000000 : Int32), M', mo_made, mo_nodes, mo_sort, mo_from, mo_to, mo_begin, mo_other, mo_states, mo_kinds, mo_nodeOf, mo_steps, mo_emissions, mo_worked, mo_hits, mo_stack) := by
      unfold f_Mo_build
      rw [hm1, ob2_some, if_pos rfl]
    exact ⟨_, _, _, _, _, _, _, _, _, _, _, _, _, _, _, _, _, _, _, _, _, _, _, _, _, _, _, _, _, _, _, _, _, _, _, e1, e2, R, C, mk, lt, T, tx, hF0, hT, hG⟩

theorem sims_all : Sims RelF := ⟨s_column, s_clear, s_build, s_kind, s_node, s_target, s_step, s_emits, s_feed, s_erase, s_value, s_scan, s_hit, s_derived⟩
theorem rows_eq (a : Int32) : ∃ R : Nat, 1 ≤ R ∧ R ≤ 4 ∧ imax 1 (imin 4 a) = nI R ∧ (if (1 : Int32) ≤ a then (if a ≤ (4 : Int32) then a else (4 : Int32)) else (1 : Int32)) = nI R := by
  unfold imax imin
  have e1 : (1 : Int32).toInt = 1 := rfl
  have e4 : (4 : Int32).toInt = 4 := rfl
  by_cases h1 : (1 : Int32) ≤ a
  · rw [if_pos h1]
    by_cases h4 : a ≤ 4
    · rw [if_pos h4]
      have h0 : ¬ a < 0 := fun q => by
        rw [Int32.lt_iff_toInt_lt] at q
        rw [Int32.le_iff_toInt_le] at h1
        have e0 : (0 : Int32).toInt = 0 := rfl
        omega
      obtain ⟨j, hj, rfl⟩ := nI_of2 (M := 4) (n := 4) rfl h0 h4
      have hj1 : 1 ≤ j := by rw [nI1] at h1; exact (nI_leI (by omega) (by omega)).mp h1
      refine ⟨j, hj1, hj, ?_, rfl⟩
      rcases (show j = 1 ∨ j = 2 ∨ j = 3 ∨ j = 4 by omega) with rfl | rfl | rfl | rfl <;> decide
    · rw [if_neg h4, if_neg (fun q => h4 (Int32.le_of_lt q))]
      exact ⟨4, by omega, by omega, rfl, rfl⟩
  · rw [if_neg h1]
    have hlt : a < 4 := by
      rw [Int32.lt_iff_toInt_lt]
      rw [Int32.le_iff_toInt_le] at h1
      omega
    rw [if_pos hlt]
    have hn : ¬ (1 : Int32) < a := fun q => h1 (Int32.le_of_lt q)
    rw [if_neg hn]
    exact ⟨1, by omega, by omega, rfl, rfl⟩
theorem rel_init (a1 : Int32) : RelF (imax 1 (imin 4 a1)) (fun _ => (0 : Int32)) (fun _ => (0 : Int32)) (fun _ => (0 : Int32)) (fun _ => (0 : Int32)) (0 : Int32) (fun _ => (0 : Int32)) (fun _ => (0 : Int32)) (fun _ => (0 : Int32)) (fun _ => (0 : Int32)) (0 : Int32) (fun _ => (0 : Int32)) (fun _ => (0 : Int32)) (fun _ => (0 : Int32)) (fun _ => (0 : Int32)) (fun _ => (0 : Int32)) (fun _ => (0 : Int32)) (fun _ => (0 : Int32)) (fun _ => (0 : Int32)) (0 : Int32) (fun _ => (0 : Int32)) (0 : Int32) (fun _ => (0 : Int32)) (0 : Int32) (fun _ => (0 : Int32)) (fun _ => (0 : Int32)) (fun _ => (0 : Int32)) (fun _ => (0 : Int32)) (0 : Int32) (fun _ => (0 : Int32)) (fun _ => (0 : Int32)) (fun _ => (0 : Int32)) (0 : Int32) (if (1 : Int32) ≤ a1 then (if a1 ≤ (4 : Int32) then a1 else (4 : Int32)) else (1 : Int32)) (0 : Int32) (fun _ => (0 : Int32)) (fun _ => (0 : Int32)) (fun _ => (0 : Int32)) (0 : Int32) (0 : Int32) (fun _ => (0 : Int32)) (fun _ => (0 : Int32)) (fun _ => (0 : Int32)) (fun _ => (0 : Int32)) (fun _ => (0 : Int32)) (0 : Int32) (fun _ => (0 : Int32)) (fun _ => (0 : Int32)) (fun _ => (0 : Int32)) (fun _ => (0 : Int32)) (0 : Int32) (fun _ => (0 : Int32)) (0 : Int32) (fun _ => (0 : Int32)) (0 : Int32) (fun _ => (0 : Int32)) (fun _ => (0 : Int32)) (0 : Int32) (fun _ => (0 : Int32)) (fun _ => (0 : Int32)) (fun _ => (0 : Int32)) (fun _ => (0 : Int32)) := by
  obtain ⟨R, h1, h4, e1, e2⟩ := rows_eq a1
  exact ⟨R, 0, fun _ => 0, fun _ _ => 0, 0, fun _ => 0, ⟨⟨h1, h4, Nat.zero_le _⟩, ⟨e1, e2, rfl, rfl⟩, (fun c hc => absurd hc (Nat.not_lt_zero c)), (fun c hc => absurd hc (Nat.not_lt_zero c)), (fun c hc => absurd hc (Nat.not_lt_zero c))⟩, ⟨Nat.zero_le _, rfl, rfl, (fun j hj => absurd hj (Nat.not_lt_zero j))⟩, Or.inl ⟨rfl, rfl, rfl, rfl⟩⟩
