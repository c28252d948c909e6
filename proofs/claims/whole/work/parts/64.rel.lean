/-! 64.rel: value, scan, hit, derived -/
section RM
variable {T : Nat} {tx : Nat → Nat} {gr_kinds gr_nodes gr_targetCounts gr_targets gr_stepScores gr_letterScores : Nat → Int32} {gr_size : Int32} {va_scores : Nat → Int32} {va_knownEnds : Int32} {hi_begins hi_lengths hi_scores : Nat → Int32} {hi_count mo_made : Int32} {mo_begin mo_other : Nat → Int32} {mo_states : Int32} {mo_kinds mo_nodeOf mo_steps mo_emissions : Nat → Int32} {mo_worked : Int32} {mo_values : Nat → Int32} {mo_hits : Int32} {mo_hitAt mo_hitLength : Nat → Int32} {tx_letters mo_text : Nat → Int32} {tx_length mo_length : Int32}
theorem part_cases (hT : T ≤ 24) (a2 a3 : Int32) : ((12 < a3 ∨ (¬ 12 < a3 ∧ f_Tx_hasPart (nI T) a2 a3 = some 0)) ∧ (a2 < 0 ∨ a3 < 0 ∨ 12 < a3 ∨ nI T < a2 ∨ ¬ a2 + a3 ≤ nI T)) ∨ (∃ i d, a2 = nI i ∧ a3 = nI d ∧ d ≤ 12 ∧ i + d ≤ T ∧ f_Tx_hasPart (nI T) a2 a3 = some 1) := by
  rcases ix_cases a3 (n := 13) (by omega) with h | ⟨h1, h2⟩ | ⟨d, hd, rfl, h1, h2⟩
  · refine Or.inl ⟨Or.inr ⟨?_, ?_⟩, Or.inr (Or.inl h)⟩
    · intro q
      rw [Int32.lt_iff_toInt_lt] at h q
      have e1 : (0 : Int32).toInt = 0 := rfl
      have e2 : (12 : Int32).toInt = 12 := rfl
      omega
    · unfold f_Tx_hasPart
      rw [if_pos h]
      split <;> rfl
  · have h3 : 12 < a3 := by
      rw [Int32.lt_iff_toInt_lt]
      rw [Int32.le_iff_toInt_le] at h2
      have e1 : (nI 13).toInt = 13 := rfl
      have e2 : (12 : Int32).toInt = 12 := rfl
      omega
    exact Or.inl ⟨Or.inl h3, Or.inr (Or.inr (Or.inl h3))⟩
  · have h12 : ¬ (12 : Int32) < nI d := by rw [nI12]; exact fun q => by have := (nI_ltI (by omega) (by omega)).mp q; omega
    unfold f_Tx_hasPart
    rcases ix_cases a2 (n := 25) (by omega) with g | ⟨g1, g2⟩ | ⟨i, hi, rfl, g1, g2⟩
    · refine Or.inl ⟨Or.inr ⟨h12, ?_⟩, Or.inl g⟩
      rw [if_pos g]
    · have g3 : nI T < a2 := by
        rw [Int32.lt_iff_toInt_lt, nI_toInt (by omega)]
        rw [Int32.le_iff_toInt_le] at g2
        have e1 : (nI 25).toInt = 25 := rfl
        omega
      refine Or.inl ⟨Or.inr ⟨h12, ?_⟩, Or.inr (Or.inr (Or.inr (Or.inl g3)))⟩
      rw [if_neg g1, if_neg h1]
      split
      · rfl
      · rw [if_pos]
        rw [Int32.lt_iff_toInt_lt, pk_sub_toInt (by omega) (by omega)]
        rw [Int32.le_iff_toInt_le] at g2
        have e1 : (nI 25).toInt = 25 := rfl
        omega
    · by_cases hid : i + d ≤ T
      · refine Or.inr ⟨i, d, rfl, rfl, by omega, hid, ?_⟩
        rw [if_neg g1, if_neg h1, if_neg (fun q => by have := (nI_ltI (by omega) (by omega)).mp q; omega), if_neg]
        rw [pk_sub (by omega)]
        exact fun q => by have := (nI_ltI (by omega) (by omega)).mp q; omega
      · refine Or.inl ⟨Or.inr ⟨h12, ?_⟩, Or.inr (Or.inr (Or.inr (Or.inr ?_)))⟩
        · rw [if_neg g1, if_neg h1]
          by_cases hTd : T < d
          · rw [if_pos ((nI_ltI (by omega) (by omega)).mpr hTd)]
          · rw [if_neg (fun q => hTd ((nI_ltI (by omega) (by omega)).mp q)), if_pos]
            rw [pk_sub (by omega)]
            exact (nI_ltI (by omega) (by omega)).mpr (by omega)
        · rw [nI_add]
          exact fun q => hid ((nI_leI (by omega) (by omega)).mp q)
theorem o_value (hX : TxR T tx tx_letters tx_length mo_length mo_text) (h : GrR T tx gr_kinds gr_nodes gr_targetCounts gr_targets gr_stepScores gr_letterScores gr_size va_scores va_knownEnds hi_begins hi_lengths hi_scores hi_count mo_made mo_begin mo_other mo_states mo_kinds mo_nodeOf mo_steps mo_emissions mo_worked mo_values mo_hits mo_hitAt mo_hitLength) (a1 a2 a3 : Int32) :
    ∃ r0 sc' ke' wk' vals', f_Fa_value gr_kinds gr_targetCounts gr_targets gr_stepScores gr_letterScores gr_size tx_letters tx_length va_scores va_knownEnds a1 a2 a3 = some (r0, sc', ke') ∧ f_Mo_value mo_made mo_begin mo_other mo_states mo_kinds mo_nodeOf mo_steps mo_emissions mo_length mo_text mo_worked mo_values a1 a2 a3 = some (r0, wk', vals') ∧ GrR T tx gr_kinds gr_nodes gr_targetCounts gr_targets gr_stepScores gr_letterScores gr_size sc' ke' hi_begins hi_lengths hi_scores hi_count mo_made mo_begin mo_other mo_states mo_kinds mo_nodeOf mo_steps mo_emissions wk' vals' mo_hits mo_hitAt mo_hitLength := by
  obtain ⟨hT, rfl, rfl, hL⟩ := hX
  rcases h with ⟨rfl, rfl, h3, h4⟩ | ⟨rfl, S, kd, nd, tg, st, em, rk, K, b, hs, w, hW, hC, hM, ⟨rfl, rfl⟩, ⟨hK1, rfl, hok⟩, ⟨hb1, rfl, hbv⟩, hH⟩
  · refine ⟨(-1000000), va_scores, va_knownEnds, mo_worked, mo_values, ?_, ?_, Or.inl ⟨rfl, rfl, h3, h4⟩⟩
    · unfold f_Fa_value; rw [hasState0]; rfl
    · unfold f_Mo_value; rw [isState0]; rfl
  · have hS := hW.1.2.1
    have hG : GrR T tx gr_kinds gr_nodes gr_targetCounts gr_targets gr_stepScores gr_letterScores (nI S) va_scores (nI K) hi_begins hi_lengths hi_scores hi_count 1 mo_begin mo_other (nI S) mo_kinds mo_nodeOf mo_steps mo_emissions (nI b) mo_values mo_hits mo_hitAt mo_hitLength := Or.inr ⟨rfl, S, kd, nd, tg, st, em, rk, K, b, hs, w, hW, hC, hM, ⟨rfl, rfl⟩, ⟨hK1, rfl, hok⟩, ⟨hb1, rfl, hbv⟩, hH⟩
    rcases st_cases hS a1 with ⟨h1, h2⟩ | ⟨v, hv, rfl, h1, h2⟩
    · refine ⟨(-1000000), va_scores, nI K, nI b, mo_values, ?_, ?_, hG⟩
      · unfold f_Fa_value; rw [h1]; rfl
      · unfold f_Mo_value; rw [h2]; rfl
    · rcases part_cases hT a2 a3 with ⟨hc, hm⟩ | ⟨i, d, rfl, rfl, hd, hid, hp⟩
      · refine ⟨(-1000000), va_scores, nI K, nI b, mo_values, ?_, ?_, hG⟩
        · unfold f_Fa_value
          rw [h1, ob1_some, if_neg (by decide : ¬ (1 : Int32) = 0)]
          rcases hc with q | ⟨q1, q2⟩
          · rw [if_pos q]
          · rw [if_neg q1, q2]; rfl
        · unfold f_Mo_value
          rw [h2, ob1_some, if_neg (by decide : ¬ (1 : Int32) = 0)]
          by_cases q1 : a2 < 0
          · rw [if_pos q1]
          · rw [if_neg q1]
            by_cases q2 : a3 < 0
            · rw [if_pos q2]
            · rw [if_neg q2]
              by_cases q3 : 12 < a3
              · rw [if_pos q3]
              · rw [if_neg q3]
                by_cases q4 : nI T < a2
                · rw [if_pos q4]
                · rw [if_neg q4, if_neg]
                  rcases hm with q | q | q | q | q
                  · exact absurd q q1
                  · exact absurd q q2
                  · exact absurd q q3
                  · exact absurd q q4
                  · exact q
      · obtain ⟨sc', e1, ok1⟩ := c_catchUp hW hC (fun j hj => ⟨(hL j hj).2.1, (hL j hj).1⟩) hT hK1 hok
        obtain ⟨vals', e2, ok2⟩ := m_work hW hM (fun j hj => ⟨(hL j hj).2.2, (hL j hj).1⟩) hT hb1 hbv
        have h12 : ¬ (12 : Int32) < nI d := by rw [nI12]; exact fun q => by have := (nI_ltI (by omega) (by omega)).mp q; omega
        refine ⟨enc (V S kd tg st em tx v i d), sc', nI (T + 1), nI 1, vals', ?_, ?_, Or.inr ⟨rfl, S, kd, nd, tg, st, em, rk, T + 1, 1, hs, w, hW, hC, hM, ⟨rfl, rfl⟩, ⟨Nat.le_refl _, rfl, ok1⟩, ⟨Nat.le_refl _, rfl, fun _ => ok2⟩, ?_⟩⟩
        · unfold f_Fa_value
          rw [h1, ob1_some, if_neg (by decide : ¬ (1 : Int32) = 0), if_neg h12, hp, ob1_some, if_neg (by decide : ¬ (1 : Int32) = 0), e1, ob2_some, c_of (by omega) hd (by omega), ob1_some, ok1 v i d hv hd (by omega) (by omega)]
        · unfold f_Mo_value
          rw [h2, ob1_some, if_neg (by decide : ¬ (1 : Int32) = 0), if_neg (nI_pos (show i < 2 ^ 31 by omega)), if_neg (nI_pos (show d < 2 ^ 31 by omega)), if_neg h12, if_neg (show ¬ nI T < nI i from fun q => by have := (nI_ltI (by omega) (by omega)).mp q; omega), nI_add, if_pos ((nI_leI (by omega) (by omega)).mpr hid), e2, ob2_some, m_cell, ob1_some, gd_in (cl_lt (by omega) (by omega) hd) (by omega), nI_clamp (by have := cl_lt (v := v) (i := i) (d := d) (by omega) (by omega) hd; omega), ok2 v i d ⟨hv, hd, hid⟩]
        · obtain ⟨g1, g2, g3, g4, g5, g6, g7, g8, g9⟩ := hH
          exact ⟨g1, g2, g3, g4, g5, g6, g7, fun _ => ⟨rfl, rfl⟩, g9⟩
theorem scanS_all {sv : Nat → Nat → Int32} {th : Int32} {w : Nat} : ∀ (n : Nat) (hs : Hs), (∀ h ∈ hs, sv h.1 h.2 ≠ (-1000000 : Int32)) → ∀ h ∈ scanS sv th w T n hs, sv h.1 h.2 ≠ (-1000000 : Int32) := by
  intro n
  induction n with
  | zero => intro hs h; exact h
  | succ n ih =>
    intro hs h
    rw [scanS]
    cases hq : sel sv th w T hs with
    | none => exact h
    | some q =>
      refine ih (hs ++ [q]) (fun g hg => ?_)
      rcases List.mem_append.mp hg with hg | hg
      · exact h g hg
      · rw [List.mem_singleton.mp hg]
        exact (sel_ok (hs := hs) q hq).2.2.2.2
theorem o_scan {hi_taken : Nat → Int32} (hX : TxR T tx tx_letters tx_length mo_length mo_text) (h : GrR T tx gr_kinds gr_nodes gr_targetCounts gr_targets gr_stepScores gr_letterScores gr_size va_scores va_knownEnds hi_begins hi_lengths hi_scores hi_count mo_made mo_begin mo_other mo_states mo_kinds mo_nodeOf mo_steps mo_emissions mo_worked mo_values mo_hits mo_hitAt mo_hitLength) (a1 a2 : Int32) :
    ∃ r0 sc' ke' hb' hl' hsc' htk' hc' wk' vals' mh' mat' mln', f_Fa_scan gr_kinds gr_targetCounts gr_targets gr_stepScores gr_letterScores gr_size tx_letters tx_length va_scores va_knownEnds hi_begins hi_lengths hi_scores hi_taken hi_count a1 a2 = some (r0, sc', ke', hb', hl', hsc', htk', hc') ∧ f_Mo_scan mo_made mo_begin mo_other mo_states mo_kinds mo_nodeOf mo_steps mo_emissions mo_length mo_text mo_worked mo_values mo_hits mo_hitAt mo_hitLength a1 a2 = some (r0, wk', vals', mh', mat', mln') ∧ GrR T tx gr_kinds gr_nodes gr_targetCounts gr_targets gr_stepScores gr_letterScores gr_size sc' ke' hb' hl' hsc' hc' mo_made mo_begin mo_other mo_states mo_kinds mo_nodeOf mo_steps mo_emissions wk' vals' mh' mat' mln' := by
  obtain ⟨hT, rfl, rfl, hL⟩ := hX
  rcases h with ⟨rfl, rfl, h3, h4⟩ | ⟨rfl, S, kd, nd, tg, st, em, rk, K, b, hs, w, hW, hC, hM, ⟨rfl, rfl⟩, ⟨hK1, rfl, hok⟩, ⟨hb1, rfl, hbv⟩, hH⟩
  · refine ⟨(-1000000), va_scores, va_knownEnds, hi_begins, hi_lengths, hi_scores, hi_taken, hi_count, mo_worked, mo_values, mo_hits, mo_hitAt, mo_hitLength, rfl, rfl, Or.inl ⟨rfl, rfl, h3, h4⟩⟩
  · have hS := hW.1.2.1
    have hS0 := hW.1.1
    have hG : GrR T tx gr_kinds gr_nodes gr_targetCounts gr_targets gr_stepScores gr_letterScores (nI S) va_scores (nI K) hi_begins hi_lengths hi_scores hi_count 1 mo_begin mo_other (nI S) mo_kinds mo_nodeOf mo_steps mo_emissions (nI b) mo_values mo_hits mo_hitAt mo_hitLength := Or.inr ⟨rfl, S, kd, nd, tg, st, em, rk, K, b, hs, w, hW, hC, hM, ⟨rfl, rfl⟩, ⟨hK1, rfl, hok⟩, ⟨hb1, rfl, hbv⟩, hH⟩
    have hne : ¬ nI S = (0 : Int32) := by rw [nI0]; exact nI_ne (by omega) (by omega) (by omega)
    by_cases q1 : a1 < 1
    · refine ⟨(-1000000), va_scores, nI K, hi_begins, hi_lengths, hi_scores, hi_taken, hi_count, nI b, mo_values, mo_hits, mo_hitAt, mo_hitLength, ?_, ?_, hG⟩
      · unfold f_Fa_scan f_Gr_size
        rw [ob1_some, if_neg hne, if_pos q1]
      · unfold f_Mo_scan
        rw [if_neg (by decide : ¬ (1 : Int32) = 0), if_pos q1]
    · by_cases q2 : a1 ≤ 12
      · obtain ⟨W, hW12, rfl⟩ : ∃ W : Nat, W ≤ 12 ∧ a1 = nI W := by
          have h0 : ¬ a1 < 0 := fun q => q1 (by
            rw [Int32.lt_iff_toInt_lt] at q ⊢
            have e1 : (0 : Int32).toInt = 0 := rfl
            have e2 : (1 : Int32).toInt = 1 := rfl
            omega)
          obtain ⟨j, hj, e⟩ := nI_of2 (M := 12) (n := 12) rfl h0 q2
          exact ⟨j, hj, e⟩
        obtain ⟨sc', e1, ok1⟩ := c_catchUp hW hC (fun j hj => ⟨(hL j hj).2.1, (hL j hj).1⟩) hT hK1 hok
        obtain ⟨vals', e2, ok2⟩ := m_work hW hM (fun j hj => ⟨(hL j hj).2.2, (hL j hj).1⟩) hT hb1 hbv
        obtain ⟨hb', hl', hsc', htk', e3, h5⟩ := c_find (sv := fun i d => enc (V S kd tg st em tx 0 i d)) (th := a2) (w := W) (b := hi_begins) (l := hi_lengths) (sc := hi_scores) (tk := hi_taken) (c0 := hi_count) hT hW12 (fun j e hje he => ok1 0 j e hS0 he (by omega) (by omega))
        have hm := m_s32 (sv := fun i d => enc (V S kd tg st em tx 0 i d)) (th := a2) (w := W) (vals := vals') (W4 := nI 1) hT hW12 (fun j e hje he => ok2 0 j e ⟨hS0, he, hje⟩) 1000 [] mo_hitAt mo_hitLength (fun h hh => by cases hh) (fun k hk => by cases hk) (by rw [unt_nil]; exact Nat.le_of_eq (Nat.zero_add T)) (by rw [unt_nil]; omega)
        rw [unt_nil] at hm
        obtain ⟨at', ln', e4, h6, h7, h8⟩ := hm
        have e4' : f_Mo_scan_L32 (nI T) (nI W) a2 vals' (f_Mo_scan_K32_204 (nI 1) vals') 1000 (1 : Int32) (0 : Int32) mo_hitAt mo_hitLength = some (nI (scanS (fun i d => enc (V S kd tg st em tx 0 i d)) a2 W T T []).length, nI 1, vals', nI (scanS (fun i d => enc (V S kd tg st em tx 0 i d)) a2 W T T []).length, at', ln') := e4
        refine ⟨nI (scanS (fun i d => enc (V S kd tg st em tx 0 i d)) a2 W T T []).length, sc', nI (T + 1), hb', hl', hsc', htk', nI (scanS (fun i d => enc (V S kd tg st em tx 0 i d)) a2 W T T []).length, nI 1, vals', nI (scanS (fun i d => enc (V S kd tg st em tx 0 i d)) a2 W T T []).length, at', ln', ?_, ?_, Or.inr ⟨rfl, S, kd, nd, tg, st, em, rk, T + 1, 1, _, W, hW, hC, hM, ⟨rfl, rfl⟩, ⟨Nat.le_refl _, rfl, ok1⟩, ⟨Nat.le_refl _, rfl, fun _ => ok2⟩, rfl, rfl, by omega, hW12, h7, h5, h6, fun _ => ⟨rfl, rfl⟩, fun g hg hn => ?_⟩⟩
        · unfold f_Fa_scan f_Gr_size f_Tx_length f_Hi_count
          rw [ob1_some, if_neg hne, if_neg q1, if_pos q2, e1, ob2_some, ob1_some, e3, ob5_some, ob1_some]
        · unfold f_Mo_scan
          rw [if_neg (by decide : ¬ (1 : Int32) = 0), if_neg q1, if_pos q2, e2, ob2_some, e4']
        · have := scanS_all (T := T) (sv := fun i d => enc (V S kd tg st em tx 0 i d)) (th := a2) (w := W) T [] (fun h hh => by cases hh) g hg
          apply this
          show enc (V S kd tg st em tx 0 g.1 g.2) = _
          rw [hn]; rfl
      · refine ⟨(-1000000), va_scores, nI K, hi_begins, hi_lengths, hi_scores, hi_taken, hi_count, nI b, mo_values, mo_hits, mo_hitAt, mo_hitLength, ?_, ?_, hG⟩
        · unfold f_Fa_scan f_Gr_size
          rw [ob1_some, if_neg hne, if_neg q1, if_neg q2]
        · unfold f_Mo_scan
          rw [if_neg (by decide : ¬ (1 : Int32) = 0), if_neg q1, if_neg q2]
theorem hh_cases {n : Nat} (hn : n ≤ 24) (x : Int32) : (f_Hi_has (nI n) x = some 0 ∧ (x < 0 ∨ (¬ x < 0 ∧ nI n ≤ x))) ∨ (∃ k, k < n ∧ x = nI k ∧ f_Hi_has (nI n) x = some 1 ∧ ¬ x < 0 ∧ ¬ nI n ≤ x) := by
  unfold f_Hi_has
  rcases ix_cases x (n := n) (by omega) with h | ⟨h1, h2⟩ | ⟨j, hj, e, h1, h2⟩
  · rw [if_pos h]; exact Or.inl ⟨rfl, Or.inl h⟩
  · rw [if_neg h1, if_pos h2]; exact Or.inl ⟨rfl, Or.inr ⟨h1, h2⟩⟩
  · rw [if_neg h1, if_neg h2]; exact Or.inr ⟨j, hj, e, rfl, h1, h2⟩
theorem hits_of (h : GrR T tx gr_kinds gr_nodes gr_targetCounts gr_targets gr_stepScores gr_letterScores gr_size va_scores va_knownEnds hi_begins hi_lengths hi_scores hi_count mo_made mo_begin mo_other mo_states mo_kinds mo_nodeOf mo_steps mo_emissions mo_worked mo_values mo_hits mo_hitAt mo_hitLength) (x : Int32) :
    (f_Hi_has hi_count x = some 0 ∧ (x < 0 ∨ (¬ x < 0 ∧ mo_hits ≤ x))) ∨ (∃ k i d S kd nd tg st em rk, k < 24 ∧ x = nI k ∧ f_Hi_has hi_count x = some 1 ∧ ¬ x < 0 ∧ ¬ mo_hits ≤ x ∧ WF S kd tg st em rk ∧ CR S kd nd tg st em gr_kinds gr_nodes gr_targetCounts gr_targets gr_stepScores gr_letterScores ∧ MR S kd nd tg st em mo_begin mo_other mo_kinds mo_nodeOf mo_steps mo_emissions ∧ Ok S (V S kd tg st em tx) (fun _ j e => j + e < T + 1) va_scores ∧ (∀ w j e, vld S T w j e → mo_values (cl w j e) = enc (V S kd tg st em tx w j e)) ∧ hi_begins k = nI i ∧ hi_lengths k = nI d ∧ hi_scores k = enc (V S kd tg st em tx 0 i d) ∧ mo_hitAt k = nI i ∧ mo_hitLength k = nI d ∧ d ≤ 12 ∧ i + d ≤ T ∧ V S kd tg st em tx 0 i d ≠ none) := by
  rcases h with ⟨-, -, rfl, rfl⟩ | ⟨rfl, S, kd, nd, tg, st, em, rk, K, b, hs, w, hW, hC, hM, ⟨rfl, rfl⟩, ⟨hK1, rfl, hok⟩, ⟨hb1, rfl, hbv⟩, rfl, rfl, g3, g4, g5, g6, g7, g8, g9⟩
  · rcases hh_cases (n := 0) (by omega) x with h | ⟨k, hk, -⟩
    · exact Or.inl h
    · omega
  · rcases hh_cases g3 x with h | ⟨k, hk, e, h1, h2, h3⟩
    · exact Or.inl h
    · have hmem : hs.getD k (0, 0) ∈ hs := by
        rw [List.getD_eq_getElem?_getD, List.getElem?_eq_getElem hk]
        exact List.getElem_mem hk
      have hne : hs ≠ [] := fun q => by rw [q] at hk; cases hk
      obtain ⟨hKT, hb⟩ := g8 hne
      have hq := g5 _ hmem
      rw [hKT] at hok
      exact Or.inr ⟨k, (hs.getD k (0, 0)).1, (hs.getD k (0, 0)).2, S, kd, nd, tg, st, em, rk, by omega, e, h1, h2, h3, hW, hC, hM, hok, hbv hb, (g6 k hk).1, (g6 k hk).2.1, (g6 k hk).2.2, (g7 k hk).1, (g7 k hk).2, by omega, hq.2.2, g9 _ hmem⟩
theorem i_ne {j m : Nat} (hj : j < 100) (hm : m < 100) (h : j ≠ m) : ¬ nI j = nI m := nI_ne (by omega) (by omega) h
theorem o_hit {de_states de_begins de_lengths mo_listState mo_listAt mo_listLength mo_stack : Nat → Int32} {de_length mo_written : Int32} (hX : TxR T tx tx_letters tx_length mo_length mo_text) (h : GrR T tx gr_kinds gr_nodes gr_targetCounts gr_targets gr_stepScores gr_letterScores gr_size va_scores va_knownEnds hi_begins hi_lengths hi_scores hi_count mo_made mo_begin mo_other mo_states mo_kinds mo_nodeOf mo_steps mo_emissions mo_worked mo_values mo_hits mo_hitAt mo_hitLength) (a1 a2 : Int32) :
    ∃ r0, (∃ x1 x2 x3 x4, f_Fa_hit gr_kinds gr_targetCounts gr_targets gr_stepScores gr_letterScores tx_letters va_scores hi_begins hi_lengths hi_scores hi_count de_states de_begins de_lengths de_length a1 a2 = some (r0, x1, x2, x3, x4)) ∧ ∃ y1 y2 y3 y4 y5, f_Mo_hit mo_begin mo_other mo_kinds mo_nodeOf mo_steps mo_emissions mo_text mo_values mo_hits mo_hitAt mo_hitLength mo_written mo_listState mo_listAt mo_listLength mo_stack a1 a2 = some (r0, y1, y2, y3, y4, y5) := by
  obtain ⟨hT, rfl, rfl, hL⟩ := hX
  rcases hits_of h a1 with ⟨h1, h2⟩ | ⟨k, i, d, S, kd, nd, tg, st, em, rk, hk, rfl, h1, h2, h3, hW, hC, hM, hok, hok2, b1, b2, b3, b4, b5, hd, hid, hz⟩
  · refine ⟨(-1000000), ⟨de_states, de_begins, de_lengths, de_length, ?_⟩, ⟨mo_written, mo_listState, mo_listAt, mo_listLength, mo_stack, ?_⟩⟩
    · unfold f_Fa_hit; rw [h1]; rfl
    · unfold f_Mo_hit
      rcases h2 with q | ⟨q1, q2⟩
      · rw [if_pos q]
      · rw [if_neg q1, if_pos q2]
  · have hS := hW.1.2.1
    have hS0 := hW.1.1
    have eb : f_Hi_begin hi_begins (nI k) = some (nI i) := by unfold f_Hi_begin; rw [gd_in hk (by omega), nI_clamp (by omega), b1]
    have el' : f_Hi_letters hi_lengths (nI k) = some (nI d) := by unfold f_Hi_letters; rw [gd_in hk (by omega), nI_clamp (by omega), b2]
    have es : f_Hi_score hi_scores (nI k) = some (enc (V S kd tg st em tx 0 i d)) := by unfold f_Hi_score; rw [gd_in hk (by omega), nI_clamp (by omega), b3]
    rcases ix_cases a2 (n := 4) (by omega) with q | ⟨q1, q2⟩ | ⟨j, hj, rfl, q1, q2⟩
    · have hne : ∀ m : Nat, m < 4 → ¬ a2 = nI m := fun m hm e => by rw [e] at q; exact nI_pos (by omega) q
      refine ⟨(-1000000), ⟨de_states, de_begins, de_lengths, de_length, ?_⟩, ⟨mo_written, mo_listState, mo_listAt, mo_listLength, mo_stack, ?_⟩⟩
      · unfold f_Fa_hit
        rw [h1, ob1_some, if_neg (by decide : ¬ (1 : Int32) = 0), if_neg (show ¬ a2 = (0 : Int32) from hne 0 (by omega)), if_neg (show ¬ a2 = (1 : Int32) from hne 1 (by omega)), if_neg (show ¬ a2 = (2 : Int32) from hne 2 (by omega)), if_neg (show ¬ a2 = (3 : Int32) from hne 3 (by omega))]
      · unfold f_Mo_hit
        rw [if_neg h2, if_neg h3, if_pos q]
    · have hne : ∀ m : Nat, m < 4 → ¬ a2 = nI m := fun m hm e => by rw [e] at q2; exact nI_ge hm (by omega) q2
      have h4 : ¬ a2 ≤ 3 := fun q => by
        rw [Int32.le_iff_toInt_le] at q q2
        have e1 : (nI 4).toInt = 4 := rfl
        have e2 : (3 : Int32).toInt = 3 := rfl
        omega
      refine ⟨(-1000000), ⟨de_states, de_begins, de_lengths, de_length, ?_⟩, ⟨mo_written, mo_listState, mo_listAt, mo_listLength, mo_stack, ?_⟩⟩
      · unfold f_Fa_hit
        rw [h1, ob1_some, if_neg (by decide : ¬ (1 : Int32) = 0), if_neg (show ¬ a2 = (0 : Int32) from hne 0 (by omega)), if_neg (show ¬ a2 = (1 : Int32) from hne 1 (by omega)), if_neg (show ¬ a2 = (2 : Int32) from hne 2 (by omega)), if_neg (show ¬ a2 = (3 : Int32) from hne 3 (by omega))]
      · unfold f_Mo_hit
        rw [if_neg h2, if_neg h3, if_neg q1, if_neg h4]
    · have h3' : nI j ≤ (3 : Int32) := by rw [nI3]; exact (nI_leI (by omega) (by omega)).mpr (by omega)
      rcases (show j = 0 ∨ j = 1 ∨ j = 2 ∨ j = 3 by omega) with rfl | rfl | rfl | rfl
      · refine ⟨nI i, ⟨de_states, de_begins, de_lengths, de_length, ?_⟩, ⟨mo_written, mo_listState, mo_listAt, mo_listLength, mo_stack, ?_⟩⟩
        · unfold f_Fa_hit
          rw [h1, ob1_some, if_neg (by decide : ¬ (1 : Int32) = 0), if_pos (show nI 0 = (0 : Int32) from rfl), eb, ob1_some]
        · unfold f_Mo_hit f_Mo_hit_J34
          rw [if_neg h2, if_neg h3, if_neg q1, if_pos h3', if_neg (show ¬ nI 0 = (3 : Int32) by decide), if_pos (show nI 0 = (0 : Int32) from rfl), gd_in hk (by omega), nI_clamp (by omega), b4]
      · refine ⟨nI d, ⟨de_states, de_begins, de_lengths, de_length, ?_⟩, ⟨mo_written, mo_listState, mo_listAt, mo_listLength, mo_stack, ?_⟩⟩
        · unfold f_Fa_hit
          rw [h1, ob1_some, if_neg (by decide : ¬ (1 : Int32) = 0), if_neg (show ¬ nI 1 = (0 : Int32) by decide), if_pos (show nI 1 = (1 : Int32) from rfl), el', ob1_some]
        · unfold f_Mo_hit f_Mo_hit_J34
          rw [if_neg h2, if_neg h3, if_neg q1, if_pos h3', if_neg (show ¬ nI 1 = (3 : Int32) by decide), if_neg (show ¬ nI 1 = (0 : Int32) by decide), if_pos (show nI 1 = (1 : Int32) from rfl), gd_in hk (by omega), nI_clamp (by omega), b5]
      · refine ⟨enc (V S kd tg st em tx 0 i d), ⟨de_states, de_begins, de_lengths, de_length, ?_⟩, ⟨mo_written, mo_listState, mo_listAt, mo_listLength, mo_stack, ?_⟩⟩
        · unfold f_Fa_hit
          rw [h1, ob1_some, if_neg (by decide : ¬ (1 : Int32) = 0), if_neg (show ¬ nI 2 = (0 : Int32) by decide), if_neg (show ¬ nI 2 = (1 : Int32) by decide), if_pos (show nI 2 = (2 : Int32) from rfl), es, ob1_some]
        · have hc' : f_Mo_cell (0 : Int32) (nI i) (nI d) = some (nI (cl 0 i d)) := m_cell 0 i d
          unfold f_Mo_hit f_Mo_hit_J34
          rw [if_neg h2, if_neg h3, if_neg q1, if_pos h3', if_neg (show ¬ nI 2 = (3 : Int32) by decide), if_neg (show ¬ nI 2 = (0 : Int32) by decide), if_neg (show ¬ nI 2 = (1 : Int32) by decide), if_pos (show nI 2 = (2 : Int32) from rfl), gd_in hk (by omega), gd_in hk (by omega), nI_clamp (show k < 2 ^ 31 by omega), b4, b5, hc', ob1_some, gd_in (cl_lt (by omega) (by omega) hd) (by omega), nI_clamp (by have := cl_lt (v := 0) (i := i) (d := d) (by omega) (by omega) hd; omega), hok2 0 i d ⟨hS0, hd, hid⟩]
      · obtain ⟨a', b', c', e1, r1⟩ := c_write (a := de_states) (b := de_begins) (c := de_lengths) (l0 := de_length) hW hC (fun j hj => ⟨(hL j hj).2.1, (hL j hj).1⟩) hT hok hd hid hz
        obtain ⟨a2', b2', c2', stk', e2, r2⟩ := m_write (a := mo_listState) (b := mo_listAt) (c := mo_listLength) (stk := mo_stack) (w0 := mo_written) hW hM (fun j hj => ⟨(hL j hj).2.2, (hL j hj).1⟩) hT hok2 hk b4 b5 hd hid hz
        refine ⟨nI (der S kd tg st em tx 40 0 i d).length, ⟨a', b', c', nI (der S kd tg st em tx 40 0 i d).length, ?_⟩, ⟨nI (der S kd tg st em tx 40 0 i d).length, a2', b2', c2', stk', ?_⟩⟩
        · unfold f_Fa_hit f_De_length
          rw [h1, ob1_some, if_neg (by decide : ¬ (1 : Int32) = 0), if_neg (show ¬ nI 3 = (0 : Int32) by decide), if_neg (show ¬ nI 3 = (1 : Int32) by decide), if_neg (show ¬ nI 3 = (2 : Int32) by decide), if_pos (show nI 3 = (3 : Int32) from rfl), eb, ob1_some, el', ob1_some, e1, ob4_some, ob1_some]
        · unfold f_Mo_hit f_Mo_hit_J34
          rw [if_neg h2, if_neg h3, if_neg q1, if_pos h3', if_pos (show nI 3 = (3 : Int32) from rfl), e2, ob5_some, if_neg (show ¬ nI 3 = (0 : Int32) by decide), if_neg (show ¬ nI 3 = (1 : Int32) by decide), if_neg (show ¬ nI 3 = (2 : Int32) by decide)]
theorem o_derived {de_states de_begins de_lengths mo_listState mo_listAt mo_listLength mo_stack : Nat → Int32} {de_length mo_written : Int32} (hX : TxR T tx tx_letters tx_length mo_length mo_text) (h : GrR T tx gr_kinds gr_nodes gr_targetCounts gr_targets gr_stepScores gr_letterScores gr_size va_scores va_knownEnds hi_begins hi_lengths hi_scores hi_count mo_made mo_begin mo_other mo_states mo_kinds mo_nodeOf mo_steps mo_emissions mo_worked mo_values mo_hits mo_hitAt mo_hitLength) (a1 a2 a3 : Int32) :
    ∃ r0, (∃ x1 x2 x3 x4, f_Fa_derived gr_kinds gr_targetCounts gr_targets gr_stepScores gr_letterScores tx_letters va_scores hi_begins hi_lengths hi_count de_states de_begins de_lengths de_length a1 a2 a3 = some (r0, x1, x2, x3, x4)) ∧ ∃ y1 y2 y3 y4 y5, f_Mo_derived mo_begin mo_other mo_kinds mo_nodeOf mo_steps mo_emissions mo_text mo_values mo_hits mo_hitAt mo_hitLength mo_written mo_listState mo_listAt mo_listLength mo_stack a1 a2 a3 = some (r0, y1, y2, y3, y4, y5) := by
  obtain ⟨hT, rfl, rfl, hL⟩ := hX
  rcases hits_of h a1 with ⟨h1, h2⟩ | ⟨k, i, d, S, kd, nd, tg, st, em, rk, hk, rfl, h1, h2, h3, hW, hC, hM, hok, hok2, b1, b2, b3, b4, b5, hd, hid, hz⟩
  · refine ⟨(-1000000), ⟨de_states, de_begins, de_lengths, de_length, ?_⟩, ⟨mo_written, mo_listState, mo_listAt, mo_listLength, mo_stack, ?_⟩⟩
    · unfold f_Fa_derived; rw [h1]; rfl
    · unfold f_Mo_derived
      rcases h2 with q | ⟨q1, q2⟩
      · rw [if_pos q]
      · rw [if_neg q1, if_pos q2]
  · have hS := hW.1.2.1
    have hS0 := hW.1.1
    have hw0 := hW.2.1 0 hS0
    have hl := der_len (tx := tx) hW 40 0 i d hS0 hz
    have eb : f_Hi_begin hi_begins (nI k) = some (nI i) := by unfold f_Hi_begin; rw [gd_in hk (by omega), nI_clamp (by omega), b1]
    have el' : f_Hi_letters hi_lengths (nI k) = some (nI d) := by unfold f_Hi_letters; rw [gd_in hk (by omega), nI_clamp (by omega), b2]
    obtain ⟨a', b', c', e1, r1⟩ := c_write (a := de_states) (b := de_begins) (c := de_lengths) (l0 := de_length) hW hC (fun j hj => ⟨(hL j hj).2.1, (hL j hj).1⟩) hT hok hd hid hz
    obtain ⟨a2', b2', c2', stk', e2, r2⟩ := m_write (a := mo_listState) (b := mo_listAt) (c := mo_listLength) (stk := mo_stack) (w0 := mo_written) hW hM (fun j hj => ⟨(hL j hj).2.2, (hL j hj).1⟩) hT hok2 hk b4 b5 hd hid hz
    have eC : f_Fa_derived gr_kinds gr_targetCounts gr_targets gr_stepScores gr_letterScores tx_letters va_scores hi_begins hi_lengths hi_count de_states de_begins de_lengths de_length (nI k) a2 a3 = (if a2 < 0 then (some ((-1000000 : Int32), a', b', c', nI (der S kd tg st em tx 40 0 i d).length)) else if a2 < nI (der S kd tg st em tx 40 0 i d).length then (if a3 = 0 then (ob1 (f_De_state a' a2) (fun r18 => some (r18, a', b', c', nI (der S kd tg st em tx 40 0 i d).length))) else (if a3 = 1 then (ob1 (f_De_begin b' a2) (fun r21 => some (r21, a', b', c', nI (der S kd tg st em tx 40 0 i d).length))) else (if a3 = 2 then (ob1 (f_De_letters c' a2) (fun r24 => some (r24, a', b', c', nI (der S kd tg st em tx 40 0 i d).length))) else (some ((-1000000), a', b', c', nI (der S kd tg st em tx 40 0 i d).length))))) else (some ((-1000000), a', b', c', nI (der S kd tg st em tx 40 0 i d).length))) := by
      unfold f_Fa_derived f_De_length
      rw [h1, ob1_some, if_neg (by decide : ¬ (1 : Int32) = 0), eb, ob1_some, el', ob1_some, e1, ob4_some]
      rfl
    have eM : ¬ a3 < 0 → a3 ≤ 2 → f_Mo_derived mo_begin mo_other mo_kinds mo_nodeOf mo_steps mo_emissions mo_text mo_values mo_hits mo_hitAt mo_hitLength mo_written mo_listState mo_listAt mo_listLength mo_stack (nI k) a2 a3 = (if a2 < 0 then (some ((-1000000 : Int32), nI (der S kd tg st em tx 40 0 i d).length, a2', b2', c2', stk')) else (if a2 < nI (der S kd tg st em tx 40 0 i d).length then (if a3 = 0 then (gd (xin a2 200) (some ((a2' (Int32.toNatClampNeg a2)), nI (der S kd tg st em tx 40 0 i d).length, a2', b2', c2', stk'))) else (if a3 = 1 then (gd (xin a2 200) (some ((b2' (Int32.toNatClampNeg a2)), nI (der S kd tg st em tx 40 0 i d).length, a2', b2', c2', stk'))) else (gd (xin a2 200) (some ((c2' (Int32.toNatClampNeg a2)), nI (der S kd tg st em tx 40 0 i d).length, a2', b2', c2', stk'))))) else (some ((-1000000), nI (der S kd tg st em tx 40 0 i d).length, a2', b2', c2', stk')))) := by
      intro g1 g2
      unfold f_Mo_derived
      rw [if_neg h2, if_neg h3, if_neg g1, if_pos g2, e2, ob5_some]
    rw [eC]
    generalize der S kd tg st em tx 40 0 i d = l at r1 r2 hl eM ⊢
    have hcl : ∀ n, n < l.length → f_De_state a' (nI n) = some (nI (l.getD n (0, 0, 0)).1) ∧ f_De_begin b' (nI n) = some (nI (l.getD n (0, 0, 0)).2.1) ∧ f_De_letters c' (nI n) = some (nI (l.getD n (0, 0, 0)).2.2) := by
      intro n hn
      unfold f_De_state f_De_begin f_De_letters
      rw [gd_in (show n < 30 by omega) (by omega), gd_in (show n < 30 by omega) (by omega), gd_in (show n < 30 by omega) (by omega), nI_clamp (by omega), (r1 n hn).1, (r1 n hn).2.1, (r1 n hn).2.2]
      exact ⟨rfl, rfl, rfl⟩
    rcases ix_cases a3 (n := 3) (by omega) with q | ⟨q1, q2⟩ | ⟨j, hj, rfl, q1, q2⟩
    · have hne : ∀ m : Nat, m < 4 → ¬ a3 = nI m := fun m hm e => by rw [e] at q; exact nI_pos (by omega) q
      refine ⟨(-1000000), ⟨a', b', c', nI l.length, ?_⟩, ⟨mo_written, mo_listState, mo_listAt, mo_listLength, mo_stack, ?_⟩⟩
      · rw [if_neg (show ¬ a3 = (0 : Int32) from hne 0 (by omega)), if_neg (show ¬ a3 = (1 : Int32) from hne 1 (by omega)), if_neg (show ¬ a3 = (2 : Int32) from hne 2 (by omega))]
        split
        · rfl
        · split <;> rfl
      · unfold f_Mo_derived
        rw [if_neg h2, if_neg h3, if_pos q]
    · have hne : ∀ m : Nat, m < 3 → ¬ a3 = nI m := fun m hm e => by rw [e] at q2; exact nI_ge hm (by omega) q2
      have h4 : ¬ a3 ≤ 2 := fun q => by
        rw [Int32.le_iff_toInt_le] at q q2
        have e1 : (nI 3).toInt = 3 := rfl
        have e2 : (2 : Int32).toInt = 2 := rfl
        omega
      refine ⟨(-1000000), ⟨a', b', c', nI l.length, ?_⟩, ⟨mo_written, mo_listState, mo_listAt, mo_listLength, mo_stack, ?_⟩⟩
      · rw [if_neg (show ¬ a3 = (0 : Int32) from hne 0 (by omega)), if_neg (show ¬ a3 = (1 : Int32) from hne 1 (by omega)), if_neg (show ¬ a3 = (2 : Int32) from hne 2 (by omega))]
        split
        · rfl
        · split <;> rfl
      · unfold f_Mo_derived
        rw [if_neg h2, if_neg h3, if_neg q1, if_neg h4]
    · have h3' : nI j ≤ (2 : Int32) := by rw [nI2]; exact (nI_leI (by omega) (by omega)).mpr (by omega)
      rw [eM q1 h3']
      rcases ix_cases a2 (n := l.length) (by omega) with p | ⟨p1, p2⟩ | ⟨n, hn, rfl, p1, p2⟩
      · rw [if_pos p, if_pos p]
        exact ⟨_, ⟨_, _, _, _, rfl⟩, ⟨_, _, _, _, _, rfl⟩⟩
      · have p3 : ¬ a2 < nI l.length := Int32.not_lt.mpr p2
        rw [if_neg p1, if_neg p3, if_neg p1, if_neg p3]
        exact ⟨_, ⟨_, _, _, _, rfl⟩, ⟨_, _, _, _, _, rfl⟩⟩
      · have p3 : nI n < nI l.length := (nI_ltI (by omega) (by omega)).mpr hn
        rw [if_neg p1, if_pos p3, if_neg p1, if_pos p3, (hcl n hn).1, (hcl n hn).2.1, (hcl n hn).2.2, gd_in (show n < 200 by omega) (by omega), gd_in (show n < 200 by omega) (by omega), gd_in (show n < 200 by omega) (by omega), nI_clamp (show n < 2 ^ 31 by omega), (r2 n hn).1, (r2 n hn).2.1, (r2 n hn).2.2]
        rcases (show j = 0 ∨ j = 1 ∨ j = 2 by omega) with rfl | rfl | rfl
        · rw [if_pos (show nI 0 = (0 : Int32) from rfl), if_pos (show nI 0 = (0 : Int32) from rfl)]
          exact ⟨_, ⟨_, _, _, _, rfl⟩, ⟨_, _, _, _, _, rfl⟩⟩
        · rw [if_neg (show ¬ nI 1 = (0 : Int32) by decide), if_pos (show nI 1 = (1 : Int32) from rfl), if_neg (show ¬ nI 1 = (0 : Int32) by decide), if_pos (show nI 1 = (1 : Int32) from rfl)]
          exact ⟨_, ⟨_, _, _, _, rfl⟩, ⟨_, _, _, _, _, rfl⟩⟩
        · rw [if_neg (show ¬ nI 2 = (0 : Int32) by decide), if_neg (show ¬ nI 2 = (1 : Int32) by decide), if_pos (show nI 2 = (2 : Int32) from rfl), if_neg (show ¬ nI 2 = (0 : Int32) by decide), if_neg (show ¬ nI 2 = (1 : Int32) by decide)]
          exact ⟨_, ⟨_, _, _, _, rfl⟩, ⟨_, _, _, _, _, rfl⟩⟩
end RM
