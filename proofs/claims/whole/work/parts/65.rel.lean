/-! 65.rel: feed, erase, column, clear -/
theorem c_app {a1 : Int32} {n0 T0 : Nat} {kk : Int32 → (Nat → Int32) → Int32 → Option ((Nat → Int32) × Int32)} (h12 : n0 ≤ 12) (hT : T0 + n0 ≤ 24) {l0 : Nat → Int32} :
    ∀ (n x : Nat) (l : Nat → Int32), x ≤ n0 → n0 < x + n → (∀ j, j < T0 → l j = l0 j) → (∀ j, j < x → l (T0 + j) = nI (bits2 a1 j)) →
      ∃ y l', f_Tx_append_L2 a1 (nI n0) kk n (nI x) l (nI (T0 + x)) = kk y l' (nI (T0 + n0)) ∧ (∀ j, j < T0 → l' j = l0 j) ∧ (∀ j, j < n0 → l' (T0 + j) = nI (bits2 a1 j)) := by
  intro n
  induction n with
  | zero => intro x l h1 h2; omega
  | succ n ih =>
    intro x l h1 h2 h3 h4
    rw [f_Tx_append_L2]
    by_cases c1 : n0 ≤ x
    · have e : x = n0 := by omega
      rw [if_pos ((nI_leI (by omega) (by omega)).mpr c1), e]
      exact ⟨_, l, rfl, h3, fun j hj => h4 j (by omega)⟩
    · rw [if_neg (fun h => c1 ((nI_leI (by omega) (by omega)).mp h)), gd_in (by omega) (by omega), ush2 a1 x (by omega), nI_clamp (by omega), nI1, nI_add, nI_add]
      refine ih (x + 1) _ (by omega) (by omega) (fun j hj => ?_) (fun j hj => ?_)
      · rw [pk_un (by omega)]; exact h3 j hj
      · by_cases ej : j = x
        · rw [ej, pk_us]
        · rw [pk_un (by omega)]; exact h4 j (by omega)
theorem m_app {a1 : Int32} {n0 T0 : Nat} {kk : Int32 → Int32 → (Nat → Int32) → Option (Int32 × Int32 × (Nat → Int32) × Int32 × Int32)} (h12 : n0 ≤ 12) (hT : T0 + n0 ≤ 24) {l0 : Nat → Int32} :
    ∀ (n x : Nat) (l : Nat → Int32), x ≤ n0 → n0 < x + n → (∀ j, j < T0 → l j = l0 j) → (∀ j, j < x → l (T0 + j) = nI (bits2 a1 j)) →
      ∃ y l', f_Mo_feed_L27 a1 (nI n0) kk n (nI x) (nI (T0 + x)) l = kk y (nI (T0 + n0)) l' ∧ (∀ j, j < T0 → l' j = l0 j) ∧ (∀ j, j < n0 → l' (T0 + j) = nI (bits2 a1 j)) := by
  intro n
  induction n with
  | zero => intro x l h1 h2; omega
  | succ n ih =>
    intro x l h1 h2 h3 h4
    rw [f_Mo_feed_L27]
    by_cases c1 : n0 ≤ x
    · have e : x = n0 := by omega
      rw [if_pos ((nI_leI (by omega) (by omega)).mpr c1), e]
      exact ⟨_, l, rfl, h3, fun j hj => h4 j (by omega)⟩
    · rw [if_neg (fun h => c1 ((nI_leI (by omega) (by omega)).mp h)), gd_in (by omega) (by omega), shr2 a1 x (by omega), nI_clamp (by omega), nI1, nI_add, nI_add]
      refine ih (x + 1) _ (by omega) (by omega) (fun j hj => ?_) (fun j hj => ?_)
      · rw [pk_un (by omega)]; exact h3 j hj
      · by_cases ej : j = x
        · rw [ej, pk_us]
        · rw [pk_un (by omega)]; exact h4 j (by omega)
section RN
variable {T : Nat} {tx : Nat → Nat} {gr_kinds gr_nodes gr_targetCounts gr_targets gr_stepScores gr_letterScores : Nat → Int32} {gr_size : Int32} {va_scores : Nat → Int32} {va_knownEnds : Int32} {hi_begins hi_lengths hi_scores : Nat → Int32} {hi_count mo_made : Int32} {mo_begin mo_other : Nat → Int32} {mo_states : Int32} {mo_kinds mo_nodeOf mo_steps mo_emissions : Nat → Int32} {mo_worked : Int32} {mo_values : Nat → Int32} {mo_hits : Int32} {mo_hitAt mo_hitLength : Nat → Int32} {tx_letters mo_text : Nat → Int32} {tx_length mo_length : Int32}
theorem GrR_text (h : GrR T tx gr_kinds gr_nodes gr_targetCounts gr_targets gr_stepScores gr_letterScores gr_size va_scores va_knownEnds hi_begins hi_lengths hi_scores hi_count mo_made mo_begin mo_other mo_states mo_kinds mo_nodeOf mo_steps mo_emissions mo_worked mo_values mo_hits mo_hitAt mo_hitLength) {T' : Nat} {tx' : Nat → Nat} (hT : T ≤ T') (htx : ∀ j, j < T → tx' j = tx j) : GrR T' tx' gr_kinds gr_nodes gr_targetCounts gr_targets gr_stepScores gr_letterScores gr_size va_scores va_knownEnds hi_begins hi_lengths hi_scores 0 mo_made mo_begin mo_other mo_states mo_kinds mo_nodeOf mo_steps mo_emissions 0 mo_values 0 mo_hitAt mo_hitLength := by
  rcases h with ⟨h1, h2, -, -⟩ | ⟨h0, S, kd, nd, tg, st, em, rk, K, b, hs, w, hW, hC, hM, hs1, ⟨hK1, hK2, hok⟩, -, -⟩
  · exact Or.inl ⟨h1, h2, rfl, rfl⟩
  · refine Or.inr ⟨h0, S, kd, nd, tg, st, em, rk, K, 0, [], 12, hW, hC, hM, hs1, ⟨by omega, hK2, fun w' j e hw he hje hq => ?_⟩, ⟨by omega, rfl, fun h => by omega⟩, rfl, rfl, Nat.zero_le _, Nat.le_refl _, (fun h hh => absurd hh List.not_mem_nil), (fun k hk => absurd hk (Nat.not_lt_zero k)), (fun k hk => absurd hk (Nat.not_lt_zero k)), (fun h => absurd rfl h), (fun h hh => absurd hh List.not_mem_nil)⟩
    rw [hok w' j e hw he hje hq, V_text hW _ w' j e hw (Nat.lt_succ_self _) (fun q h1 h2 => (htx q (by omega)).symm)]
theorem GrR_erase (h : GrR T tx gr_kinds gr_nodes gr_targetCounts gr_targets gr_stepScores gr_letterScores gr_size va_scores va_knownEnds hi_begins hi_lengths hi_scores hi_count mo_made mo_begin mo_other mo_states mo_kinds mo_nodeOf mo_steps mo_emissions mo_worked mo_values mo_hits mo_hitAt mo_hitLength) : GrR 0 tx gr_kinds gr_nodes gr_targetCounts gr_targets gr_stepScores gr_letterScores gr_size va_scores 0 hi_begins hi_lengths hi_scores 0 mo_made mo_begin mo_other mo_states mo_kinds mo_nodeOf mo_steps mo_emissions 0 mo_values 0 mo_hitAt mo_hitLength := by
  rcases h with ⟨h1, h2, -, -⟩ | ⟨h0, S, kd, nd, tg, st, em, rk, K, b, hs, w, hW, hC, hM, hs1, -, -, -⟩
  · exact Or.inl ⟨h1, h2, rfl, rfl⟩
  · exact Or.inr ⟨h0, S, kd, nd, tg, st, em, rk, 0, 0, [], 12, hW, hC, hM, hs1, ⟨by omega, rfl, fun w' j e hw he hje hq => by omega⟩, ⟨by omega, rfl, fun h => by omega⟩, rfl, rfl, Nat.zero_le _, Nat.le_refl _, (fun h hh => absurd hh List.not_mem_nil), (fun k hk => absurd hk (Nat.not_lt_zero k)), (fun k hk => absurd hk (Nat.not_lt_zero k)), (fun h => absurd rfl h), (fun h hh => absurd hh List.not_mem_nil)⟩
theorem o_feed (hX : TxR T tx tx_letters tx_length mo_length mo_text) (h : GrR T tx gr_kinds gr_nodes gr_targetCounts gr_targets gr_stepScores gr_letterScores gr_size va_scores va_knownEnds hi_begins hi_lengths hi_scores hi_count mo_made mo_begin mo_other mo_states mo_kinds mo_nodeOf mo_steps mo_emissions mo_worked mo_values mo_hits mo_hitAt mo_hitLength) (a1 a2 : Int32) :
    ∃ r0 l' n' hc' m' t' wk' mh', f_Fa_feed tx_letters tx_length hi_count a1 a2 = some (r0, l', n', hc') ∧ f_Mo_feed mo_length mo_text mo_worked mo_hits a1 a2 = some (r0, m', t', wk', mh') ∧ ∃ T' tx', TxR T' tx' l' n' m' t' ∧ GrR T' tx' gr_kinds gr_nodes gr_targetCounts gr_targets gr_stepScores gr_letterScores gr_size va_scores va_knownEnds hi_begins hi_lengths hi_scores hc' mo_made mo_begin mo_other mo_states mo_kinds mo_nodeOf mo_steps mo_emissions wk' mo_values mh' mo_hitAt mo_hitLength := by
  have hX0 := hX
  obtain ⟨hT, rfl, rfl, hL⟩ := hX
  have hno : ∀ (e1 : f_Fa_feed tx_letters (nI T) hi_count a1 a2 = some ((-1000000 : Int32), tx_letters, nI T, hi_count)) (e2 : f_Mo_feed (nI T) mo_text mo_worked mo_hits a1 a2 = some ((-1000000 : Int32), nI T, mo_text, mo_worked, mo_hits)), ∃ r0 l' n' hc' m' t' wk' mh', f_Fa_feed tx_letters (nI T) hi_count a1 a2 = some (r0, l', n', hc') ∧ f_Mo_feed (nI T) mo_text mo_worked mo_hits a1 a2 = some (r0, m', t', wk', mh') ∧ ∃ T' tx', TxR T' tx' l' n' m' t' ∧ GrR T' tx' gr_kinds gr_nodes gr_targetCounts gr_targets gr_stepScores gr_letterScores gr_size va_scores va_knownEnds hi_begins hi_lengths hi_scores hc' mo_made mo_begin mo_other mo_states mo_kinds mo_nodeOf mo_steps mo_emissions wk' mo_values mh' mo_hitAt mo_hitLength := fun e1 e2 => ⟨_, _, _, _, _, _, _, _, e1, e2, T, tx, hX0, h⟩
  by_cases q1 : a2 < 1
  · refine hno ?_ ?_
    · unfold f_Fa_feed; rw [if_pos q1]
    · unfold f_Mo_feed; rw [if_pos q1]
  · by_cases q2 : 12 < a2
    · refine hno ?_ ?_
      · unfold f_Fa_feed; rw [if_neg q1, if_pos q2]
      · unfold f_Mo_feed; rw [if_neg q1, if_pos q2]
    · obtain ⟨n0, hn0, rfl⟩ : ∃ n0 : Nat, n0 ≤ 12 ∧ a2 = nI n0 := by
        have h0 : ¬ a2 < 0 := fun q => q1 (by
          rw [Int32.lt_iff_toInt_lt] at q ⊢
          have e1 : (0 : Int32).toInt = 0 := rfl
          have e2 : (1 : Int32).toInt = 1 := rfl
          omega)
        obtain ⟨j, hj, e⟩ := nI_of2 (M := 12) (n := 12) rfl h0 (Int32.not_lt.mp q2)
        exact ⟨j, hj, e⟩
      by_cases q3 : T + n0 ≤ 24
      · obtain ⟨y, l', e1, g1, g2⟩ := c_app (a1 := a1) (kk := f_Tx_append_K2_39) hn0 q3 1000 0 tx_letters (by omega) (by omega) (fun j hj => rfl) (fun j hj => by omega)
        obtain ⟨y2, t', e2, g3, g4⟩ := m_app (a1 := a1) (kk := f_Mo_feed_K27_64) hn0 q3 1000 0 mo_text (by omega) (by omega) (fun j hj => rfl) (fun j hj => by omega)
        refine ⟨nI (T + n0), l', nI (T + n0), 0, nI (T + n0), t', 0, 0, ?_, ?_, T + n0, (fun j => if j < T then tx j else bits2 a1 (j - T)), ⟨q3, rfl, rfl, fun j hj => ?_⟩, GrR_text h (by omega) (fun j hj => if_pos hj)⟩
        · unfold f_Fa_feed f_Tx_room f_Tx_append f_Hi_forget f_Tx_length
          rw [if_neg q1, if_neg q2, ob1_some, nI24, pk_sub hT, if_pos ((nI_leI (by omega) (by omega)).mpr (by omega))]
          have e1' : f_Tx_append_L2 a1 (nI n0) f_Tx_append_K2_39 1000 (0 : Int32) tx_letters (nI T) = _ := e1
          rw [e1']
          rfl
        · unfold f_Mo_feed
          rw [if_neg q1, if_neg q2, nI_add, if_pos (by rw [nI24]; exact (nI_leI (by omega) (by omega)).mpr q3)]
          have e2' : f_Mo_feed_L27 a1 (nI n0) f_Mo_feed_K27_64 1000 (0 : Int32) (nI T) mo_text = _ := e2
          rw [e2']
          rfl
        · by_cases c : j < T
          · simp only [c, if_true]
            exact ⟨(hL j c).1, by rw [g1 j c]; exact (hL j c).2.1, by rw [g3 j c]; exact (hL j c).2.2⟩
          · simp only [c, if_false]
            have h5 := g2 (j - T) (by omega)
            have h6 := g4 (j - T) (by omega)
            rw [show T + (j - T) = j by omega] at h5 h6
            exact ⟨Nat.mod_lt _ (by omega), h5, h6⟩
      · refine hno ?_ ?_
        · unfold f_Fa_feed f_Tx_room
          rw [if_neg q1, if_neg q2, ob1_some, nI24, pk_sub hT, if_neg (fun q => by have := (nI_leI (by omega) (by omega)).mp q; omega)]
        · unfold f_Mo_feed
          rw [if_neg q1, if_neg q2, nI_add, if_neg (by rw [nI24]; exact fun q => q3 ((nI_leI (by omega) (by omega)).mp q))]
end RN
theorem o_column {R C : Nat} {mk : Nat → Nat} {lt : Nat → Nat → Nat} {co_rows : Int32} {co_marks co_rowSets : Nat → Int32} {co_count mo_rows mo_columns : Int32} {mo_marks mo_letters : Nat → Int32} {gr_size hi_count mo_made mo_hits : Int32} (hF : FamR R C mk lt co_rows co_marks co_rowSets co_count mo_rows mo_columns mo_marks mo_letters) (z a2 : Int32) :
    (f_Fa_column co_rows co_marks co_rowSets co_count gr_size hi_count (chr16 z) a2 = some (0, co_marks, co_rowSets, co_count, gr_size, hi_count) ∧ f_Mo_column mo_columns mo_marks mo_letters mo_made mo_hits (chr16 z) a2 = some (0, mo_columns, mo_marks, mo_letters, mo_made, mo_hits)) ∨
    (∃ cm crs cc mc mm ml C' mk' lt', f_Fa_column co_rows co_marks co_rowSets co_count gr_size hi_count (chr16 z) a2 = some (1, cm, crs, cc, 0, 0) ∧ f_Mo_column mo_columns mo_marks mo_letters mo_made mo_hits (chr16 z) a2 = some (1, mc, mm, ml, 0, 0) ∧ FamR R C' mk' lt' co_rows cm crs cc mo_rows mc mm ml) := by
  obtain ⟨⟨hR1, hR4, hC8⟩, ⟨rfl, rfl, rfl, rfl⟩, hm, hl, hr⟩ := hF
  have hnar : vp_nar .char (chr16 z) = chr16 z := pk_vc z
  by_cases hk : chr16 z = 40 ∨ chr16 z = 41 ∨ chr16 z = 46
  · have hisM : f_Fa_isMark (chr16 z) = some 1 := by rcases hk with e | e | e <;> rw [e] <;> rfl
    have hMo : f_Mo_column (nI C) mo_marks mo_letters mo_made mo_hits (chr16 z) a2 = f_Mo_column_J18 (nI C) mo_marks mo_letters mo_made mo_hits (chr16 z) a2 := by
      unfold f_Mo_column
      rcases hk with e | e | e
      · rw [if_pos e]
      · rw [if_neg (by rw [e]; decide), if_pos e]
      · rw [if_neg (by rw [e]; decide), if_neg (by rw [e]; decide), if_pos e]
    by_cases hC : C < 8
    · right
      have hfull : f_Co_isFull (nI C) = some 0 := by unfold f_Co_isFull; rw [nI8, if_pos ((nI_ltI (by omega) (by omega)).mpr hC)]
      obtain ⟨rs', e1, g1, g2⟩ := c_add (R := R) (C := C) (a1 := chr16 z) (a2 := a2) (marks := co_marks) (rs := co_rowSets) hR4 hC
      obtain ⟨y, ml, e2, g3, g4⟩ := m_col41 (C := C) (a2 := a2) (kk := f_Mo_column_K41_88 (nI C) mo_marks mo_made mo_hits (chr16 z)) (lt0 := mo_letters) hC 1000 0 mo_letters (by omega) (by omega) (fun r hr => by omega) (fun r c _ _ => rfl)
      obtain ⟨k0, hk0, ek⟩ : ∃ k0 : Nat, (k0 = 40 ∨ k0 = 41 ∨ k0 = 46) ∧ chr16 z = nI k0 := by
        rcases hk with e | e | e
        · exact ⟨40, Or.inl rfl, e⟩
        · exact ⟨41, Or.inr (Or.inl rfl), e⟩
        · exact ⟨46, Or.inr (Or.inr rfl), e⟩
      refine ⟨upd co_marks C (nI k0), rs', nI (C + 1), nI (C + 1), upd mo_marks C (nI k0), ml, C + 1, (fun c => if c = C then k0 else mk c), (fun r c => if c = C then (if bits3 a2 r ≤ 3 then bits3 a2 r else 4) else lt r c), ?_, ?_, ⟨hR1, hR4, by omega⟩, ⟨rfl, rfl, rfl, rfl⟩, fun c hc => ?_, fun c hc r hr4 => ?_, fun c hc a ha => ?_⟩
      · unfold f_Fa_column f_Fa_dropGrammar f_Gr_forget f_Hi_forget
        rw [hisM, ob1_some, if_neg (by decide : ¬ (1 : Int32) = 0), hfull, ob1_some, if_pos rfl, e1, hnar, ek]
        rfl
      · rw [hMo]
        unfold f_Mo_column_J18
        have e2' : f_Mo_column_L41 (nI C) a2 (f_Mo_column_K41_88 (nI C) mo_marks mo_made mo_hits (chr16 z)) 1000 (0 : Int32) mo_letters = _ := e2
        rw [nI8, if_pos ((nI_ltI (by omega) (by omega)).mpr hC), gd_in hC (by omega), e2']
        unfold f_Mo_column_K41_88 f_Mo_changed
        rw [nI_clamp (by omega), ob2_some, nI1, nI_add, ek]
      · by_cases ec : c = C
        · subst ec
          simp only [if_true]
          exact ⟨hk0, pk_us, pk_us⟩
        · simp only [ec, if_false]
          rw [pk_un ec, pk_un ec]
          exact hm c (by omega)
      · by_cases ec : c = C
        · subst ec
          simp only [if_true]
          refine ⟨by split <;> omega, g3 r hr4⟩
        · simp only [ec, if_false]
          rw [g4 r c hr4 (by omega)]
          exact hl c (by omega) r hr4
      · by_cases ec : c = C
        · subst ec
          rw [g1 a ha]
          congr 1
          refine rset_congr (fun r hr => ?_)
          simp only [if_true]
          by_cases q : bits3 a2 r ≤ 3
          · rw [if_pos q]
          · rw [if_neg q]
            simp [show ¬ bits3 a2 r = a by omega, show ¬ 4 = a by omega]
        · rw [g2 (4 * c + a) (by omega), hr c (by omega) a ha]
          simp only [ec, if_false]
    · left
      have hfull : f_Co_isFull (nI C) = some 1 := by unfold f_Co_isFull; rw [nI8, if_neg (fun q => hC ((nI_ltI (by omega) (by omega)).mp q))]
      refine ⟨?_, ?_⟩
      · unfold f_Fa_column
        rw [hisM, ob1_some, if_neg (by decide : ¬ (1 : Int32) = 0), hfull, ob1_some, if_neg (by decide : ¬ (1 : Int32) = 0)]
      · rw [hMo]
        unfold f_Mo_column_J18
        rw [nI8, if_neg (fun q => hC ((nI_ltI (by omega) (by omega)).mp q))]
  · left
    have n1 : ¬ chr16 z = 40 := fun e => hk (Or.inl e)
    have n2 : ¬ chr16 z = 41 := fun e => hk (Or.inr (Or.inl e))
    have n3 : ¬ chr16 z = 46 := fun e => hk (Or.inr (Or.inr e))
    refine ⟨?_, ?_⟩
    · unfold f_Fa_column f_Fa_isMark
      rw [if_neg n1, if_neg n2, if_neg n3]
      rfl
    · unfold f_Mo_column
      rw [if_neg n1, if_neg n2, if_neg n3]
