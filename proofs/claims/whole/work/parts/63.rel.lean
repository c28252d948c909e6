/-! 63.rel: the relation of both systems' contents, and the operations on it but build -/
def TxR (T : Nat) (tx : Nat → Nat) (tx_letters : Nat → Int32) (tx_length mo_length : Int32) (mo_text : Nat → Int32) : Prop :=
  T ≤ 24 ∧ tx_length = nI T ∧ mo_length = nI T ∧ ∀ j, j < T → tx j < 4 ∧ tx_letters j = nI (tx j) ∧ mo_text j = nI (tx j)
def Gd (T : Nat) (tx : Nat → Nat) (S : Nat) (kd nd : Nat → Nat) (tg : Nat → List Nat) (st : Nat → Nat → Int) (em : Nat → Nat → Nat → Int) (rk : Nat → Nat) (K b : Nat) (hs : Hs) (w : Nat) (gr_kinds gr_nodes gr_targetCounts gr_targets gr_stepScores gr_letterScores : Nat → Int32) (gr_size : Int32) (va_scores : Nat → Int32) (va_knownEnds : Int32) (hi_begins hi_lengths hi_scores : Nat → Int32) (hi_count : Int32) (mo_begin mo_other : Nat → Int32) (mo_states : Int32) (mo_kinds mo_nodeOf mo_steps mo_emissions : Nat → Int32) (mo_worked : Int32) (mo_values : Nat → Int32) (mo_hits : Int32) (mo_hitAt mo_hitLength : Nat → Int32) : Prop :=
  WF S kd tg st em rk ∧ CR S kd nd tg st em gr_kinds gr_nodes gr_targetCounts gr_targets gr_stepScores gr_letterScores ∧ MR S kd nd tg st em mo_begin mo_other mo_kinds mo_nodeOf mo_steps mo_emissions ∧ (gr_size = nI S ∧ mo_states = nI S) ∧
  (K ≤ T + 1 ∧ va_knownEnds = nI K ∧ Ok S (V S kd tg st em tx) (fun _ j e => j + e < K) va_scores) ∧
  (b ≤ 1 ∧ mo_worked = nI b ∧ (b = 1 → ∀ w j e, vld S T w j e → mo_values (cl w j e) = enc (V S kd tg st em tx w j e))) ∧
  (hi_count = nI hs.length ∧ mo_hits = nI hs.length ∧ hs.length ≤ 24 ∧ w ≤ 12 ∧ HsOk w T hs ∧ CH (fun i d => enc (V S kd tg st em tx 0 i d)) hs hi_begins hi_lengths hi_scores ∧ MH hs mo_hitAt mo_hitLength ∧ (hs ≠ [] → K = T + 1 ∧ b = 1) ∧ ∀ h ∈ hs, V S kd tg st em tx 0 h.1 h.2 ≠ none)
def GrR (T : Nat) (tx : Nat → Nat) (gr_kinds gr_nodes gr_targetCounts gr_targets gr_stepScores gr_letterScores : Nat → Int32) (gr_size : Int32) (va_scores : Nat → Int32) (va_knownEnds : Int32) (hi_begins hi_lengths hi_scores : Nat → Int32) (hi_count mo_made : Int32) (mo_begin mo_other : Nat → Int32) (mo_states : Int32) (mo_kinds mo_nodeOf mo_steps mo_emissions : Nat → Int32) (mo_worked : Int32) (mo_values : Nat → Int32) (mo_hits : Int32) (mo_hitAt mo_hitLength : Nat → Int32) : Prop :=
  (gr_size = 0 ∧ mo_made = 0 ∧ hi_count = 0 ∧ mo_hits = 0) ∨
  (mo_made = 1 ∧ ∃ S kd nd tg st em rk K b hs w, Gd T tx S kd nd tg st em rk K b hs w gr_kinds gr_nodes gr_targetCounts gr_targets gr_stepScores gr_letterScores gr_size va_scores va_knownEnds hi_begins hi_lengths hi_scores hi_count mo_begin mo_other mo_states mo_kinds mo_nodeOf mo_steps mo_emissions mo_worked mo_values mo_hits mo_hitAt mo_hitLength)
theorem hasState0 (x : Int32) : f_Gr_hasState 0 x = some 0 := by
  unfold f_Gr_hasState
  by_cases h : x < 0
  · rw [if_pos h]
  · rw [if_neg h, if_pos (Int32.not_lt.mp h)]
theorem isState0 (s x : Int32) : f_Mo_isState 0 s x = some 0 := by unfold f_Mo_isState; rw [if_pos rfl]
theorem st_cases {S : Nat} (hS : S ≤ 43) (x : Int32) : (f_Gr_hasState (nI S) x = some 0 ∧ f_Mo_isState 1 (nI S) x = some 0) ∨ (∃ v, v < S ∧ x = nI v ∧ f_Gr_hasState (nI S) x = some 1 ∧ f_Mo_isState 1 (nI S) x = some 1) := by
  unfold f_Gr_hasState f_Mo_isState
  rw [if_neg (by decide : ¬ (1 : Int32) = 0)]
  rcases ix_cases x (n := S) (by omega) with h | ⟨h1, h2⟩ | ⟨j, hj, e, h1, h2⟩
  · rw [if_pos h]; exact Or.inl ⟨rfl, rfl⟩
  · rw [if_neg h1, if_pos h2]; exact Or.inl ⟨rfl, rfl⟩
  · rw [if_neg h1, if_neg h2]; exact Or.inr ⟨j, hj, e, rfl, rfl⟩
section RL
variable {T : Nat} {tx : Nat → Nat} {gr_kinds gr_nodes gr_targetCounts gr_targets gr_stepScores gr_letterScores : Nat → Int32} {gr_size : Int32} {va_scores : Nat → Int32} {va_knownEnds : Int32} {hi_begins hi_lengths hi_scores : Nat → Int32} {hi_count mo_made : Int32} {mo_begin mo_other : Nat → Int32} {mo_states : Int32} {mo_kinds mo_nodeOf mo_steps mo_emissions : Nat → Int32} {mo_worked : Int32} {mo_values : Nat → Int32} {mo_hits : Int32} {mo_hitAt mo_hitLength : Nat → Int32}
theorem o_kind (h : GrR T tx gr_kinds gr_nodes gr_targetCounts gr_targets gr_stepScores gr_letterScores gr_size va_scores va_knownEnds hi_begins hi_lengths hi_scores hi_count mo_made mo_begin mo_other mo_states mo_kinds mo_nodeOf mo_steps mo_emissions mo_worked mo_values mo_hits mo_hitAt mo_hitLength) (a1 : Int32) : ∃ r0, f_Fa_kind gr_kinds gr_size a1 = some r0 ∧ f_Mo_kind mo_made mo_states mo_kinds a1 = some r0 := by
  unfold f_Fa_kind f_Mo_kind
  rcases h with ⟨rfl, rfl, -, -⟩ | ⟨rfl, S, kd, nd, tg, st, em, rk, K, b, hs, w, hW, hC, hM, ⟨rfl, rfl⟩, -⟩
  · rw [hasState0, isState0]; exact ⟨_, rfl, rfl⟩
  · have hS := hW.1.2.1
    rcases st_cases hS a1 with ⟨h1, h2⟩ | ⟨v, hv, rfl, h1, h2⟩
    · rw [h1, h2]; exact ⟨_, rfl, rfl⟩
    · rw [h1, h2, ob1_some, ob1_some, if_neg (by decide), if_neg (by decide), c_kindOf hW hC hv, ob1_some, gd_in (by omega) (by omega), m_kind hW hM hv]
      exact ⟨_, rfl, rfl⟩
theorem o_node (h : GrR T tx gr_kinds gr_nodes gr_targetCounts gr_targets gr_stepScores gr_letterScores gr_size va_scores va_knownEnds hi_begins hi_lengths hi_scores hi_count mo_made mo_begin mo_other mo_states mo_kinds mo_nodeOf mo_steps mo_emissions mo_worked mo_values mo_hits mo_hitAt mo_hitLength) (a1 : Int32) : ∃ r0, f_Fa_node gr_nodes gr_size a1 = some r0 ∧ f_Mo_node1 mo_made mo_states mo_nodeOf a1 = some r0 := by
  unfold f_Fa_node f_Mo_node1 f_Gr_nodeOf
  rcases h with ⟨rfl, rfl, -, -⟩ | ⟨rfl, S, kd, nd, tg, st, em, rk, K, b, hs, w, hW, hC, hM, ⟨rfl, rfl⟩, -⟩
  · rw [hasState0, isState0]; exact ⟨_, rfl, rfl⟩
  · have hS := hW.1.2.1
    rcases st_cases hS a1 with ⟨h1, h2⟩ | ⟨v, hv, rfl, h1, h2⟩
    · rw [h1, h2]; exact ⟨_, rfl, rfl⟩
    · rw [h1, h2, ob1_some, ob1_some, if_neg (by decide), if_neg (by decide), gd_in (by omega) (by omega), gd_in (by omega) (by omega), nI_clamp (by omega), (hC v hv).2.1, (hM v hv).2.1]
      exact ⟨_, rfl, rfl⟩
theorem ht_cases {S : Nat} {kd nd : Nat → Nat} {tg : Nat → List Nat} {st : Nat → Nat → Int} {em : Nat → Nat → Nat → Int} {rk : Nat → Nat} (hW : WF S kd tg st em rk) (hC : CR S kd nd tg st em gr_kinds gr_nodes gr_targetCounts gr_targets gr_stepScores gr_letterScores) (hM : MR S kd nd tg st em mo_begin mo_other mo_kinds mo_nodeOf mo_steps mo_emissions) {v : Nat} (hv : v < S) (h1 : f_Gr_hasState (nI S) (nI v) = some 1) (x : Int32) :
    (f_Gr_hasTarget gr_targetCounts (nI S) (nI v) x = some 0 ∧ f_Mo_targetOf mo_begin mo_other mo_kinds mo_nodeOf (nI v) x = some (-1)) ∨ (∃ k, k < (tg v).length ∧ x = nI k ∧ f_Gr_hasTarget gr_targetCounts (nI S) (nI v) x = some 1 ∧ f_Mo_targetOf mo_begin mo_other mo_kinds mo_nodeOf (nI v) x = some (nI ((tg v).getD k 0))) := by
  have hS := hW.1.2.1
  have hl := (hW.2.1 v hv).2.2.2.1
  unfold f_Gr_hasTarget
  rw [h1, ob1_some, if_neg (by decide), gd_in (by omega) (by omega), nI_clamp (by omega), (hC v hv).2.2.1]
  rcases ix_cases x (n := (tg v).length) (by omega) with h | ⟨a1, a2⟩ | ⟨j, hj, e, a1, a2⟩
  · rw [if_pos h]; exact Or.inl ⟨rfl, (hM v hv).2.2.2.1 x h⟩
  · rw [if_neg a1, if_pos a2]
    obtain ⟨j, hj, rfl⟩ := nI_of a1
    have : ¬ j < (tg v).length := fun q => absurd a2 (nI_ge q (by omega))
    exact Or.inl ⟨rfl, by rw [(hM v hv).2.2.1 j hj, if_neg this]⟩
  · rw [if_neg a1, if_neg a2]
    exact Or.inr ⟨j, hj, e, rfl, by rw [e, (hM v hv).2.2.1 j (by omega), if_pos hj]⟩
theorem o_target (h : GrR T tx gr_kinds gr_nodes gr_targetCounts gr_targets gr_stepScores gr_letterScores gr_size va_scores va_knownEnds hi_begins hi_lengths hi_scores hi_count mo_made mo_begin mo_other mo_states mo_kinds mo_nodeOf mo_steps mo_emissions mo_worked mo_values mo_hits mo_hitAt mo_hitLength) (a1 a2 : Int32) : ∃ r0, f_Fa_target gr_targetCounts gr_targets gr_size a1 a2 = some r0 ∧ f_Mo_target mo_made mo_begin mo_other mo_states mo_kinds mo_nodeOf a1 a2 = some r0 := by
  unfold f_Fa_target f_Mo_target
  rcases h with ⟨rfl, rfl, -, -⟩ | ⟨rfl, S, kd, nd, tg, st, em, rk, K, b, hs, w, hW, hC, hM, ⟨rfl, rfl⟩, -⟩
  · unfold f_Gr_hasTarget
    rw [hasState0, isState0]; exact ⟨_, rfl, rfl⟩
  · have hS := hW.1.2.1
    rcases st_cases hS a1 with ⟨h1, h2⟩ | ⟨v, hv, rfl, h1, h2⟩
    · unfold f_Gr_hasTarget
      rw [h1, h2]; exact ⟨_, rfl, rfl⟩
    · rw [h2, ob1_some, if_neg (by decide)]
      rcases ht_cases hW hC hM hv h1 a2 with ⟨q1, q2⟩ | ⟨k, hk, rfl, q1, q2⟩
      · rw [q1, q2]; exact ⟨_, rfl, rfl⟩
      · have := hW.tgt_lt hv hk
        rw [q1, q2, ob1_some, ob1_some, if_neg (by decide), c_targetOf hW hC hv hk, ob1_some]
        unfold f_Mo_target_J18
        rw [if_pos (nI_pos' (by omega))]
        exact ⟨_, rfl, rfl⟩
theorem o_step (h : GrR T tx gr_kinds gr_nodes gr_targetCounts gr_targets gr_stepScores gr_letterScores gr_size va_scores va_knownEnds hi_begins hi_lengths hi_scores hi_count mo_made mo_begin mo_other mo_states mo_kinds mo_nodeOf mo_steps mo_emissions mo_worked mo_values mo_hits mo_hitAt mo_hitLength) (a1 a2 : Int32) : ∃ r0, f_Fa_step gr_targetCounts gr_stepScores gr_size a1 a2 = some r0 ∧ f_Mo_step mo_made mo_begin mo_other mo_states mo_kinds mo_nodeOf mo_steps a1 a2 = some r0 := by
  unfold f_Fa_step f_Mo_step
  rcases h with ⟨rfl, rfl, -, -⟩ | ⟨rfl, S, kd, nd, tg, st, em, rk, K, b, hs, w, hW, hC, hM, ⟨rfl, rfl⟩, -⟩
  · unfold f_Gr_hasTarget
    rw [hasState0, isState0]; exact ⟨_, rfl, rfl⟩
  · have hS := hW.1.2.1
    rcases st_cases hS a1 with ⟨h1, h2⟩ | ⟨v, hv, rfl, h1, h2⟩
    · unfold f_Gr_hasTarget
      rw [h1, h2]; exact ⟨_, rfl, rfl⟩
    · have hl := (hW.2.1 v hv).2.2.2.1
      rw [h2, ob1_some, if_neg (by decide)]
      rcases ht_cases hW hC hM hv h1 a2 with ⟨q1, q2⟩ | ⟨k, hk, rfl, q1, q2⟩
      · rw [q1, q2]; exact ⟨_, rfl, rfl⟩
      · have := hW.tgt_lt hv hk
        rw [q1, q2, ob1_some, ob1_some, if_neg (by decide), c_stepScore hW hC hv hk, ob1_some, if_neg (nI_pos (by omega)), nI8, pk_mul, nI_add, gd_in (by omega) (by omega), nI_clamp (by omega), (hM v hv).2.2.2.2.1 k hk]
        exact ⟨_, rfl, rfl⟩
theorem let_cases (x : Int32) : (f_Fa_isLetter x = some 0 ∧ f_Mo_isLetter x = some 0) ∨ (∃ a, a < 4 ∧ x = nI a ∧ f_Fa_isLetter x = some 1 ∧ f_Mo_isLetter x = some 1) := by
  unfold f_Fa_isLetter f_Mo_isLetter
  rw [nI4]
  rcases ix_cases x (n := 4) (by omega) with h | ⟨h1, h2⟩ | ⟨j, hj, e, h1, h2⟩
  · rw [if_pos h]; exact Or.inl ⟨rfl, rfl⟩
  · rw [if_neg h1, if_pos h2]; exact Or.inl ⟨rfl, rfl⟩
  · rw [if_neg h1, if_neg h2]; exact Or.inr ⟨j, hj, e, rfl, rfl⟩
theorem o_emits (h : GrR T tx gr_kinds gr_nodes gr_targetCounts gr_targets gr_stepScores gr_letterScores gr_size va_scores va_knownEnds hi_begins hi_lengths hi_scores hi_count mo_made mo_begin mo_other mo_states mo_kinds mo_nodeOf mo_steps mo_emissions mo_worked mo_values mo_hits mo_hitAt mo_hitLength) (a1 a2 a3 : Int32) : ∃ r0, f_Fa_emits gr_kinds gr_letterScores gr_size a1 a2 a3 = some r0 ∧ f_Mo_emits mo_made mo_states mo_kinds mo_emissions a1 a2 a3 = some r0 := by
  unfold f_Fa_emits f_Mo_emits
  rcases h with ⟨rfl, rfl, -, -⟩ | ⟨rfl, S, kd, nd, tg, st, em, rk, K, b, hs, w, hW, hC, hM, ⟨rfl, rfl⟩, -⟩
  · rw [hasState0, isState0]; exact ⟨_, rfl, rfl⟩
  · have hS := hW.1.2.1
    rcases st_cases hS a1 with ⟨h1, h2⟩ | ⟨v, hv, rfl, h1, h2⟩
    · rw [h1, h2]; exact ⟨_, rfl, rfl⟩
    · rw [h1, h2, ob1_some, ob1_some, if_neg (by decide), if_neg (by decide)]
      rcases let_cases a2 with ⟨q1, q2⟩ | ⟨a, ha, rfl, q1, q2⟩
      · rw [q1, q2]; exact ⟨_, rfl, rfl⟩
      · have hk8 := (hW.2.1 v hv).1
        rw [q1, q2, ob1_some, ob1_some, if_neg (by decide), if_neg (by decide), c_kindOf hW hC hv, ob1_some, gd_in (show v < 48 by omega) (by omega), m_kind hW hM hv]
        have hem : ∀ b', b' < 4 → 0 < lo (kd v) → (kd v = 1 ∨ b' = 0) → gd (xin (((16 : Int32) * nI v + (4 : Int32) * nI a) + nI b') 768) (some (mo_emissions (Int32.toNatClampNeg (((16 : Int32) * nI v + (4 : Int32) * nI a) + nI b')))) = some (i32 (em v a b')) := by
          intro b' hb hl hk
          rw [nI16, nI4, pk_mul, pk_mul, nI_add, nI_add, gd_in (by omega) (by omega), nI_clamp (by omega), (hM v hv).2.2.2.2.2 a b' ha hb hl hk]
        by_cases k1 : kd v = 1
        · rw [k1, if_pos (show nI 1 = (1 : Int32) from rfl), if_neg (show ¬ nI 1 = (0 : Int32) by decide), if_neg (show ¬ nI 1 = (4 : Int32) by decide), if_neg (show ¬ nI 1 = (7 : Int32) by decide), if_neg (show ¬ nI 1 = (8 : Int32) by decide), if_pos (show nI 1 = (1 : Int32) from rfl)]
          rcases let_cases a3 with ⟨q3, q4⟩ | ⟨b', hb, rfl, q3, q4⟩
          · rw [q3, q4]; exact ⟨_, rfl, rfl⟩
          · rw [q3, q4, ob1_some, ob1_some, if_neg (by decide), if_neg (by decide), c_letterScore hW hC hv ha hb (by rw [k1]; decide) (Or.inl k1), ob1_some]
            unfold f_Mo_emits_J67
            rw [m_kind hW hM hv, if_pos (by rw [k1]; rfl), hem b' hb (by rw [k1]; decide) (Or.inl k1)]
            exact ⟨_, rfl, rfl⟩
        · have hlo : lo (kd v) ≤ 2 := by have := lb_le (kd v); have := lh_le (kd v); unfold lo; omega
          rw [if_neg (by rw [nI1]; exact nI_ne (by omega) (by omega) k1), c_lo _ (by omega), ob1_some]
          by_cases k2 : lo (kd v) = 0
          · rw [if_pos (by rw [k2]; decide)]
            have hc : kd v = 0 ∨ kd v = 4 ∨ kd v = 7 ∨ kd v = 8 := by
              rcases (show kd v = 0 ∨ kd v = 1 ∨ kd v = 2 ∨ kd v = 3 ∨ kd v = 4 ∨ kd v = 5 ∨ kd v = 6 ∨ kd v = 7 ∨ kd v = 8 by omega) with q | q | q | q | q | q | q | q | q <;> simp [lo, lb, lh, q] at k2 ⊢
            rcases hc with q | q | q | q <;> rw [q]
            · rw [if_pos (show nI 0 = (0 : Int32) from rfl)]; exact ⟨_, rfl, rfl⟩
            · rw [if_neg (show ¬ nI 4 = (0 : Int32) by decide), if_pos (show nI 4 = (4 : Int32) from rfl)]; exact ⟨_, rfl, rfl⟩
            · rw [if_neg (show ¬ nI 7 = (0 : Int32) by decide), if_neg (show ¬ nI 7 = (4 : Int32) by decide), if_pos (show nI 7 = (7 : Int32) from rfl)]; exact ⟨_, rfl, rfl⟩
            · rw [if_neg (show ¬ nI 8 = (0 : Int32) by decide), if_neg (show ¬ nI 8 = (4 : Int32) by decide), if_neg (show ¬ nI 8 = (7 : Int32) by decide), if_pos (show nI 8 = (8 : Int32) from rfl)]; exact ⟨_, rfl, rfl⟩
          · rw [if_neg (by rw [nI0]; intro h; have := (nI_leI (by omega) (by omega)).mp h; omega), nI0, c_letterScore hW hC hv ha (by omega) (by omega) (Or.inr rfl), ob1_some]
            have hne : ∀ m, lo m = 0 → m < 9 → ¬ nI (kd v) = nI m := fun m hm hm9 => nI_ne (by omega) (by omega) (fun e => k2 (by rw [e]; exact hm))
            rw [if_neg (hne 0 rfl (by omega)), if_neg (show ¬ nI (kd v) = (4 : Int32) from hne 4 rfl (by omega)), if_neg (show ¬ nI (kd v) = (7 : Int32) from hne 7 rfl (by omega)), if_neg (show ¬ nI (kd v) = (8 : Int32) from hne 8 rfl (by omega)), if_neg (by rw [nI1]; exact nI_ne (by omega) (by omega) k1)]
            unfold f_Mo_emits_J67
            rw [m_kind hW hM hv, if_neg (by rw [nI1]; exact nI_ne (by omega) (by omega) k1), nI0, hem 0 (by omega) (by omega) (Or.inr rfl)]
            exact ⟨_, rfl, rfl⟩
end RL
