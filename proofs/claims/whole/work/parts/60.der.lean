/-! 60.der: the class's derivation, the reference's derivation -/
section DC
variable {S : Nat} {kd nd : Nat → Nat} {tg : Nat → List Nat} {st : Nat → Nat → Int} {em : Nat → Nat → Nat → Int} {rk : Nat → Nat} {tx : Nat → Nat} {T : Nat}
variable {gr_kinds gr_nodes gr_targetCounts gr_targets gr_stepScores gr_letterScores tx_letters va_scores : Nat → Int32}
variable {mo_begin mo_other mo_kinds mo_nodeOf mo_steps mo_emissions mo_text vals : Nat → Int32}
theorem cand_bd (hW : WF S kd tg st em rk) {v i d k : Nat} (hv : v < S) (hk : k < (tg v).length) (hd : d ≤ 12) : Bd 4000 (cand S kd tg st em tx v i d k) := by
  have h1 := hW.2.2.1 v k
  have h2 := el_bd (tx := tx) hW v i d
  exact Bd_mono (Bd_plus (k := 128) (V_small hW (hW.tgt_lt hv hk) (by omega)) (by omega) (by omega)) (by omega)
theorem c_bestTarget (hW : WF S kd tg st em rk) (hC : CR S kd nd tg st em gr_kinds gr_nodes gr_targetCounts gr_targets gr_stepScores gr_letterScores) (hX : ∀ j, j < T → tx_letters j = nI (tx j) ∧ tx j < 4) (hT : T ≤ 24) (hok : Ok S (V S kd tg st em tx) (fun _ j e => j + e < T + 1) va_scores) {v i d : Nat} (hv : v < S) (hd2 : d ≤ 12) (hi : i + d ≤ T) (h7 : kd v ≠ 7) (h8 : kd v ≠ 8) (hz : V S kd tg st em tx v i d ≠ none) :
    f_Va_bestTarget gr_kinds gr_targetCounts gr_targets gr_stepScores gr_letterScores tx_letters va_scores (nI v) (nI i) (nI d) = some (nI (bk S kd tg st em tx v i d)) := by
  have hS := hW.1.2.1
  have hw := hW.2.1 v hv
  obtain ⟨q0, q1, q2, q3, q4⟩ := bk_spec (tx := tx) hW hv h7 h8 hz
  have hVb := V_small (tx := tx) (i := i) hW hv hd2
  unfold f_Va_bestTarget
  rw [c_of (by omega) hd2 (by omega), ob1_some, hok v i d hv hd2 (by omega) (by omega)]
  rw [if_neg (fun h => hz ((enc_eq_none (by omega) hVb).mp h)), c_kindOf hW hC hv, ob1_some, ob1_some, c_emitted hW hC hX hT hv hi q0, ob1_some]
  have hlb := lb_le (kd v)
  have hlh := lh_le (kd v)
  have hlo : lo (kd v) = lb (kd v) + lh (kd v) := rfl
  have key : ∀ (n x : Nat), x ≤ bk S kd tg st em tx v i d → bk S kd tg st em tx v i d < x + n → f_Va_bestTarget_L45 gr_targetCounts gr_targets gr_stepScores va_scores (nI v) (nI i) (nI d) (nI (kd v)) (enc (V S kd tg st em tx v i d)) (i32 (el kd em tx v i d)) f_Va_bestTarget_K45_93 n (nI x) = some (nI (bk S kd tg st em tx v i d)) := by
    intro n
    induction n with
    | zero => intro x h1 h2; omega
    | succ n ih =>
      intro x h1 h2
      have hx : x < (tg v).length := by omega
      have hwl := hW.tgt_lt hv hx
      have hl6 := hw.2.2.2.1
      rw [f_Va_bestTarget_L45, c_targetCount hW hC hv, ob1_some, if_neg (fun h => by have := (nI_leI (by omega) (by omega)).mp h; omega), c_lb _ (by omega), ob1_some, c_lo _ (by omega), ob1_some, nI_add, pk_sub q0,
        c_throughTarget hW hC hv hx (by omega) (by omega) (hok _ _ _ hwl (by omega) (by omega) (by omega)) (V_small hW hwl (by omega)), ob1_some]
      have hiff : enc (plusO (V S kd tg st em tx ((tg v).getD x 0) (i + lb (kd v)) (d - lo (kd v))) (st v x)) = enc (V S kd tg st em tx v i d) - i32 (el kd em tx v i d) ↔ cand S kd tg st em tx v i d x = V S kd tg st em tx v i d := by
        unfold cand
        have hb := V_small (tx := tx) (i := i + lb (kd v)) (d := d - lo (kd v)) hW hwl (by omega)
        have h3 := hW.2.2.1 v x
        have h4 := el_bd (tx := tx) hW v i d
        cases hV : V S kd tg st em tx v i d with
        | none => exact absurd hV hz
        | some z =>
          have hz1 := hVb z hV
          show enc (plusO _ _) = i32 z - i32 _ ↔ _
          rw [i32_sub]
          cases hq : V S kd tg st em tx ((tg v).getD x 0) (i + lb (kd v)) (d - lo (kd v)) with
          | none =>
            show i32 (-1000000) = i32 _ ↔ none = some z
            rw [i32_eq (by omega) (by omega) (by omega) (by omega)]
            constructor
            · intro h; omega
            · intro h; cases h
          | some y =>
            have hy := hb y hq
            show i32 (y + st v x) = i32 _ ↔ some (y + (st v x + el kd em tx v i d)) = some z
            rw [i32_eq (by omega) (by omega) (by omega) (by omega), Option.some.injEq]
            omega
      by_cases ex : x = bk S kd tg st em tx v i d
      · rw [if_pos (hiff.mpr (by rw [ex]; exact q2)), ex]
      · rw [if_neg (fun h => q3 x (by omega) (hiff.mp h)), nI1, nI_add]
        exact ih (x + 1) (by omega) (by omega)
  exact key 1000 0 (by omega) (by have := hw.2.2.2.1; omega)
theorem c_bestSplit (hW : WF S kd tg st em rk) (hC : CR S kd nd tg st em gr_kinds gr_nodes gr_targetCounts gr_targets gr_stepScores gr_letterScores) (hT : T ≤ 24) (hok : Ok S (V S kd tg st em tx) (fun _ j e => j + e < T + 1) va_scores) {v i d : Nat} (hv : v < S) (hd2 : d ≤ 12) (hi : i + d ≤ T) (h7 : kd v = 7) (hz : V S kd tg st em tx v i d ≠ none) :
    f_Va_bestSplit gr_targets va_scores (nI v) (nI i) (nI d) = some (nI (bs S kd tg st em tx v i d)) := by
  have hS := hW.1.2.1
  obtain ⟨q1, q2, q3, q4, q5⟩ := bs_spec (tx := tx) hW hv h7 hz
  have hVb := V_small (tx := tx) (i := i) hW hv hd2
  have ht : ∀ w j e, needs kd tg v i d w j e → va_scores (pl w j e) = enc (V S kd tg st em tx w j e) ∧ Bd 3840 (V S kd tg st em tx w j e) := fun w j e hne => by
    have hl := needs_lt hW hv hne
    exact ⟨hok w j e hl.1 (by omega) (by omega) (by omega), V_small hW hl.1 (by omega)⟩
  unfold f_Va_bestSplit
  rw [c_of (by omega) hd2 (by omega), ob1_some, hok v i d hv hd2 (by omega) (by omega)]
  have key : ∀ (n x : Nat), x ≤ bs S kd tg st em tx v i d → bs S kd tg st em tx v i d < x + n → f_Va_bestSplit_L12 gr_targets va_scores (nI v) (nI i) (nI d) (enc (V S kd tg st em tx v i d)) f_Va_bestSplit_K12_48 n (nI x) = some (nI (bs S kd tg st em tx v i d)) := by
    intro n
    induction n with
    | zero => intro x h1 h2; omega
    | succ n ih =>
      intro x h1 h2
      rw [f_Va_bestSplit_L12, if_neg (fun h => by have := (nI_ltI (by omega) (by omega)).mp h; omega), if_neg (fun h => hz ((enc_eq_none (by omega) hVb).mp h)), c_split hW hC hv h7 hd2 (by omega) (by omega) ht, ob1_some]
      have hb : Bd 7680 (splt S kd tg st em tx v i d x) := Bd_mono (Bd_add (ht _ _ _ (Or.inl ⟨h7, x, by omega, Or.inl ⟨rfl, rfl, rfl⟩⟩)).2 (ht _ _ _ (Or.inl ⟨h7, x, by omega, Or.inr ⟨rfl, rfl, rfl⟩⟩)).2) (by omega)
      by_cases ex : x = bs S kd tg st em tx v i d
      · have : splt S kd tg st em tx v i d x = V S kd tg st em tx v i d := by rw [ex]; exact q2
        unfold splt at this
        rw [if_pos (by rw [this]), ex]
      · have hne : ¬ enc (addO (V S kd tg st em tx ((tg v).getD 0 0) i x) (V S kd tg st em tx ((tg v).getD 1 0) (i + x) (d - x))) = enc (V S kd tg st em tx v i d) := fun h => q3 x (by omega) (enc_inj (b := 7680) (by omega) hb (Bd_mono hVb (by omega)) h)
        rw [if_neg hne, nI1, nI_add]
        exact ih (x + 1) (by omega) (by omega)
  exact key 1000 0 (by omega) (by omega)
theorem c_writeFrom (hW : WF S kd tg st em rk) (hC : CR S kd nd tg st em gr_kinds gr_nodes gr_targetCounts gr_targets gr_stepScores gr_letterScores) (hX : ∀ j, j < T → tx_letters j = nI (tx j) ∧ tx j < 4) (hT : T ≤ 24) (hok : Ok S (V S kd tg st em tx) (fun _ j e => j + e < T + 1) va_scores) :
    ∀ (n v i d : Nat) (l : List Ent) (a b c : Nat → Int32), v < S → d ≤ 12 → i + d ≤ T → V S kd tg st em tx v i d ≠ none → rk v + d < n → l.length + (der S kd tg st em tx n v i d).length ≤ 30 → LR l a b c →
      ∃ a' b' c', f_De_writeFrom n gr_kinds gr_targetCounts gr_targets gr_stepScores gr_letterScores tx_letters va_scores a b c (nI l.length) (nI v) (nI i) (nI d) = some (a', b', c', nI (l ++ der S kd tg st em tx n v i d).length) ∧ LR (l ++ der S kd tg st em tx n v i d) a' b' c' := by
  have hS := hW.1.2.1
  intro n
  induction n with
  | zero => intro v i d l a b c _ _ _ _ h; omega
  | succ n ih =>
    intro v i d l a b c hv hd2 hi hz hn hlen hlr
    have hw := hW.2.1 v hv
    rw [der] at hlen ⊢
    rw [List.length_cons] at hlen
    have hp : LR (l ++ [(v, i, d)]) (upd a l.length (nI v)) (upd b l.length (nI i)) (upd c l.length (nI d)) := LR_push (q := (v, i, d)) hlr
    rw [f_De_writeFrom, if_pos (by rw [nI30]; exact (nI_ltI (by omega) (by omega)).mpr (by omega))]
    unfold f_De_note
    rw [gd_in (by omega) (by omega), gd_in (by omega) (by omega), gd_in (by omega) (by omega), ob4_some, nI_clamp (by omega)]
    unfold f_Va_grammar
    rw [ob1_some, c_kindOf hW hC hv, ob1_some, nI1, nI_add]
    have hl1 : l.length + 1 = (l ++ [(v, i, d)]).length := by simp
    have happ : ∀ r : List Ent, l ++ (v, i, d) :: r = (l ++ [(v, i, d)]) ++ r := fun r => by simp
    rw [happ, hl1]
    by_cases h8 : kd v = 8
    · rw [if_pos h8, List.append_nil, if_neg (by rw [h8]; decide), if_pos (by rw [h8]; rfl)]
      exact ⟨_, _, _, rfl, hp⟩
    · rw [if_neg h8] at hlen ⊢
      by_cases h7 : kd v = 7
      · rw [if_pos h7] at hlen ⊢
        rw [List.length_append] at hlen
        rw [if_pos (by rw [h7]; rfl)]
        obtain ⟨ta, tb, htg, ha, hb, haS, hbS, hr⟩ := hw.2.2.2.2.2.1 h7
        obtain ⟨q1, q2, q3, q4, q5⟩ := bs_spec (tx := tx) hW hv h7 hz
        have hl2 : (tg v).length = 2 := by rw [htg]; rfl
        have ea : (tg v).getD 0 0 = ta := by rw [htg]; rfl
        have eb : (tg v).getD 1 0 = tb := by rw [htg]; rfl
        rw [ea] at q4 hlen ⊢
        rw [eb] at q5 hlen ⊢
        unfold f_De_writeParts
        rw [c_bestSplit hW hC hT hok hv hd2 hi h7 hz, ob1_some, if_neg (by intro h; have := congrArg Int32.toInt h; rw [nI_toInt (by omega)] at this; simp at this <;> omega)]
        unfold f_Va_grammar
        rw [ob1_some, nI0, c_targetOf hW hC hv (by omega), ob1_some, ea]
        obtain ⟨a1, b1, c1, e1, r1⟩ := ih ta i (bs S kd tg st em tx v i d) (l ++ [(v, i, d)]) _ _ _ haS (by omega) (by omega) q4 (by omega) (by rw [← hl1]; omega) hp
        rw [e1, ob4_some, ob1_some, nI1, c_targetOf hW hC hv (by omega), ob1_some, eb, nI_add, pk_sub q1]
        obtain ⟨a2, b2, c2, e2, r2⟩ := ih tb (i + bs S kd tg st em tx v i d) (d - bs S kd tg st em tx v i d) (l ++ [(v, i, d)] ++ der S kd tg st em tx n ta i (bs S kd tg st em tx v i d)) _ _ _ hbS (by omega) (by omega) q5 (by omega) (by rw [List.length_append, ← hl1]; omega) r1
        rw [e2, ob4_some, ob4_some, ← List.append_assoc]
        exact ⟨a2, b2, c2, rfl, r2⟩
      · rw [if_neg h7] at hlen ⊢
        rw [if_neg (by rw [nI7]; exact nI_ne (by omega) (by omega) h7), if_neg (by rw [nI8]; exact nI_ne (by omega) (by omega) h8)]
        obtain ⟨q0, q1, q2, q3, q4⟩ := bk_spec (tx := tx) hW hv h7 h8 hz
        have hr := hw.2.2.2.2.2.2 h7 _ (hW.tgt hv q1)
        have hlb := lb_le (kd v)
        have hlo : lo (kd v) = lb (kd v) + lh (kd v) := rfl
        have hl6 := hw.2.2.2.1
        unfold f_De_writeRest
        rw [c_bestTarget hW hC hX hT hok hv hd2 hi h7 h8 hz, ob1_some, if_neg (by intro h; have := congrArg Int32.toInt h; rw [nI_toInt (by omega)] at this; simp at this <;> omega)]
        unfold f_Va_grammar
        rw [ob1_some, c_kindOf hW hC hv, ob1_some, ob1_some, c_targetOf hW hC hv q1, ob1_some, c_lb _ (by omega), ob1_some, c_lo _ (by omega), ob1_some, nI_add, pk_sub q0]
        obtain ⟨a1, b1, c1, e1, r1⟩ := ih _ (i + lb (kd v)) (d - lo (kd v)) (l ++ [(v, i, d)]) _ _ _ (hW.tgt_lt hv q1) (by omega) (by omega) q4 (by omega) (by rw [← hl1]; omega) hp
        rw [e1, ob4_some, ob4_some]
        exact ⟨a1, b1, c1, rfl, r1⟩
theorem c_write (hW : WF S kd tg st em rk) (hC : CR S kd nd tg st em gr_kinds gr_nodes gr_targetCounts gr_targets gr_stepScores gr_letterScores) (hX : ∀ j, j < T → tx_letters j = nI (tx j) ∧ tx j < 4) (hT : T ≤ 24) (hok : Ok S (V S kd tg st em tx) (fun _ j e => j + e < T + 1) va_scores) {i d : Nat} {a b c : Nat → Int32} {l0 : Int32} (hd2 : d ≤ 12) (hi : i + d ≤ T) (hz : V S kd tg st em tx 0 i d ≠ none) :
    ∃ a' b' c', f_De_write gr_kinds gr_targetCounts gr_targets gr_stepScores gr_letterScores tx_letters va_scores a b c l0 (nI i) (nI d) = some (a', b', c', nI (der S kd tg st em tx 40 0 i d).length) ∧ LR (der S kd tg st em tx 40 0 i d) a' b' c' := by
  have h0 := hW.1.1
  have hw := hW.2.1 0 h0
  have hl := der_len (tx := tx) hW 40 0 i d h0 hz
  unfold f_De_write
  obtain ⟨a1, b1, c1, e1, r1⟩ := c_writeFrom hW hC hX hT hok 40 0 i d [] a b c h0 hd2 hi hz (by omega) (by show 0 + _ ≤ 30; omega) (fun p hp => by cases hp)
  have e1' : f_De_writeFrom 40 gr_kinds gr_targetCounts gr_targets gr_stepScores gr_letterScores tx_letters va_scores a b c (0 : Int32) (0 : Int32) (nI i) (nI d) = some (a1, b1, c1, nI (der S kd tg st em tx 40 0 i d).length) := e1
  rw [e1', ob4_some]
  exact ⟨a1, b1, c1, rfl, r1⟩
end DC
