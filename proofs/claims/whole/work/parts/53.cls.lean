/-! 53.cls: the class's values: splits, reckon, catchUp -/
section CW
variable {S : Nat} {kd nd : Nat → Nat} {tg : Nat → List Nat} {st : Nat → Nat → Int} {em : Nat → Nat → Nat → Int} {rk : Nat → Nat} {tx : Nat → Nat} {T : Nat}
variable {gr_kinds gr_nodes gr_targetCounts gr_targets gr_stepScores gr_letterScores tx_letters va_scores : Nat → Int32}
theorem add_enc {x y : Option Int} (hx : Bd 3840 x) (hy : Bd 3840 y) {α : Type} (k : Int32 → Option α) : (if enc x = (-1000000 : Int32) then k (-1000000) else (if enc y = (-1000000 : Int32) then k (-1000000) else k (enc x + enc y))) = k (enc (addO x y)) := by
  cases x with
  | none => rw [if_pos (show enc none = (-1000000 : Int32) from rfl)]; rfl
  | some a =>
    rw [if_neg (by intro h; have := (enc_eq_none (by omega) hx).mp h; cases this)]
    cases y with
    | none => rw [if_pos (show enc none = (-1000000 : Int32) from rfl)]; rfl
    | some c =>
      rw [if_neg (by intro h; have := (enc_eq_none (by omega) hy).mp h; cases this)]
      show k (i32 a + i32 c) = _
      rw [i32_add]; rfl
theorem c_split (hW : WF S kd tg st em rk) (hC : CR S kd nd tg st em gr_kinds gr_nodes gr_targetCounts gr_targets gr_stepScores gr_letterScores) {v k i d : Nat} {t : Nat → Nat → Nat → Option Int} (hv : v < S) (h7 : kd v = 7) (hd2 : d ≤ 12) (hi : i + d ≤ 24) (hk : k ≤ d)
    (ht : ∀ w j e, needs kd tg v i d w j e → va_scores (pl w j e) = enc (t w j e) ∧ Bd 3840 (t w j e)) :
    f_Va_throughSplit gr_targets va_scores (nI v) (nI k) (nI i) (nI d) = some (enc (addO (t ((tg v).getD 0 0) i k) (t ((tg v).getD 1 0) (i + k) (d - k)))) := by
  have hS := hW.1.2.1
  obtain ⟨a, b, htg, ha, hb, haS, hbS, -⟩ := (hW.2.1 v hv).2.2.2.2.2.1 h7
  have h1 := ht _ _ _ (Or.inl ⟨h7, k, hk, Or.inl ⟨rfl, rfl, rfl⟩⟩)
  have h2 := ht _ _ _ (Or.inl ⟨h7, k, hk, Or.inr ⟨rfl, rfl, rfl⟩⟩)
  have hl : (tg v).length = 2 := by rw [htg]; rfl
  have l0 := hW.tgt_lt hv (k := 0) (by omega)
  have l1 := hW.tgt_lt hv (k := 1) (by omega)
  unfold f_Va_throughSplit
  rw [nI0, nI1, c_targetOf hW hC hv (by omega), ob1_some, c_of (by omega) (by omega) (by omega), ob1_some, c_targetOf hW hC hv (by omega), ob1_some, nI_add, pk_sub hk, c_of (by omega) (by omega) (by omega), ob1_some, h1.1, h2.1]
  exact add_enc h1.2 h2.2 some
theorem c_gsL (hW : WF S kd tg st em rk) (hC : CR S kd nd tg st em gr_kinds gr_nodes gr_targetCounts gr_targets gr_stepScores gr_letterScores) {v i d : Nat} {t : Nat → Nat → Nat → Option Int} {kk : Int32 → Int32 → Option Int32} (hv : v < S) (h7 : kd v = 7) (hd2 : d ≤ 12) (hi : i + d ≤ 24)
    (ht : ∀ w j e, needs kd tg v i d w j e → va_scores (pl w j e) = enc (t w j e) ∧ Bd 3840 (t w j e)) :
    ∀ (n x : Nat), x ≤ d + 1 → d + 1 < x + n → f_Va_greatestOfSplits_L7 gr_targets va_scores (nI v) (nI i) (nI d) kk n (enc (mxf (fun k => addO (t ((tg v).getD 0 0) i k) (t ((tg v).getD 1 0) (i + k) (d - k))) x)) (nI x) = kk (enc (mxf (fun k => addO (t ((tg v).getD 0 0) i k) (t ((tg v).getD 1 0) (i + k) (d - k))) (d + 1))) (nI (d + 1)) := by
  intro n
  induction n with
  | zero => intro x h1 h2; omega
  | succ n ih =>
    intro x h1 h2
    rw [f_Va_greatestOfSplits_L7]
    by_cases hx : d < x
    · have : x = d + 1 := by omega
      rw [if_pos ((nI_ltI (by omega) (by omega)).mpr hx), this]
    · rw [if_neg (fun h => hx ((nI_ltI (by omega) (by omega)).mp h)), c_split hW hC hv h7 hd2 hi (by omega) ht, ob1_some]
      have hb : ∀ k, k < d + 1 → Bd 7680 (addO (t ((tg v).getD 0 0) i k) (t ((tg v).getD 1 0) (i + k) (d - k))) := fun k hk => Bd_mono (Bd_add (ht _ _ _ (Or.inl ⟨h7, k, by omega, Or.inl ⟨rfl, rfl, rfl⟩⟩)).2 (ht _ _ _ (Or.inl ⟨h7, k, by omega, Or.inr ⟨rfl, rfl, rfl⟩⟩)).2) (by omega)
      rw [imax_enc (b := 7680) (by omega) (mxf_bd (fun k hk => hb k (by omega))) (hb x (by omega)), nI1, nI_add]
      exact ih (x + 1) (by omega) (by omega)
theorem c_reckon (hW : WF S kd tg st em rk) (hC : CR S kd nd tg st em gr_kinds gr_nodes gr_targetCounts gr_targets gr_stepScores gr_letterScores) (hX : ∀ j, j < T → tx_letters j = nI (tx j) ∧ tx j < 4) (hT : T ≤ 24) {v i d : Nat} {t : Nat → Nat → Nat → Option Int} (hv : v < S) (hd2 : d ≤ 12) (hi : i + d ≤ T)
    (ht : ∀ w j e, needs kd tg v i d w j e → va_scores (pl w j e) = enc (t w j e) ∧ Bd 3840 (t w j e)) :
    f_Va_reckon gr_kinds gr_targetCounts gr_targets gr_stepScores gr_letterScores tx_letters va_scores (nI v) (nI i) (nI d) = some (enc (bt kd tg st em tx t v i d)) := by
  have hk8 := (hW.2.1 v hv).1
  unfold f_Va_reckon
  rw [c_kindOf hW hC hv, ob1_some, nI7, nI8]
  by_cases h7 : kd v = 7
  · rw [if_pos (by rw [h7])]
    unfold f_Va_greatestOfSplits
    have hh := c_gsL (kk := f_Va_greatestOfSplits_K7_35) (va_scores := va_scores) hW hC hv h7 hd2 (by omega) ht 1000 0 (by omega) (by omega)
    rw [show (-1000000 : Int32) = enc (mxf (fun k => addO (t ((tg v).getD 0 0) i k) (t ((tg v).getD 1 0) (i + k) (d - k))) 0) from rfl, nI0, hh]
    unfold f_Va_greatestOfSplits_K7_35 bt
    rw [ob1_some, if_neg (by omega), if_pos h7]
  · rw [if_neg (nI_ne (by omega) (by omega) h7)]
    by_cases h8 : kd v = 8
    · rw [if_pos (by rw [h8])]
      unfold bt
      rw [if_pos h8]
      by_cases h0 : d = 0
      · rw [if_pos (by rw [h0]; rfl), if_pos h0]; rfl
      · rw [if_neg (by rw [nI0]; exact nI_ne (by omega) (by omega) h0), if_neg h0]; rfl
    · rw [if_neg (nI_ne (by omega) (by omega) h8), c_gt hW hC hX hT hv hd2 hi h7 h8 ht, ob1_some]
/-- the cells of a table that hold the values -/
def Ok (S : Nat) (val : Nat → Nat → Nat → Option Int) (P : Nat → Nat → Nat → Prop) (sc : Nat → Int32) : Prop := ∀ w j e, w < S → e ≤ 12 → j + e ≤ 24 → P w j e → sc (pl w j e) = enc (val w j e)
theorem Ok_upd {val : Nat → Nat → Nat → Option Int} {P Q : Nat → Nat → Nat → Prop} {sc : Nat → Int32} {v i d : Nat} (h : Ok S val P sc) (hd : d ≤ 12) (hi : i + d ≤ 24) (hQ : ∀ w j e, Q w j e → P w j e ∨ (w = v ∧ j = i ∧ e = d)) : Ok S val Q (upd sc (pl v i d) (enc (val v i d))) := by
  intro w j e hw he hje hq
  by_cases hc : pl w j e = pl v i d
  · obtain ⟨h1, h2, h3⟩ := pl_inj he hd hje hi hc
    subst h1; subst h2; subst h3
    rw [pk_us]
  · rw [pk_un hc]
    rcases hQ w j e hq with hp | ⟨rfl, rfl, rfl⟩
    · exact h w j e hw he hje hp
    · exact absurd rfl hc
theorem sub1 (n : Nat) : nI (n + 1) + (-1 : Int32) = nI n := pk_m1 n
theorem c_cuV (hW : WF S kd tg st em rk) (hC : CR S kd nd tg st em gr_kinds gr_nodes gr_targetCounts gr_targets gr_stepScores gr_letterScores) (hX : ∀ j, j < T → tx_letters j = nI (tx j) ∧ tx j < 4) (hT : T ≤ 24) {E D : Nat} (hE : E ≤ T) (hD : D ≤ E) (hD2 : D ≤ 12) {kk : Int32 → (Nat → Int32) → Option ((Nat → Int32) × Int32)} :
    ∀ (n v : Nat) (sc : Nat → Int32), v ≤ S → v < n → Ok S (V S kd tg st em tx) (fun w j e => j + e < E ∨ (j + e = E ∧ (e < D ∨ (e = D ∧ v ≤ w)))) sc →
      ∃ sc', f_Va_catchUp_L39 gr_kinds gr_targetCounts gr_targets gr_stepScores gr_letterScores tx_letters (nI E) (nI D) kk n (nI v + (-1 : Int32)) sc = kk (nI 0 + (-1 : Int32)) sc' ∧ Ok S (V S kd tg st em tx) (fun w j e => j + e < E ∨ (j + e = E ∧ (e < D ∨ e = D))) sc' := by
  have hS := hW.1.2.1
  intro n
  induction n with
  | zero => intro v sc h1 h2; omega
  | succ n ih =>
    intro v sc hv hn hok
    rw [f_Va_catchUp_L39]
    cases v with
    | zero =>
      rw [if_pos (by decide)]
      exact ⟨sc, rfl, fun w j e hw he hje hq => hok w j e hw he hje (by omega)⟩
    | succ v =>
      rw [sub1, if_neg (nI_pos (by omega)), pk_sub hD, c_place (by omega) hD2 (by omega), ob1_some]
      have hr := c_reckon (va_scores := sc) (t := V S kd tg st em tx) (i := E - D) (d := D) hW hC hX hT (show v < S by omega) hD2 (by omega) (fun w j e hne => by
        have hl := needs_lt hW (show v < S by omega) hne
        refine ⟨hok w j e hl.1 (by omega) (by omega) ?_, V_small hW hl.1 (by omega)⟩
        rcases hl.2.2.2.2.2.1 with q | ⟨q, q'⟩
        · by_cases h1 : j + e < E
          · exact Or.inl h1
          · refine Or.inr ⟨by omega, ?_⟩
            by_cases h2 : e < D
            · exact Or.inl h2
            · exact Or.inr ⟨by omega, by omega⟩
        · by_cases h1 : j + e < E
          · exact Or.inl h1
          · exact Or.inr ⟨by omega, Or.inl q'⟩)
      rw [hr, ob1_some, ← V_eq hW (show v < S by omega), gd_in (pl_lt (by omega) hD2 (by omega)) (by omega), nI_clamp (by have := pl_lt (v := v) (i := E - D) (d := D) (by omega) hD2 (by omega); omega)]
      exact ih v _ (by omega) (by omega) (Ok_upd hok hD2 (by omega) (fun w j e hq => by
        rcases hq with h | ⟨h1, h2 | ⟨h2, h3⟩⟩
        · exact Or.inl (Or.inl h)
        · exact Or.inl (Or.inr ⟨h1, Or.inl h2⟩)
        · by_cases hw : w = v
          · exact Or.inr ⟨hw, by omega, h2⟩
          · exact Or.inl (Or.inr ⟨h1, Or.inr ⟨h2, by omega⟩⟩)))
theorem c_cuD (hW : WF S kd tg st em rk) (hC : CR S kd nd tg st em gr_kinds gr_nodes gr_targetCounts gr_targets gr_stepScores gr_letterScores) (hX : ∀ j, j < T → tx_letters j = nI (tx j) ∧ tx j < 4) (hT : T ≤ 24) {E : Nat} (hE : E ≤ T) {kk : Int32 → (Nat → Int32) → Option ((Nat → Int32) × Int32)} :
    ∀ (n D : Nat) (sc : Nat → Int32), D ≤ 13 → D ≤ E + 1 → 13 < D + n → Ok S (V S kd tg st em tx) (fun w j e => j + e < E ∨ (j + e = E ∧ e < D)) sc →
      ∃ x sc', f_Va_catchUp_L18 gr_kinds gr_targetCounts gr_targets gr_stepScores gr_letterScores (nI S) tx_letters (nI E) kk n (nI D) sc = kk x sc' ∧ Ok S (V S kd tg st em tx) (fun _ j e => j + e < E + 1) sc' := by
  have hS := hW.1.2.1
  intro n
  induction n with
  | zero => intro D sc h1 h2; omega
  | succ n ih =>
    intro D sc h1 h2 hn hok
    rw [f_Va_catchUp_L18, nI12]
    by_cases hD : 12 < D
    · rw [if_pos ((nI_ltI (by omega) (by omega)).mpr hD)]
      exact ⟨_, sc, rfl, fun w j e hw he hje hq => hok w j e hw he hje (by omega)⟩
    · rw [if_neg (fun h => hD ((nI_ltI (by omega) (by omega)).mp h))]
      by_cases hDE : E < D
      · rw [if_pos ((nI_ltI (by omega) (by omega)).mpr hDE)]
        exact ⟨_, sc, rfl, fun w j e hw he hje hq => hok w j e hw he hje (by omega)⟩
      · rw [if_neg (fun h => hDE ((nI_ltI (by omega) (by omega)).mp h))]
        unfold f_Gr_size
        rw [ob1_some]
        have hm : nI S - (1 : Int32) = nI S + (-1 : Int32) := by rw [Int32.sub_eq_add_neg]
        rw [hm]
        obtain ⟨sc', e1, ok1⟩ := c_cuV (D := D) (kk := f_Va_catchUp_K39_71 (nI D) (f_Va_catchUp_L18 gr_kinds gr_targetCounts gr_targets gr_stepScores gr_letterScores (nI S) tx_letters (nI E) kk n)) hW hC hX hT hE (by omega) (by omega) 1000 S sc (Nat.le_refl _) (by omega) (fun w j e hw he hje hq => hok w j e hw he hje (by omega))
        rw [e1]
        unfold f_Va_catchUp_K39_71
        rw [nI1, nI_add]
        exact ih (D + 1) sc' (by omega) (by omega) (by omega) (fun w j e hw he hje hq => ok1 w j e hw he hje (by omega))
theorem c_cuE (hW : WF S kd tg st em rk) (hC : CR S kd nd tg st em gr_kinds gr_nodes gr_targetCounts gr_targets gr_stepScores gr_letterScores) (hX : ∀ j, j < T → tx_letters j = nI (tx j) ∧ tx j < 4) (hT : T ≤ 24) {kk : Int32 → (Nat → Int32) → Option ((Nat → Int32) × Int32)} :
    ∀ (n E : Nat) (sc : Nat → Int32), E ≤ T + 1 → T + 1 < E + n → Ok S (V S kd tg st em tx) (fun _ j e => j + e < E) sc →
      ∃ x sc', f_Va_catchUp_L5 gr_kinds gr_targetCounts gr_targets gr_stepScores gr_letterScores (nI S) tx_letters (nI T) kk n (nI E) sc = kk x sc' ∧ Ok S (V S kd tg st em tx) (fun _ j e => j + e < T + 1) sc' := by
  intro n
  induction n with
  | zero => intro E sc h1 h2; omega
  | succ n ih =>
    intro E sc h1 hn hok
    rw [f_Va_catchUp_L5]
    unfold f_Tx_length
    rw [ob1_some]
    by_cases hE : T < E
    · rw [if_pos ((nI_ltI (by omega) (by omega)).mpr hE)]
      exact ⟨_, sc, rfl, fun w j e hw he hje hq => hok w j e hw he hje (by omega)⟩
    · rw [if_neg (fun h => hE ((nI_ltI (by omega) (by omega)).mp h)), nI0]
      obtain ⟨x, sc', e1, ok1⟩ := c_cuD (kk := f_Va_catchUp_K18_77 (nI E) (f_Va_catchUp_L5 gr_kinds gr_targetCounts gr_targets gr_stepScores gr_letterScores (nI S) tx_letters (nI T) kk n)) hW hC hX hT (show E ≤ T by omega) 1000 0 sc (by omega) (by omega) (by omega) (fun w j e hw he hje hq => hok w j e hw he hje (by omega))
      rw [e1]
      unfold f_Va_catchUp_K18_77
      rw [nI1, nI_add]
      exact ih (E + 1) sc' (by omega) (by omega) ok1
theorem c_catchUp (hW : WF S kd tg st em rk) (hC : CR S kd nd tg st em gr_kinds gr_nodes gr_targetCounts gr_targets gr_stepScores gr_letterScores) (hX : ∀ j, j < T → tx_letters j = nI (tx j) ∧ tx j < 4) (hT : T ≤ 24) {K : Nat} (hK : K ≤ T + 1) (hok : Ok S (V S kd tg st em tx) (fun _ j e => j + e < K) va_scores) :
    ∃ sc', f_Va_catchUp gr_kinds gr_targetCounts gr_targets gr_stepScores gr_letterScores (nI S) tx_letters (nI T) va_scores (nI K) = some (sc', nI (T + 1)) ∧ Ok S (V S kd tg st em tx) (fun _ j e => j + e < T + 1) sc' := by
  unfold f_Va_catchUp
  obtain ⟨x, sc', e1, ok1⟩ := c_cuE (kk := f_Va_catchUp_K5_83 (nI T)) hW hC hX hT 1000 K va_scores hK (by omega) hok
  refine ⟨sc', ?_, ok1⟩
  rw [e1]
  unfold f_Va_catchUp_K5_83 f_Tx_length
  rw [ob1_some, nI1, nI_add]
end CW
