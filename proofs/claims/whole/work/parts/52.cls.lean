/-! 52.cls: the class's values: its tables against the abstract grammar; reckon, catchUp -/
def CR (S : Nat) (kd nd : Nat → Nat) (tg : Nat → List Nat) (st : Nat → Nat → Int) (em : Nat → Nat → Nat → Int) (gr_kinds gr_nodes gr_targetCounts gr_targets gr_stepScores gr_letterScores : Nat → Int32) : Prop :=
  ∀ v, v < S → gr_kinds v = nI (kd v) ∧ gr_nodes v = nI (nd v) ∧ gr_targetCounts v = nI (tg v).length ∧ (∀ k, k < (tg v).length → gr_targets (6 * v + k) = nI ((tg v).getD k 0) ∧ gr_stepScores (6 * v + k) = i32 (st v k)) ∧ (∀ a b, a < 4 → b < 4 → 0 < lo (kd v) → (kd v = 1 ∨ b = 0) → gr_letterScores (16 * v + 4 * a + b) = i32 (em v a b))
def off (d : Nat) : Nat := 25 * d - d * (d - 1) / 2
def pl (v i d : Nat) : Nat := 247 * v + off d + i
theorem off_mono : ∀ d, d < 13 → ∀ d', d' < 13 → d < d' → off d + 25 ≤ off d' + d := by decide
theorem off_top : ∀ d, d < 13 → off d + 25 ≤ 247 + d := by decide
theorem pl_inj {v i d v' i' d' : Nat} (hd : d ≤ 12) (hd' : d' ≤ 12) (hi : i + d ≤ 24) (hi' : i' + d' ≤ 24) (h : pl v i d = pl v' i' d') : v = v' ∧ i = i' ∧ d = d' := by
  unfold pl at h
  have h1 := off_top d (by omega)
  have h2 := off_top d' (by omega)
  have hv : v = v' := by omega
  subst hv
  rcases Nat.lt_trichotomy d d' with q | q | q
  · have := off_mono d (by omega) d' (by omega) q; omega
  · subst q; exact ⟨rfl, by omega, rfl⟩
  · have := off_mono d' (by omega) d (by omega) q; omega
theorem pl_lt {v i d : Nat} (hv : v < 43) (hd : d ≤ 12) (hi : i + d ≤ 24) : pl v i d < 10621 := by
  unfold pl
  have h1 := off_top d (by omega)
  omega
theorem tri_eq : ∀ d, d < 13 → (nI d * (nI d - (1 : Int32))) / (2 : Int32) = nI (d * (d - 1) / 2) := by decide
theorem off_ge : ∀ d, d < 13 → d * (d - 1) / 2 ≤ 25 * d := by decide
theorem c_place {v i d : Nat} (hv : v < 43) (hd : d ≤ 12) (hi : i ≤ 24) : f_Va_place (nI v) (nI i) (nI d) = some (nI (pl v i d)) := by
  unfold f_Va_place
  have h1 := off_ge d (by omega)
  rw [tri_eq d (by omega), nI247, nI25, pk_mul, pk_mul, nI_add, pk_sub (by omega), nI_add]
  unfold pl off
  congr 2
  omega
theorem c_of {sc : Nat → Int32} {v i d : Nat} (hv : v < 43) (hd : d ≤ 12) (hi : i + d ≤ 24) : f_Va_of sc (nI v) (nI i) (nI d) = some (sc (pl v i d)) := by
  unfold f_Va_of
  rw [c_place hv hd (by omega), ob1_some, gd_in (pl_lt hv hd hi) (by omega), nI_clamp (by have := pl_lt hv hd hi; omega)]
theorem c_lb : ∀ k, k < 9 → f_Fa_lettersBefore (nI k) = some (nI (lb k)) := by decide
theorem c_lo : ∀ k, k < 9 → f_Fa_lettersOf (nI k) = some (nI (lo k)) := by decide
section CV
variable {S : Nat} {kd nd : Nat → Nat} {tg : Nat → List Nat} {st : Nat → Nat → Int} {em : Nat → Nat → Nat → Int} {rk : Nat → Nat} {tx : Nat → Nat} {T : Nat}
variable {gr_kinds gr_nodes gr_targetCounts gr_targets gr_stepScores gr_letterScores tx_letters va_scores : Nat → Int32}
variable (hW : WF S kd tg st em rk) (hC : CR S kd nd tg st em gr_kinds gr_nodes gr_targetCounts gr_targets gr_stepScores gr_letterScores) (hX : ∀ j, j < T → tx_letters j = nI (tx j) ∧ tx j < 4)
theorem c_kindOf (hW : WF S kd tg st em rk) (hC : CR S kd nd tg st em gr_kinds gr_nodes gr_targetCounts gr_targets gr_stepScores gr_letterScores) {v : Nat} (hv : v < S) : f_Gr_kindOf gr_kinds (nI v) = some (nI (kd v)) := by
  have hS := hW.1.2.1
  unfold f_Gr_kindOf
  rw [gd_in (by omega) (by omega), nI_clamp (by omega), (hC v hv).1]
theorem c_targetCount (hW : WF S kd tg st em rk) (hC : CR S kd nd tg st em gr_kinds gr_nodes gr_targetCounts gr_targets gr_stepScores gr_letterScores) {v : Nat} (hv : v < S) : f_Gr_targetCount gr_targetCounts (nI v) = some (nI (tg v).length) := by
  have hS := hW.1.2.1
  unfold f_Gr_targetCount
  rw [gd_in (by omega) (by omega), nI_clamp (by omega), (hC v hv).2.2.1]
theorem c_targetOf (hW : WF S kd tg st em rk) (hC : CR S kd nd tg st em gr_kinds gr_nodes gr_targetCounts gr_targets gr_stepScores gr_letterScores) {v k : Nat} (hv : v < S) (hk : k < (tg v).length) : f_Gr_targetOf gr_targets (nI v) (nI k) = some (nI ((tg v).getD k 0)) := by
  have hS := hW.1.2.1
  have hl := (hW.2.1 v hv).2.2.2.1
  unfold f_Gr_targetOf
  rw [nI6, pk_mul, nI_add, Nat.mul_comm v 6, gd_in (by omega) (by omega), nI_clamp (by omega), ((hC v hv).2.2.2.1 k hk).1]
theorem c_stepScore (hW : WF S kd tg st em rk) (hC : CR S kd nd tg st em gr_kinds gr_nodes gr_targetCounts gr_targets gr_stepScores gr_letterScores) {v k : Nat} (hv : v < S) (hk : k < (tg v).length) : f_Gr_stepScore gr_stepScores (nI v) (nI k) = some (i32 (st v k)) := by
  have hS := hW.1.2.1
  have hl := (hW.2.1 v hv).2.2.2.1
  unfold f_Gr_stepScore
  rw [nI6, pk_mul, nI_add, Nat.mul_comm v 6, gd_in (by omega) (by omega), nI_clamp (by omega), ((hC v hv).2.2.2.1 k hk).2]
theorem c_letterScore (hW : WF S kd tg st em rk) (hC : CR S kd nd tg st em gr_kinds gr_nodes gr_targetCounts gr_targets gr_stepScores gr_letterScores) {v a b : Nat} (hv : v < S) (ha : a < 4) (hb : b < 4) (hl : 0 < lo (kd v)) (hk : kd v = 1 ∨ b = 0) : f_Gr_letterScore gr_letterScores (nI v) (nI a) (nI b) = some (i32 (em v a b)) := by
  have hS := hW.1.2.1
  unfold f_Gr_letterScore
  rw [nI16, nI4, pk_mul, pk_mul, nI_add, nI_add, Nat.mul_comm v 16, Nat.mul_comm a 4, gd_in (by omega) (by omega), nI_clamp (by omega), (hC v hv).2.2.2.2 a b ha hb hl hk]
theorem c_letter (hX : ∀ j, j < T → tx_letters j = nI (tx j) ∧ tx j < 4) (hT : T ≤ 24) {j : Nat} (hj : j < T) : f_Tx_letter tx_letters (nI j) = some (nI (tx j)) := by
  unfold f_Tx_letter
  rw [gd_in (by omega) (by omega), nI_clamp (by omega), (hX j hj).1]
theorem nI_ne {a b : Nat} (ha : a < 2 ^ 31) (hb : b < 2 ^ 31) (h : a ≠ b) : ¬ nI a = nI b := fun e => h ((nI_eq ha hb).mp e)
theorem c_throughTarget (hW : WF S kd tg st em rk) (hC : CR S kd nd tg st em gr_kinds gr_nodes gr_targetCounts gr_targets gr_stepScores gr_letterScores) {v k i d : Nat} {o : Option Int} (hv : v < S) (hk : k < (tg v).length) (hd : d ≤ 12) (hi : i + d ≤ 24) (ho : va_scores (pl ((tg v).getD k 0) i d) = enc o) (hb : Bd 3840 o) : f_Va_throughTarget gr_targets gr_stepScores va_scores (nI v) (nI k) (nI i) (nI d) = some (enc (plusO o (st v k))) := by
  have hS := hW.1.2.1
  unfold f_Va_throughTarget
  rw [c_targetOf hW hC hv hk, ob1_some, c_of (by have := hW.tgt_lt hv hk; omega) hd hi, ob1_some, ho]
  cases o with
  | none => rw [if_pos (show enc none = (-1000000 : Int32) from rfl)]; rfl
  | some z =>
    rw [if_neg (by intro h; have := (enc_eq_none (by omega) hb).mp h; cases this), c_stepScore hW hC hv hk, ob1_some]
    show some (i32 z + i32 (st v k)) = _
    rw [i32_add]; rfl
theorem c_emitted (hW : WF S kd tg st em rk) (hC : CR S kd nd tg st em gr_kinds gr_nodes gr_targetCounts gr_targets gr_stepScores gr_letterScores) (hX : ∀ j, j < T → tx_letters j = nI (tx j) ∧ tx j < 4) (hT : T ≤ 24) {v i d : Nat} (hv : v < S) (hid : i + d ≤ T) (hl : lo (kd v) ≤ d) : f_Va_emitted gr_kinds gr_letterScores tx_letters (nI v) (nI i) (nI d) = some (i32 (el kd em tx v i d)) := by
  have hk8 := (hW.2.1 v hv).1
  unfold f_Va_emitted
  rw [c_kindOf hW hC hv, ob1_some]
  have hend : 0 < d → (nI i + nI d) - (1 : Int32) = nI (i + d - 1) := fun h => by rw [nI_add, nI1, pk_sub (by omega)]
  have hcases : kd v = 0 ∨ kd v = 1 ∨ kd v = 2 ∨ kd v = 3 ∨ kd v = 4 ∨ kd v = 5 ∨ kd v = 6 ∨ kd v = 7 ∨ kd v = 8 := by omega
  rcases hcases with h | h | h | h | h | h | h | h | h
  · have e : el kd em tx v i d = 0 := by unfold el; simp [h]
    rw [e, h]; rfl
  · have h1 : 2 ≤ d := by rw [h] at hl; exact hl
    have e : el kd em tx v i d = em v (tx i) (tx (i + d - 1)) := by unfold el; simp [h]
    have hs := c_letterScore hW hC hv (hX i (by omega)).2 (hX (i + d - 1) (by omega)).2 (by rw [h]; decide) (Or.inl h)
    rw [e, h, if_pos (show nI 1 = (1 : Int32) from rfl), c_letter hX hT (by omega), ob1_some, hend (by omega), c_letter hX hT (by omega), ob1_some, hs, ob1_some]
  · have h1 : 1 ≤ d := by rw [h] at hl; exact hl
    have e : el kd em tx v i d = em v (tx i) 0 := by unfold el; simp [h]
    have hs := c_letterScore (b := 0) hW hC hv (hX i (by omega)).2 (by omega) (by rw [h]; decide) (Or.inr rfl)
    rw [e, h, if_neg (show ¬ nI 2 = (1 : Int32) by decide), if_pos (show nI 2 = (2 : Int32) from rfl), c_letter hX hT (by omega), ob1_some, nI0, hs, ob1_some]
  · have h1 : 1 ≤ d := by rw [h] at hl; exact hl
    have e : el kd em tx v i d = em v (tx (i + d - 1)) 0 := by unfold el; simp [h]
    have hs := c_letterScore (b := 0) hW hC hv (hX (i + d - 1) (by omega)).2 (by omega) (by rw [h]; decide) (Or.inr rfl)
    rw [e, h, if_neg (show ¬ nI 3 = (1 : Int32) by decide), if_neg (show ¬ nI 3 = (2 : Int32) by decide), if_pos (show nI 3 = (3 : Int32) from rfl), hend (by omega), c_letter hX hT (by omega), ob1_some, nI0, hs, ob1_some]
  · have e : el kd em tx v i d = 0 := by unfold el; simp [h]
    rw [e, h]; rfl
  · have h1 : 1 ≤ d := by rw [h] at hl; exact hl
    have e : el kd em tx v i d = em v (tx i) 0 := by unfold el; simp [h]
    have hs := c_letterScore (b := 0) hW hC hv (hX i (by omega)).2 (by omega) (by rw [h]; decide) (Or.inr rfl)
    rw [e, h, if_neg (show ¬ nI 5 = (1 : Int32) by decide), if_neg (show ¬ nI 5 = (2 : Int32) by decide), if_neg (show ¬ nI 5 = (3 : Int32) by decide), if_neg (show ¬ nI 5 = (4 : Int32) by decide), if_pos (show nI 5 = (5 : Int32) from rfl), c_letter hX hT (by omega), ob1_some, nI0, hs, ob1_some]
  · have h1 : 1 ≤ d := by rw [h] at hl; exact hl
    have e : el kd em tx v i d = em v (tx (i + d - 1)) 0 := by unfold el; simp [h]
    have hs := c_letterScore (b := 0) hW hC hv (hX (i + d - 1) (by omega)).2 (by omega) (by rw [h]; decide) (Or.inr rfl)
    rw [e, h, if_neg (show ¬ nI 6 = (1 : Int32) by decide), if_neg (show ¬ nI 6 = (2 : Int32) by decide), if_neg (show ¬ nI 6 = (3 : Int32) by decide), if_neg (show ¬ nI 6 = (4 : Int32) by decide), if_neg (show ¬ nI 6 = (5 : Int32) by decide), if_pos (show nI 6 = (6 : Int32) from rfl), hend (by omega), c_letter hX hT (by omega), ob1_some, nI0, hs, ob1_some]
  · have e : el kd em tx v i d = 0 := by unfold el; simp [h]
    rw [e, h]; rfl
  · have e : el kd em tx v i d = 0 := by unfold el; simp [h]
    rw [e, h]; rfl
theorem c_gtL (hW : WF S kd tg st em rk) (hC : CR S kd nd tg st em gr_kinds gr_nodes gr_targetCounts gr_targets gr_stepScores gr_letterScores) {v i d : Nat} {t : Nat → Nat → Nat → Option Int} {kk : Int32 → Int32 → Option Int32} (hv : v < S) (hd : lo (kd v) ≤ d) (hd2 : d ≤ 12) (hi : i + d ≤ 24)
    (ht : ∀ k, k < (tg v).length → va_scores (pl ((tg v).getD k 0) (i + lb (kd v)) (d - lo (kd v))) = enc (t ((tg v).getD k 0) (i + lb (kd v)) (d - lo (kd v))) ∧ Bd 3840 (t ((tg v).getD k 0) (i + lb (kd v)) (d - lo (kd v)))) :
    ∀ (n x : Nat), x ≤ (tg v).length → (tg v).length < x + n → f_Va_greatestOfTargets_L43 gr_targetCounts gr_targets gr_stepScores va_scores (nI v) (nI i) (nI d) (nI (lb (kd v))) (nI (lo (kd v))) kk n (enc (mxf (fun k => plusO (t ((tg v).getD k 0) (i + lb (kd v)) (d - lo (kd v))) (st v k)) x)) (nI x) = kk (enc (mxf (fun k => plusO (t ((tg v).getD k 0) (i + lb (kd v)) (d - lo (kd v))) (st v k)) (tg v).length)) (nI (tg v).length) := by
  have hl := (hW.2.1 v hv).2.2.2.1
  have hlb := lb_le (kd v)
  have hlo : lo (kd v) = lb (kd v) + lh (kd v) := rfl
  intro n
  induction n with
  | zero => intro x h1 h2; omega
  | succ n ih =>
    intro x h1 h2
    rw [f_Va_greatestOfTargets_L43, c_targetCount hW hC hv, ob1_some]
    by_cases hx : (tg v).length ≤ x
    · have : x = (tg v).length := by omega
      rw [if_pos ((nI_leI (by omega) (by omega)).mpr hx), this]
    · rw [if_neg (fun h => hx ((nI_leI (by omega) (by omega)).mp h)), nI_add, pk_sub hd, c_throughTarget hW hC hv (by omega) (by omega) (by omega) (ht x (by omega)).1 (ht x (by omega)).2, ob1_some]
      have hb : ∀ k, k < (tg v).length → Bd 4000 (plusO (t ((tg v).getD k 0) (i + lb (kd v)) (d - lo (kd v))) (st v k)) := fun k hk => Bd_mono (Bd_plus (k := 64) (ht k hk).2 (by have := hW.2.2.1 v k; omega) (by have := hW.2.2.1 v k; omega)) (by omega)
      rw [imax_enc (b := 4000) (by omega) (mxf_bd (fun k hk => hb k (by omega))) (hb x (by omega)), nI1, nI_add]
      exact ih (x + 1) (by omega) (by omega)
theorem plus_plus (o : Option Int) (a b : Int) : plusO (plusO o a) b = plusO o (a + b) := by
  cases o with
  | none => rfl
  | some z => simp [plusO]; omega
theorem c_gt (hW : WF S kd tg st em rk) (hC : CR S kd nd tg st em gr_kinds gr_nodes gr_targetCounts gr_targets gr_stepScores gr_letterScores) (hX : ∀ j, j < T → tx_letters j = nI (tx j) ∧ tx j < 4) (hT : T ≤ 24) {v i d : Nat} {t : Nat → Nat → Nat → Option Int} (hv : v < S) (hd2 : d ≤ 12) (hi : i + d ≤ T) (h7 : kd v ≠ 7) (h8 : kd v ≠ 8)
    (ht : ∀ w j e, needs kd tg v i d w j e → va_scores (pl w j e) = enc (t w j e) ∧ Bd 3840 (t w j e)) :
    f_Va_greatestOfTargets gr_kinds gr_targetCounts gr_targets gr_stepScores gr_letterScores tx_letters va_scores (nI v) (nI i) (nI d) = some (enc (bt kd tg st em tx t v i d)) := by
  have hk8 := (hW.2.1 v hv).1
  have hl := (hW.2.1 v hv).2.2.2.1
  unfold f_Va_greatestOfTargets
  rw [c_kindOf hW hC hv, ob1_some, c_lb _ (by omega), ob1_some, c_lo _ (by omega), ob1_some]
  have hlo2 : lo (kd v) ≤ 2 := by have := lb_le (kd v); have := lh_le (kd v); unfold lo; omega
  unfold bt
  rw [if_neg h8, if_neg h7]
  by_cases hd : d < lo (kd v)
  · rw [if_pos hd, if_neg]
    · rfl
    · rw [Int32.le_iff_toInt_le, pk_sub_toInt (by omega) (by omega)]
      have : (0 : Int32).toInt = 0 := rfl
      omega
  · rw [if_neg hd, if_pos]
    · have ht' : ∀ k, k < (tg v).length → va_scores (pl ((tg v).getD k 0) (i + lb (kd v)) (d - lo (kd v))) = enc (t ((tg v).getD k 0) (i + lb (kd v)) (d - lo (kd v))) ∧ Bd 3840 (t ((tg v).getD k 0) (i + lb (kd v)) (d - lo (kd v))) := fun k hk => ht _ _ _ (Or.inr ⟨h7, h8, by omega, k, hk, rfl, rfl, rfl⟩)
      have hh := c_gtL (kk := f_Va_greatestOfTargets_K43_80 gr_kinds gr_letterScores tx_letters (nI v) (nI i) (nI d)) (va_scores := va_scores) hW hC hv (by omega) hd2 (by omega) ht' 1000 0 (by omega) (by omega)
      rw [show (-1000000 : Int32) = enc (mxf (fun k => plusO (t ((tg v).getD k 0) (i + lb (kd v)) (d - lo (kd v))) (st v k)) 0) from rfl, nI0, hh]
      unfold f_Va_greatestOfTargets_K43_80
      have hb : Bd 4000 (mxf (fun k => plusO (t ((tg v).getD k 0) (i + lb (kd v)) (d - lo (kd v))) (st v k)) (tg v).length) := mxf_bd (fun k hk => Bd_mono (Bd_plus (k := 64) (ht' k hk).2 (by have := hW.2.2.1 v k; omega) (by have := hW.2.2.1 v k; omega)) (by omega))
      rw [show (fun k => plusO (t ((tg v).getD k 0) (i + lb (kd v)) (d - lo (kd v))) (st v k + el kd em tx v i d)) = (fun k => plusO ((fun k => plusO (t ((tg v).getD k 0) (i + lb (kd v)) (d - lo (kd v))) (st v k)) k) (el kd em tx v i d)) from funext (fun k => (plus_plus _ _ _).symm), mxf_plus]
      generalize mxf (fun k => plusO (t ((tg v).getD k 0) (i + lb (kd v)) (d - lo (kd v))) (st v k)) (tg v).length = o at hb ⊢
      cases o with
      | none => rw [if_pos (show enc none = (-1000000 : Int32) from rfl)]; rfl
      | some z =>
        rw [if_neg (by intro h; have := (enc_eq_none (by omega) hb).mp h; cases this), c_emitted hW hC hX hT hv hi (by omega), ob1_some]
        show some (i32 z + i32 _) = _
        rw [i32_add]; rfl
    · rw [Int32.le_iff_toInt_le, pk_sub_toInt (by omega) (by omega)]
      have : (0 : Int32).toInt = 0 := rfl
      omega
end CV
