/-! 55.work: the reference's values: turn after turn until nothing grows -/
def vld (S T w j e : Nat) : Prop := w < S ∧ e ≤ 12 ∧ j + e ≤ T
def prc (v i d w j e : Nat) : Prop := v < w ∨ (v = w ∧ (j < i ∨ (j = i ∧ e < d)))
def updT (t : Nat → Nat → Nat → Option Int) (v i d : Nat) (x : Option Int) : Nat → Nat → Nat → Option Int := fun w j e => if w = v ∧ j = i ∧ e = d then x else t w j e
theorem updT_same (t : Nat → Nat → Nat → Option Int) (v i d : Nat) (x : Option Int) : updT t v i d x v i d = x := if_pos ⟨rfl, rfl, rfl⟩
theorem updT_other {t : Nat → Nat → Nat → Option Int} {v i d w j e : Nat} {x : Option Int} (h : ¬ (w = v ∧ j = i ∧ e = d)) : updT t v i d x w j e = t w j e := if_neg h
def Inv (S T : Nat) (kd : Nat → Nat) (tg : Nat → List Nat) (st : Nat → Nat → Int) (em : Nat → Nat → Nat → Int) (tx rk : Nat → Nat) (p : Nat) (t0 : Nat → Nat → Nat → Option Int) (pr : Nat → Nat → Nat → Prop) (b : Nat) (t : Nat → Nat → Nat → Option Int) (vals : Nat → Int32) : Prop :=
  (∀ w j e, vld S T w j e → vals (cl w j e) = enc (t w j e)) ∧
  (∀ w j e, vld S T w j e → Bd (128 * (rk w + e)) (t w j e)) ∧
  (∀ w j e, vld S T w j e → leO (t w j e) (bt kd tg st em tx t w j e)) ∧
  (∀ w j e, vld S T w j e → (e < p ∨ (e ≤ p ∧ pr w j e)) → t w j e = V S kd tg st em tx w j e) ∧
  (b = 0 → ∀ w j e, vld S T w j e → t w j e = t0 w j e ∧ (pr w j e → bt kd tg st em tx t0 w j e = t0 w j e)) ∧
  (13 ≤ p → b = 0) ∧ b ≤ 1
section WK
variable {S : Nat} {kd nd : Nat → Nat} {tg : Nat → List Nat} {st : Nat → Nat → Int} {em : Nat → Nat → Nat → Int} {rk : Nat → Nat} {tx : Nat → Nat} {T : Nat}
variable {mo_begin mo_other mo_kinds mo_nodeOf mo_steps mo_emissions mo_text vals : Nat → Int32}
theorem Inv.weak {p b : Nat} {t0 t : Nat → Nat → Nat → Option Int} {pr pr' : Nat → Nat → Nat → Prop} (h : Inv S T kd tg st em tx rk p t0 pr b t vals) (hp : ∀ w j e, vld S T w j e → pr' w j e → pr w j e) : Inv S T kd tg st em tx rk p t0 pr' b t vals := by
  obtain ⟨h1, h2, h3, h4, h5, h6⟩ := h
  refine ⟨h1, h2, h3, fun w j e hv hq => h4 w j e hv ?_, fun hb w j e hv => ⟨(h5 hb w j e hv).1, fun hq => (h5 hb w j e hv).2 (hp w j e hv hq)⟩, h6⟩
  rcases hq with hq | ⟨hq, hq'⟩
  · exact Or.inl hq
  · exact Or.inr ⟨hq, hp w j e hv hq'⟩
theorem needs_vld (hW : WF S kd tg st em rk) {v i d w j e : Nat} (hv : vld S T v i d) (hne : needs kd tg v i d w j e) : vld S T w j e := by
  have hl := needs_lt hW hv.1 hne
  obtain ⟨h1, h2, h3⟩ := hv
  exact ⟨hl.1, by omega, by omega⟩
theorem Inv_step (hW : WF S kd tg st em rk) (hT : T ≤ 24) {p b v i d b' : Nat} {t0 t : Nat → Nat → Nat → Option Int} {pr : Nat → Nat → Nat → Prop} (h : Inv S T kd tg st em tx rk p t0 pr b t vals) (hv : vld S T v i d) (hpr : ∀ w j e, vld S T w j e → v < w → pr w j e)
    (hb' : (b' = 0 ∧ b = 0 ∧ leO (bt kd tg st em tx t v i d) (t v i d)) ∨ (b' = 1 ∧ (b = 1 ∨ ¬ leO (bt kd tg st em tx t v i d) (t v i d)))) :
    Inv S T kd tg st em tx rk p t0 (fun w j e => pr w j e ∨ (w = v ∧ j = i ∧ e = d)) b' (updT t v i d (bt kd tg st em tx t v i d)) (upd vals (cl v i d) (enc (bt kd tg st em tx t v i d))) := by
  obtain ⟨h1, h2, h3, h4, h5, h6, h7⟩ := h
  have hgrow : ∀ w j e, vld S T w j e → leO (t w j e) (updT t v i d (bt kd tg st em tx t v i d) w j e) := by
    intro w j e hw
    by_cases hc : w = v ∧ j = i ∧ e = d
    · obtain ⟨rfl, rfl, rfl⟩ := hc
      rw [updT_same]
      exact h3 w j e hw
    · rw [updT_other hc]; exact leO_refl _
  have hxV : d ≤ p → bt kd tg st em tx t v i d = V S kd tg st em tx v i d := by
    intro hd
    rw [V_eq hW hv.1]
    refine bt_congr (fun w j e hne => ?_)
    have hl := needs_lt hW hv.1 hne
    have hvl := needs_vld hW hv hne
    refine h4 w j e hvl ?_
    rcases hl.2.2.2.2.2.1 with q | ⟨q, q'⟩
    · exact Or.inr ⟨by omega, hpr w j e hvl q⟩
    · exact Or.inl (by omega)
  refine ⟨?_, ?_, ?_, ?_, ?_, ?_, ?_⟩
  · intro w j e hw
    by_cases hc : w = v ∧ j = i ∧ e = d
    · obtain ⟨rfl, rfl, rfl⟩ := hc
      rw [updT_same, pk_us]
    · rw [updT_other hc, pk_un, h1 w j e hw]
      intro hq
      have a1 := hw.2
      have a2 := hv.2
      exact hc (cl_inj (by omega) (by omega) (by omega) (by omega) hq)
  · intro w j e hw
    by_cases hc : w = v ∧ j = i ∧ e = d
    · obtain ⟨rfl, rfl, rfl⟩ := hc
      rw [updT_same]
      exact bt_bd hW hv.1 (fun w j e hne => h2 w j e (needs_vld hW hv hne))
    · rw [updT_other hc]; exact h2 w j e hw
  · intro w j e hw
    have hm : leO (bt kd tg st em tx t w j e) (bt kd tg st em tx (updT t v i d (bt kd tg st em tx t v i d)) w j e) := bt_mono (fun w' j' e' hne => hgrow w' j' e' (needs_vld hW hw hne))
    by_cases hc : w = v ∧ j = i ∧ e = d
    · obtain ⟨rfl, rfl, rfl⟩ := hc
      rw [updT_same]
      exact hm
    · rw [updT_other hc]
      exact leO_trans (h3 w j e hw) hm
  · intro w j e hw hq
    by_cases hc : w = v ∧ j = i ∧ e = d
    · obtain ⟨rfl, rfl, rfl⟩ := hc
      rw [updT_same]
      exact hxV (by omega)
    · rw [updT_other hc]
      refine h4 w j e hw ?_
      rcases hq with hq | ⟨hq, hq' | hq'⟩
      · exact Or.inl hq
      · exact Or.inr ⟨hq, hq'⟩
      · exact absurd hq' hc
  · intro hb0 w j e hw
    rcases hb' with ⟨-, hb, hle⟩ | ⟨hb, -⟩
    · have hx : bt kd tg st em tx t v i d = t v i d := leO_anti hle (h3 v i d hv)
      have ht0 : t v i d = t0 v i d := (h5 hb v i d hv).1
      refine ⟨?_, ?_⟩
      · by_cases hc : w = v ∧ j = i ∧ e = d
        · obtain ⟨rfl, rfl, rfl⟩ := hc
          rw [updT_same, hx, ht0]
        · rw [updT_other hc]; exact (h5 hb w j e hw).1
      · rintro (hq | ⟨rfl, rfl, rfl⟩)
        · exact (h5 hb w j e hw).2 hq
        · rw [← ht0, ← hx]
          exact bt_congr (fun w' j' e' hne => ((h5 hb w' j' e' (needs_vld hW hv hne)).1).symm)
    · omega
  · intro hp
    rcases hb' with ⟨hb, -⟩ | ⟨-, hb | hb⟩
    · exact hb
    · have := h6 hp; omega
    · exfalso
      apply hb
      have a2 := hv.2
      rw [hxV (by omega), h4 v i d hv (Or.inl (by omega))]
      exact leO_refl _
  · rcases hb' with ⟨hb, -⟩ | ⟨hb, -⟩ <;> omega
theorem Bd_vld (hW : WF S kd tg st em rk) {w e : Nat} {o : Option Int} (hw : w < S) (he : e ≤ 12) (h : Bd (128 * (rk w + e)) o) : Bd 3840 o := Bd_mono h (by have := (hW.2.1 w hw).2.1; omega)
theorem enc_le {b : Nat} (hb : b < 1000000) {x y : Option Int} (hx : Bd b x) (hy : Bd b y) : enc x ≤ enc y ↔ leO x y := by
  have h := enc_lt hb hy hx
  constructor
  · intro q
    exact Classical.byContradiction (fun hn => Int32.not_lt.mpr q (h.mpr hn))
  · intro q
    exact Int32.not_lt.mp (fun hn => (h.mp hn) q)
theorem m_w63 (hW : WF S kd tg st em rk) (hM : MR S kd nd tg st em mo_begin mo_other mo_kinds mo_nodeOf mo_steps mo_emissions) (hX : ∀ j, j < T → mo_text j = nI (tx j) ∧ tx j < 4) (hT : T ≤ 24) {p v i : Nat} {t0 : Nat → Nat → Nat → Option Int} (hv : v < S) (hi : i ≤ T) {kk : Int32 → Int32 → (Nat → Int32) → Option (Int32 × (Nat → Int32))} :
    ∀ (n d b : Nat) (t : Nat → Nat → Nat → Option Int) (vals : Nat → Int32), d ≤ 13 → 13 < d + n → Inv S T kd tg st em tx rk p t0 (prc v i d) b t vals →
      ∃ x b' t' vals', f_Mo_work_L63 mo_begin mo_other mo_kinds mo_nodeOf mo_steps mo_emissions (nI T) mo_text (nI v) (nI i) kk n (nI b) (nI d) vals = kk (nI b') x vals' ∧ Inv S T kd tg st em tx rk p t0 (prc v (i + 1) 0) b' t' vals' := by
  have hS := hW.1.2.1
  intro n
  induction n with
  | zero => intro d b t vals h1 h2; omega
  | succ n ih =>
    intro d b t vals h1 h2 hinv
    rw [f_Mo_work_L63, nI12, nI_add]
    by_cases hd : 12 < d
    · rw [if_pos ((nI_ltI (by omega) (by omega)).mpr hd)]
      refine ⟨_, b, t, vals, rfl, hinv.weak (fun w j e hw hq => ?_)⟩
      have := hw.2.1
      unfold prc at hq ⊢
      omega
    · rw [if_neg (fun h => hd ((nI_ltI (by omega) (by omega)).mp h))]
      by_cases hTd : T < i + d
      · rw [if_pos ((nI_ltI (by omega) (by omega)).mpr hTd)]
        refine ⟨_, b, t, vals, rfl, hinv.weak (fun w j e hw hq => ?_)⟩
        have := hw.2.2
        unfold prc at hq ⊢
        omega
      · rw [if_neg (fun h => hTd ((nI_ltI (by omega) (by omega)).mp h))]
        have hvl : vld S T v i d := ⟨hv, by omega, by omega⟩
        have hbet := m_better (vals := vals) (t := t) hW hM hX hT hv (show d ≤ 12 by omega) (show i + d ≤ T by omega) (fun w j e hne => by
          have hq := needs_vld hW hvl hne
          exact ⟨hinv.1 w j e hq, Bd_vld hW hq.1 hq.2.1 (hinv.2.1 w j e hq)⟩)
        rw [hbet, ob1_some]
        have hxb : Bd 3840 (bt kd tg st em tx t v i d) := Bd_vld hW hv (show d ≤ 12 by omega) (bt_bd hW hv (fun w j e hne => hinv.2.1 w j e (needs_vld hW hvl hne)))
        have htb : Bd 3840 (t v i d) := Bd_vld hW hv (show d ≤ 12 by omega) (hinv.2.1 v i d hvl)
        have hb1 := hinv.2.2.2.2.2.2
        have hJ : ∀ b' : Nat, ((b' = 0 ∧ b = 0 ∧ leO (bt kd tg st em tx t v i d) (t v i d)) ∨ (b' = 1 ∧ (b = 1 ∨ ¬ leO (bt kd tg st em tx t v i d) (t v i d)))) → ∃ x b'' t' vals', f_Mo_work_J117 (nI v) (nI i) (nI d) vals (f_Mo_work_L63 mo_begin mo_other mo_kinds mo_nodeOf mo_steps mo_emissions (nI T) mo_text (nI v) (nI i) kk n) (enc (bt kd tg st em tx t v i d)) (nI b') = kk (nI b'') x vals' ∧ Inv S T kd tg st em tx rk p t0 (prc v (i + 1) 0) b'' t' vals' := by
          intro b' hb'
          have hst := (Inv_step hW hT hinv hvl (fun w j e _ hq => Or.inl hq) hb').weak (pr' := prc v i (d + 1)) (fun w j e hw hq => by unfold prc at hq ⊢; omega)
          unfold f_Mo_work_J117
          rw [m_cell, ob1_some, gd_in (cl_lt (by omega) (by omega) (by omega)) (by omega), nI_clamp (by have := cl_lt (v := v) (i := i) (d := d) (by omega) (by omega) (by omega); omega), nI1, nI_add]
          exact ih (d + 1) b' _ _ (by omega) (by omega) hst
        by_cases hb : b = 0
        · rw [if_pos (by rw [hb]; rfl), m_cell, ob1_some, gd_in (cl_lt (by omega) (by omega) (by omega)) (by omega), nI_clamp (by have := cl_lt (v := v) (i := i) (d := d) (by omega) (by omega) (by omega); omega), hinv.1 v i d hvl]
          by_cases hle : leO (bt kd tg st em tx t v i d) (t v i d)
          · rw [if_pos ((enc_le (by omega) hxb htb).mpr hle)]
            exact hJ 0 (Or.inl ⟨rfl, hb, hle⟩)
          · rw [if_neg (fun h => hle ((enc_le (by omega) hxb htb).mp h))]
            exact hJ 1 (Or.inr ⟨rfl, Or.inr hle⟩)
        · rw [if_neg (by rw [nI0]; exact nI_ne (by omega) (by omega) hb)]
          exact hJ 1 (Or.inr ⟨rfl, Or.inl (by omega)⟩)
theorem m_w52 (hW : WF S kd tg st em rk) (hM : MR S kd nd tg st em mo_begin mo_other mo_kinds mo_nodeOf mo_steps mo_emissions) (hX : ∀ j, j < T → mo_text j = nI (tx j) ∧ tx j < 4) (hT : T ≤ 24) {p v : Nat} {t0 : Nat → Nat → Nat → Option Int} (hv : v < S) {kk : Int32 → Int32 → (Nat → Int32) → Option (Int32 × (Nat → Int32))} :
    ∀ (n i b : Nat) (t : Nat → Nat → Nat → Option Int) (vals : Nat → Int32), i ≤ T + 1 → T + 1 < i + n → Inv S T kd tg st em tx rk p t0 (prc v i 0) b t vals →
      ∃ x b' t' vals', f_Mo_work_L52 mo_begin mo_other mo_kinds mo_nodeOf mo_steps mo_emissions (nI T) mo_text (nI v) kk n (nI b) (nI i) vals = kk (nI b') x vals' ∧ Inv S T kd tg st em tx rk p t0 (fun w _ _ => v ≤ w) b' t' vals' := by
  intro n
  induction n with
  | zero => intro i b t vals h1 h2; omega
  | succ n ih =>
    intro i b t vals h1 h2 hinv
    rw [f_Mo_work_L52]
    by_cases hi : T < i
    · rw [if_pos ((nI_ltI (by omega) (by omega)).mpr hi)]
      refine ⟨_, b, t, vals, rfl, hinv.weak (fun w j e hw hq => ?_)⟩
      have := hw.2.2
      unfold prc
      omega
    · rw [if_neg (fun h => hi ((nI_ltI (by omega) (by omega)).mp h)), nI0]
      obtain ⟨x, b', t', vals', e1, i1⟩ := m_w63 (kk := f_Mo_work_K63_138 (nI i) (f_Mo_work_L52 mo_begin mo_other mo_kinds mo_nodeOf mo_steps mo_emissions (nI T) mo_text (nI v) kk n)) hW hM hX hT hv (show i ≤ T by omega) 1000 0 b t vals (by omega) (by omega) hinv
      rw [e1]
      unfold f_Mo_work_K63_138
      rw [nI1, nI_add]
      exact ih (i + 1) b' t' vals' (by omega) (by omega) i1
theorem m_w46 (hW : WF S kd tg st em rk) (hM : MR S kd nd tg st em mo_begin mo_other mo_kinds mo_nodeOf mo_steps mo_emissions) (hX : ∀ j, j < T → mo_text j = nI (tx j) ∧ tx j < 4) (hT : T ≤ 24) {p : Nat} {t0 : Nat → Nat → Nat → Option Int} {kk : Int32 → Int32 → (Nat → Int32) → Option (Int32 × (Nat → Int32))} :
    ∀ (n v b : Nat) (t : Nat → Nat → Nat → Option Int) (vals : Nat → Int32), v ≤ S → v < n → Inv S T kd tg st em tx rk p t0 (fun w _ _ => v ≤ w) b t vals →
      ∃ x b' t' vals', f_Mo_work_L46 mo_begin mo_other mo_kinds mo_nodeOf mo_steps mo_emissions (nI T) mo_text kk n (nI b) (nI v + (-1 : Int32)) vals = kk (nI b') x vals' ∧ Inv S T kd tg st em tx rk p t0 (fun _ _ _ => True) b' t' vals' := by
  have hS := hW.1.2.1
  intro n
  induction n with
  | zero => intro v b t vals h1 h2; omega
  | succ n ih =>
    intro v b t vals h1 h2 hinv
    rw [f_Mo_work_L46]
    cases v with
    | zero =>
      rw [if_pos (by decide)]
      exact ⟨_, b, t, vals, rfl, hinv.weak (fun w j e hw hq => Nat.zero_le w)⟩
    | succ v =>
      rw [sub1, if_neg (nI_pos (by omega)), nI0]
      obtain ⟨x, b', t', vals', e1, i1⟩ := m_w52 (kk := f_Mo_work_K52_144 (nI v) (f_Mo_work_L46 mo_begin mo_other mo_kinds mo_nodeOf mo_steps mo_emissions (nI T) mo_text kk n)) hW hM hX hT (show v < S by omega) 1000 0 b t vals (by omega) (by omega) (hinv.weak (fun w j e hw hq => by unfold prc at hq; omega))
      rw [e1]
      unfold f_Mo_work_K52_144
      exact ih v b' t' vals' (by omega) (by omega) i1
theorem fix_V (hW : WF S kd tg st em rk) {t0 : Nat → Nat → Nat → Option Int} (h : ∀ w j e, vld S T w j e → bt kd tg st em tx t0 w j e = t0 w j e) : ∀ (n v i d : Nat), vld S T v i d → rank S v d < n → t0 v i d = V S kd tg st em tx v i d := by
  intro n
  induction n with
  | zero => intro v i d _ h; omega
  | succ n ih =>
    intro v i d hv hn
    rw [← h v i d hv, V_eq hW hv.1]
    refine bt_congr (fun w j e hne => ?_)
    have hl := needs_lt hW hv.1 hne
    exact ih w j e (needs_vld hW hv hne) (by omega)
theorem m_w33 (hW : WF S kd tg st em rk) (hM : MR S kd nd tg st em mo_begin mo_other mo_kinds mo_nodeOf mo_steps mo_emissions) (hX : ∀ j, j < T → mo_text j = nI (tx j) ∧ tx j < 4) (hT : T ≤ 24) {kk : Int32 → (Nat → Int32) → Option (Int32 × (Nat → Int32))} :
    ∀ (n p : Nat) (t : Nat → Nat → Nat → Option Int) (vals : Nat → Int32), p ≤ 13 → 15 < p + n → Inv S T kd tg st em tx rk p t (fun w _ _ => S ≤ w) 0 t vals →
      ∃ vals', f_Mo_work_L33 mo_begin mo_other (nI S) mo_kinds mo_nodeOf mo_steps mo_emissions (nI T) mo_text kk n (1 : Int32) vals = kk (nI 0) vals' ∧ ∀ w j e, vld S T w j e → vals' (cl w j e) = enc (V S kd tg st em tx w j e) := by
  have hS := hW.1.2.1
  intro n
  induction n with
  | zero =>
    intro p t vals h0 h hinv
    omega
  | succ n ih =>
    intro p t vals h0 h hinv
    rw [f_Mo_work_L33, if_neg (by decide), Int32.sub_eq_add_neg]
    obtain ⟨x, b', t', vals', e1, i1⟩ := m_w46 (kk := f_Mo_work_K46_150 (f_Mo_work_L33 mo_begin mo_other (nI S) mo_kinds mo_nodeOf mo_steps mo_emissions (nI T) mo_text kk n)) hW hM hX hT 1000 S 0 t vals (Nat.le_refl _) (by omega) hinv
    rw [nI0] at *
    rw [e1]
    unfold f_Mo_work_K46_150
    have hb1 := i1.2.2.2.2.2.2
    by_cases hb : b' = 0
    · subst hb
      have hfix : ∀ w j e, vld S T w j e → bt kd tg st em tx t w j e = t w j e := fun w j e hw => (i1.2.2.2.2.1 rfl w j e hw).2 trivial
      cases n with
      | zero => omega
      | succ n =>
        rw [f_Mo_work_L33, if_pos (show nI 0 = (0 : Int32) from rfl)]
        refine ⟨vals', rfl, fun w j e hw => ?_⟩
        rw [i1.1 w j e hw, (i1.2.2.2.2.1 rfl w j e hw).1, fix_V hW hfix _ w j e hw (Nat.lt_succ_self _)]
    · have hp : p < 13 := by
        rcases Nat.lt_or_ge p 13 with q | q
        · exact q
        · exact absurd (i1.2.2.2.2.2.1 q) hb
      have : b' = 1 := by omega
      subst this
      refine ih (p + 1) t' vals' (by omega) (by omega) ⟨i1.1, i1.2.1, i1.2.2.1, fun w j e hw hq => i1.2.2.2.1 w j e hw (Or.inr ⟨?_, trivial⟩), fun _ w j e hw => ⟨rfl, fun hq => ?_⟩, fun _ => rfl, by omega⟩
      · rcases hq with hq | ⟨-, hq⟩
        · omega
        · have := hw.1; omega
      · have := hw.1; omega
theorem m_w10 {kk : Int32 → (Nat → Int32) → Option (Int32 × (Nat → Int32))} : ∀ (n x : Nat) (vals : Nat → Int32), x ≤ 15600 → 15600 < x + n → (∀ q, q < x → vals q = (-1000000 : Int32)) →
    ∃ vals', f_Mo_work_L10 kk n (nI x) vals = kk (nI 15600) vals' ∧ ∀ q, q < 15600 → vals' q = (-1000000 : Int32) := by
  intro n
  induction n with
  | zero => intro x vals h1 h2; omega
  | succ n ih =>
    intro x vals h1 h2 h3
    rw [f_Mo_work_L10, nI15600]
    by_cases hx : 15600 ≤ x
    · have e : x = 15600 := by omega
      rw [if_pos ((nI_leI (by omega) (by omega)).mpr hx), e]
      exact ⟨vals, rfl, fun q hq => h3 q (by omega)⟩
    · rw [if_neg (fun h => hx ((nI_leI (by omega) (by omega)).mp h)), gd_in (by omega) (by omega), nI_clamp (by omega), nI1, nI_add]
      refine ih (x + 1) _ (by omega) (by omega) (fun q hq => ?_)
      by_cases e : q = x
      · rw [e, pk_us]
      · rw [pk_un e]; exact h3 q (by omega)
theorem m_work (hW : WF S kd tg st em rk) (hM : MR S kd nd tg st em mo_begin mo_other mo_kinds mo_nodeOf mo_steps mo_emissions) (hX : ∀ j, j < T → mo_text j = nI (tx j) ∧ tx j < 4) (hT : T ≤ 24) {b : Nat} (hb : b ≤ 1) (hok : b = 1 → ∀ w j e, vld S T w j e → vals (cl w j e) = enc (V S kd tg st em tx w j e)) :
    ∃ vals', f_Mo_work mo_begin mo_other (nI S) mo_kinds mo_nodeOf mo_steps mo_emissions (nI T) mo_text (nI b) vals = some (nI 1, vals') ∧ ∀ w j e, vld S T w j e → vals' (cl w j e) = enc (V S kd tg st em tx w j e) := by
  have hS := hW.1.2.1
  unfold f_Mo_work
  by_cases h0 : b = 0
  · rw [if_pos (by rw [h0]; rfl), nI0]
    obtain ⟨v1, e1, h1⟩ := m_w10 (kk := f_Mo_work_K10_31 mo_begin mo_other (nI S) mo_kinds mo_nodeOf mo_steps mo_emissions (nI T) mo_text) 16000 0 vals (by omega) (by omega) (fun q hq => by omega)
    rw [e1]
    unfold f_Mo_work_K10_31
    obtain ⟨v2, e2, h2⟩ := m_w33 (kk := f_Mo_work_K33_153) hW hM hX hT 1000 0 (fun _ _ _ => none) v1 (by omega) (by omega) ⟨fun w j e hw => h1 _ (by have := hw.1; have := hw.2; exact cl_lt (by omega) (by omega) (by omega)), fun w j e hw => Bd_none _, fun w j e hw => trivial, fun w j e hw hq => by have := hw.1; omega, fun _ w j e hw => ⟨rfl, fun hq => by have := hw.1; omega⟩, fun _ => rfl, by omega⟩
    rw [e2]
    exact ⟨v2, rfl, h2⟩
  · rw [if_neg (by rw [nI0]; exact nI_ne (by omega) (by omega) h0)]
    exact ⟨vals, by rw [show b = 1 by omega], hok (by omega)⟩
end WK
