/-! 54.mod: the reference's values: one turn (better) -/
def MR (S : Nat) (kd nd : Nat → Nat) (tg : Nat → List Nat) (st : Nat → Nat → Int) (em : Nat → Nat → Nat → Int) (mo_begin mo_other mo_kinds mo_nodeOf mo_steps mo_emissions : Nat → Int32) : Prop :=
  ∀ v, v < S → mo_kinds v = nI (kd v) ∧ mo_nodeOf v = nI (nd v) ∧ (∀ k : Nat, k < 2 ^ 31 → f_Mo_targetOf mo_begin mo_other mo_kinds mo_nodeOf (nI v) (nI k) = some (if k < (tg v).length then nI ((tg v).getD k 0) else (-1))) ∧ (∀ x : Int32, x < 0 → f_Mo_targetOf mo_begin mo_other mo_kinds mo_nodeOf (nI v) x = some (-1)) ∧ (∀ k, k < (tg v).length → mo_steps (8 * v + k) = i32 (st v k)) ∧ (∀ a b, a < 4 → b < 4 → 0 < lo (kd v) → (kd v = 1 ∨ b = 0) → mo_emissions (16 * v + 4 * a + b) = i32 (em v a b))
def cl (v i d : Nat) : Nat := 325 * v + 13 * i + d
theorem cl_lt {v i d : Nat} (hv : v < 48) (hi : i ≤ 24) (hd : d ≤ 12) : cl v i d < 15600 := by unfold cl; omega
theorem cl_inj {v i d v' i' d' : Nat} (hi : i ≤ 24) (hi' : i' ≤ 24) (hd : d ≤ 12) (hd' : d' ≤ 12) (h : cl v i d = cl v' i' d') : v = v' ∧ i = i' ∧ d = d' := by
  unfold cl at h
  have hv : v = v' := by omega
  subst hv
  have : i = i' := by omega
  exact ⟨rfl, this, by omega⟩
theorem m_cell (v i d : Nat) : f_Mo_cell (nI v) (nI i) (nI d) = some (nI (cl v i d)) := by
  unfold f_Mo_cell cl
  rw [nI325, nI13, pk_mul, pk_mul, nI_add, nI_add]
theorem m_eL : ∀ k, k < 9 → f_Mo_emitsLeft (nI k) = some (nI (lb k)) := by decide
theorem m_eR : ∀ k, k < 9 → f_Mo_emitsRight (nI k) = some (nI (lh k)) := by decide
theorem imax_if {α : Type} (x r : Int32) (F : Int32 → α) : (if r ≤ x then F x else F r) = F (imax x r) := by
  unfold imax
  by_cases h : r ≤ x
  · rw [if_pos h, if_neg (Int32.not_lt.mpr h)]
  · rw [if_neg h, if_pos (Int32.not_le.mp h)]
section MV
variable {S : Nat} {kd nd : Nat → Nat} {tg : Nat → List Nat} {st : Nat → Nat → Int} {em : Nat → Nat → Nat → Int} {rk : Nat → Nat} {tx : Nat → Nat} {T : Nat}
variable {mo_begin mo_other mo_kinds mo_nodeOf mo_steps mo_emissions mo_text vals : Nat → Int32}
theorem m_kind (hW : WF S kd tg st em rk) (hM : MR S kd nd tg st em mo_begin mo_other mo_kinds mo_nodeOf mo_steps mo_emissions) {v : Nat} (hv : v < S) : mo_kinds (Int32.toNatClampNeg (nI v)) = nI (kd v) := by
  have hS := hW.1.2.1
  rw [nI_clamp (by omega), (hM v hv).1]
theorem lb0 (k : Nat) : (nI (lb k) = (0 : Int32)) ↔ lb k = 0 := by
  have := lb_le k
  rw [nI0, nI_eq (by omega) (by omega)]
theorem lh0 (k : Nat) : (nI (lh k) = (0 : Int32)) ↔ lh k = 0 := by
  have := lh_le k
  rw [nI0, nI_eq (by omega) (by omega)]
theorem m_letterScore (hW : WF S kd tg st em rk) (hM : MR S kd nd tg st em mo_begin mo_other mo_kinds mo_nodeOf mo_steps mo_emissions) (hX : ∀ j, j < T → mo_text j = nI (tx j) ∧ tx j < 4) (hT : T ≤ 24) {v i d : Nat} (hv : v < S) (hid : i + d ≤ T) (hl : lo (kd v) ≤ d) : f_Mo_letterScore mo_kinds mo_emissions mo_text (nI v) (nI i) (nI d) = some (i32 (el kd em tx v i d)) := by
  have hS := hW.1.2.1
  have hk8 := (hW.2.1 v hv).1
  have hend : 0 < d → (nI i + nI d) - (1 : Int32) = nI (i + d - 1) := fun h => by rw [nI_add, nI1, pk_sub (by omega)]
  have hem : ∀ a b, a < 4 → b < 4 → 0 < lo (kd v) → (kd v = 1 ∨ b = 0) → gd (xin (((16 : Int32) * nI v + (4 : Int32) * nI a) + nI b) 768) (some (mo_emissions (Int32.toNatClampNeg (((16 : Int32) * nI v + (4 : Int32) * nI a) + nI b)))) = some (i32 (em v a b)) := by
    intro a b ha hb hl hk
    rw [nI16, nI4, pk_mul, pk_mul, nI_add, nI_add, gd_in (by omega) (by omega), nI_clamp (by omega), (hM v hv).2.2.2.2.2 a b ha hb hl hk]
  unfold f_Mo_letterScore
  rw [gd_in (by omega) (by omega), m_kind hW hM hv, m_eL _ (by omega), ob1_some]
  have hcases : kd v = 0 ∨ kd v = 1 ∨ kd v = 2 ∨ kd v = 3 ∨ kd v = 4 ∨ kd v = 5 ∨ kd v = 6 ∨ kd v = 7 ∨ kd v = 8 := by omega
  have hno : lb (kd v) = 0 → lh (kd v) = 0 → el kd em tx v i d = 0 := by
    intro h1 h2
    unfold lb at h1
    unfold lh at h2
    unfold el
    rcases hcases with h | h | h | h | h | h | h | h | h <;> simp [h] at h1 h2 ⊢
  by_cases hlb : lb (kd v) = 0
  · rw [if_pos ((lb0 _).mpr hlb), m_eR _ (by omega), ob1_some]
    by_cases hlh : lh (kd v) = 0
    · rw [if_pos ((lh0 _).mpr hlh)]
      unfold f_Mo_letterScore_J47
      rw [m_kind hW hM hv, m_eL _ (by omega), ob1_some, if_pos ((lb0 _).mpr hlb), m_eR _ (by omega), ob1_some, if_pos ((lh0 _).mpr hlh), hno hlb hlh]
      rfl
    · have hd1 : 1 ≤ d := by unfold lo at hl; omega
      have hk : kd v = 3 ∨ kd v = 6 := by
        unfold lb at hlb
        unfold lh at hlh
        rcases hcases with h | h | h | h | h | h | h | h | h <;> simp [h] at hlb hlh ⊢
      have e : el kd em tx v i d = em v (tx (i + d - 1)) 0 := by unfold el; rcases hk with h | h <;> simp [h]
      rw [if_neg (fun h => hlh ((lh0 _).mp h)), hend (by omega), gd_in (by omega) (by omega), nI_clamp (by omega), (hX (i + d - 1) (by omega)).1]
      unfold f_Mo_letterScore_J47
      rw [m_kind hW hM hv, m_eL _ (by omega), ob1_some, if_pos ((lb0 _).mpr hlb), m_eR _ (by omega), ob1_some, if_neg (fun h => hlh ((lh0 _).mp h))]
      unfold f_Mo_letterScore_J65
      rw [m_kind hW hM hv, if_neg (by rw [nI1]; exact nI_ne (by omega) (by omega) (by omega)), e]
      exact hem _ 0 (hX _ (by omega)).2 (by omega) (by unfold lo; have := lh_le (kd v); omega) (Or.inr rfl)
  · have hd1 : 1 ≤ d := by unfold lo at hl; omega
    rw [if_neg (fun h => hlb ((lb0 _).mp h)), gd_in (by omega) (by omega), nI_clamp (show i < 2 ^ 31 by omega), (hX i (by omega)).1]
    unfold f_Mo_letterScore_J47
    rw [m_kind hW hM hv, m_eL _ (by omega), ob1_some, if_neg (fun h => hlb ((lb0 _).mp h))]
    unfold f_Mo_letterScore_J65
    rw [m_kind hW hM hv]
    by_cases h1 : kd v = 1
    · have e : el kd em tx v i d = em v (tx i) (tx (i + d - 1)) := by unfold el; simp [h1]
      rw [if_pos (by rw [h1]; rfl), hend (by omega), gd_in (by omega) (by omega), nI_clamp (show i + d - 1 < 2 ^ 31 by omega), (hX (i + d - 1) (by omega)).1, e]
      exact hem _ _ (hX _ (by omega)).2 (hX _ (by omega)).2 (by unfold lo; omega) (Or.inl h1)
    · have hk : kd v = 2 ∨ kd v = 5 := by
        unfold lb at hlb
        rcases hcases with h | h | h | h | h | h | h | h | h <;> simp [h] at hlb h1 ⊢
      have e : el kd em tx v i d = em v (tx i) 0 := by unfold el; rcases hk with h | h <;> simp [h]
      rw [if_neg (by rw [nI1]; exact nI_ne (by omega) (by omega) h1), e]
      exact hem _ 0 (hX _ (by omega)).2 (by omega) (by unfold lo; omega) (Or.inr rfl)
theorem m_by (hW : WF S kd tg st em rk) (hM : MR S kd nd tg st em mo_begin mo_other mo_kinds mo_nodeOf mo_steps mo_emissions) (hX : ∀ j, j < T → mo_text j = nI (tx j) ∧ tx j < 4) (hT : T ≤ 24) {v k i d : Nat} {t : Nat → Nat → Nat → Option Int} (hv : v < S) (hk : k < 2 ^ 31) (hd2 : d ≤ 12) (hi : i + d ≤ T) (h7 : kd v ≠ 7) (h8 : kd v ≠ 8)
    (ht : ∀ w j e, needs kd tg v i d w j e → vals (cl w j e) = enc (t w j e) ∧ Bd 3840 (t w j e)) :
    f_Mo_by mo_begin mo_other mo_kinds mo_nodeOf mo_steps mo_emissions mo_text vals (nI v) (nI k) (nI i) (nI d) = some (enc (if k < (tg v).length ∧ lo (kd v) ≤ d then plusO (t ((tg v).getD k 0) (i + lb (kd v)) (d - lo (kd v))) (st v k + el kd em tx v i d) else none)) := by
  have hS := hW.1.2.1
  have hk8 := (hW.2.1 v hv).1
  have hl := (hW.2.1 v hv).2.2.2.1
  have hlb := lb_le (kd v)
  have hlh := lh_le (kd v)
  have key : f_Mo_by_J36 mo_begin mo_other mo_kinds mo_nodeOf mo_steps mo_emissions mo_text vals (nI v) (nI k) (nI i) (nI d) (nI (lb (kd v))) (nI (lh (kd v))) = some (enc (if k < (tg v).length ∧ lo (kd v) ≤ d then plusO (t ((tg v).getD k 0) (i + lb (kd v)) (d - lo (kd v))) (st v k + el kd em tx v i d) else none)) := by
    unfold f_Mo_by_J36
    rw [(hM v hv).2.2.1 k hk, ob1_some]
    by_cases hkl : k < (tg v).length
    · have hw := hW.tgt_lt hv hkl
      rw [if_pos hkl, if_neg (nI_pos (by omega)), nI_add]
      by_cases hd : lo (kd v) ≤ d
      · have hn := ht _ _ _ (Or.inr ⟨h7, h8, hd, k, hkl, rfl, rfl, rfl⟩)
        have hdd : lb (kd v) + lh (kd v) ≤ d := hd
        rw [if_pos ((nI_leI (by omega) (by omega)).mpr hdd), if_pos ⟨hkl, hd⟩, nI_add, pk_sub (by omega), pk_sub (by omega), show d - lb (kd v) - lh (kd v) = d - lo (kd v) by unfold lo; omega, m_cell, ob1_some, gd_in (cl_lt (by omega) (by omega) (by omega)) (by omega), nI_clamp (by have := cl_lt (v := (tg v).getD k 0) (i := i + lb (kd v)) (d := d - lo (kd v)) (by omega) (by omega) (by omega); omega), hn.1]
        generalize t ((tg v).getD k 0) (i + lb (kd v)) (d - lo (kd v)) = o at hn ⊢
        cases o with
        | none => rw [if_pos (show enc none = (-1000000 : Int32) from rfl)]; rfl
        | some z =>
          rw [if_neg (by intro h; have := (enc_eq_none (by omega) hn.2).mp h; cases this), m_letterScore hW hM hX hT hv hi hd, ob1_some, nI8, pk_mul, nI_add, gd_in (by omega) (by omega), nI_clamp (by omega), (hM v hv).2.2.2.2.1 k hkl]
          show some (i32 _ + i32 _ + i32 z) = some (i32 (z + (st v k + el kd em tx v i d)))
          rw [i32_add, i32_add]
          congr 2
          omega
      · have hd' : ¬ (lb (kd v) + lh (kd v) ≤ d) := hd
        rw [if_neg (fun h => hd' ((nI_leI (by omega) (by omega)).mp h)), if_neg (fun h => hd h.2)]
        rfl
    · rw [if_neg hkl, if_pos (by decide), if_neg (fun h => hkl h.1)]
      rfl
  have key2 : f_Mo_by_J21 mo_begin mo_other mo_kinds mo_nodeOf mo_steps mo_emissions mo_text vals (nI v) (nI k) (nI i) (nI d) (nI (lb (kd v))) = some (enc (if k < (tg v).length ∧ lo (kd v) ≤ d then plusO (t ((tg v).getD k 0) (i + lb (kd v)) (d - lo (kd v))) (st v k + el kd em tx v i d) else none)) := by
    unfold f_Mo_by_J21
    rw [m_kind hW hM hv, m_eR _ (by omega), ob1_some]
    by_cases h : lh (kd v) = 0
    · rw [if_pos ((lh0 _).mpr h), ← key, h]; rfl
    · rw [if_neg (fun q => h ((lh0 _).mp q)), ← key, show lh (kd v) = 1 by omega]; rfl
  unfold f_Mo_by
  rw [gd_in (by omega) (by omega), m_kind hW hM hv, m_eL _ (by omega), ob1_some]
  by_cases h : lb (kd v) = 0
  · rw [if_pos ((lb0 _).mpr h), ← key2, h]; rfl
  · rw [if_neg (fun q => h ((lb0 _).mp q)), ← key2, show lb (kd v) = 1 by omega]; rfl
theorem m_bySplit (hW : WF S kd tg st em rk) (hM : MR S kd nd tg st em mo_begin mo_other mo_kinds mo_nodeOf mo_steps mo_emissions) {v k i d : Nat} {t : Nat → Nat → Nat → Option Int} (hv : v < S) (h7 : kd v = 7) (hd2 : d ≤ 12) (hi : i + d ≤ 24) (hk : k ≤ d)
    (ht : ∀ w j e, needs kd tg v i d w j e → vals (cl w j e) = enc (t w j e) ∧ Bd 3840 (t w j e)) :
    f_Mo_bySplit mo_begin mo_other mo_kinds mo_nodeOf vals (nI v) (nI k) (nI i) (nI d) = some (enc (addO (t ((tg v).getD 0 0) i k) (t ((tg v).getD 1 0) (i + k) (d - k)))) := by
  have hS := hW.1.2.1
  obtain ⟨a, b, htg, ha, hb, haS, hbS, -⟩ := (hW.2.1 v hv).2.2.2.2.2.1 h7
  have h1 := ht _ _ _ (Or.inl ⟨h7, k, hk, Or.inl ⟨rfl, rfl, rfl⟩⟩)
  have h2 := ht _ _ _ (Or.inl ⟨h7, k, hk, Or.inr ⟨rfl, rfl, rfl⟩⟩)
  have hl : (tg v).length = 2 := by rw [htg]; rfl
  have l0 := hW.tgt_lt hv (k := 0) (by omega)
  have l1 := hW.tgt_lt hv (k := 1) (by omega)
  unfold f_Mo_bySplit
  rw [nI0, nI1, (hM v hv).2.2.1 0 (by omega), if_pos (by omega), ob1_some, m_cell, ob1_some, gd_in (cl_lt (by omega) (by omega) (by omega)) (by omega), (hM v hv).2.2.1 1 (by omega), if_pos (by omega), ob1_some, nI_add, pk_sub hk, m_cell, ob1_some, gd_in (cl_lt (by omega) (by omega) (by omega)) (by omega),
    nI_clamp (by have := cl_lt (v := (tg v).getD 0 0) (i := i) (d := k) (by omega) (by omega) (by omega); omega), nI_clamp (by have := cl_lt (v := (tg v).getD 1 0) (i := i + k) (d := d - k) (by omega) (by omega) (by omega); omega), h1.1, h2.1]
  exact add_enc h1.2 h2.2 some
theorem m_bL (hW : WF S kd tg st em rk) (hM : MR S kd nd tg st em mo_begin mo_other mo_kinds mo_nodeOf mo_steps mo_emissions) (hX : ∀ j, j < T → mo_text j = nI (tx j) ∧ tx j < 4) (hT : T ≤ 24) {v i d : Nat} {t : Nat → Nat → Nat → Option Int} {kk : Int32 → Int32 → Option Int32} (hv : v < S) (hd2 : d ≤ 12) (hi : i + d ≤ T) (h7 : kd v ≠ 7) (h8 : kd v ≠ 8)
    (ht : ∀ w j e, needs kd tg v i d w j e → vals (cl w j e) = enc (t w j e) ∧ Bd 3840 (t w j e)) :
    ∀ (n x : Nat), x ≤ 8 → 8 < x + n → f_Mo_better_L29 mo_begin mo_other mo_kinds mo_nodeOf mo_steps mo_emissions mo_text vals (nI v) (nI i) (nI d) kk n (enc (mxf (fun k => if k < (tg v).length ∧ lo (kd v) ≤ d then plusO (t ((tg v).getD k 0) (i + lb (kd v)) (d - lo (kd v))) (st v k + el kd em tx v i d) else none) x)) (nI x) = kk (enc (mxf (fun k => if k < (tg v).length ∧ lo (kd v) ≤ d then plusO (t ((tg v).getD k 0) (i + lb (kd v)) (d - lo (kd v))) (st v k + el kd em tx v i d) else none) 8)) (nI 8) := by
  have hS := hW.1.2.1
  have hk8 := (hW.2.1 v hv).1
  have hb : ∀ k, Bd 4000 (if k < (tg v).length ∧ lo (kd v) ≤ d then plusO (t ((tg v).getD k 0) (i + lb (kd v)) (d - lo (kd v))) (st v k + el kd em tx v i d) else none) := by
    intro k
    split
    · rename_i h
      have h1 := hW.2.2.1 v k
      have h2 := el_bd (tx := tx) hW v i d
      exact Bd_mono (Bd_plus (k := 128) (ht _ _ _ (Or.inr ⟨h7, h8, h.2, k, h.1, rfl, rfl, rfl⟩)).2 (by omega) (by omega)) (by omega)
    · exact Bd_none _
  intro n
  induction n with
  | zero => intro x h1 h2; omega
  | succ n ih =>
    intro x h1 h2
    rw [f_Mo_better_L29, nI8]
    by_cases hx : 8 ≤ x
    · have : x = 8 := by omega
      rw [if_pos ((nI_leI (by omega) (by omega)).mpr hx), this]
    · rw [if_neg (fun h => hx ((nI_leI (by omega) (by omega)).mp h)), gd_in (by omega) (by omega), m_kind hW hM hv, if_neg (by rw [nI7]; exact nI_ne (by omega) (by omega) h7), m_by hW hM hX hT hv (by omega) hd2 hi h7 h8 ht, ob1_some]
      rw [imax_if (enc _) (enc _) (fun z => f_Mo_better_L29 mo_begin mo_other mo_kinds mo_nodeOf mo_steps mo_emissions mo_text vals (nI v) (nI i) (nI d) kk n z (nI x + (1 : Int32)))]
      rw [imax_enc (b := 4000) (by omega) (mxf_bd (fun k hk => hb k)) (hb x), nI1, nI_add]
      exact ih (x + 1) (by omega) (by omega)
theorem m_sL (hW : WF S kd tg st em rk) (hM : MR S kd nd tg st em mo_begin mo_other mo_kinds mo_nodeOf mo_steps mo_emissions) {v i d : Nat} {t : Nat → Nat → Nat → Option Int} {kk : Int32 → Int32 → Option Int32} (hv : v < S) (h7 : kd v = 7) (hd2 : d ≤ 12) (hi : i + d ≤ 24)
    (ht : ∀ w j e, needs kd tg v i d w j e → vals (cl w j e) = enc (t w j e) ∧ Bd 3840 (t w j e)) :
    ∀ (n x : Nat), x ≤ d + 1 → d + 1 < x + n → f_Mo_better_L83 mo_begin mo_other mo_kinds mo_nodeOf vals (nI v) (nI i) (nI d) kk n (enc (mxf (fun k => addO (t ((tg v).getD 0 0) i k) (t ((tg v).getD 1 0) (i + k) (d - k))) x)) (nI x) = kk (enc (mxf (fun k => addO (t ((tg v).getD 0 0) i k) (t ((tg v).getD 1 0) (i + k) (d - k))) (d + 1))) (nI (d + 1)) := by
  have hS := hW.1.2.1
  intro n
  induction n with
  | zero => intro x h1 h2; omega
  | succ n ih =>
    intro x h1 h2
    rw [f_Mo_better_L83]
    by_cases hx : d < x
    · have : x = d + 1 := by omega
      rw [if_pos ((nI_ltI (by omega) (by omega)).mpr hx), this]
    · rw [if_neg (fun h => hx ((nI_ltI (by omega) (by omega)).mp h)), gd_in (by omega) (by omega), m_kind hW hM hv, if_pos (by rw [h7]; rfl), m_bySplit hW hM hv h7 hd2 hi (by omega) ht, ob1_some]
      have hb : ∀ k, k < d + 1 → Bd 7680 (addO (t ((tg v).getD 0 0) i k) (t ((tg v).getD 1 0) (i + k) (d - k))) := fun k hk => Bd_mono (Bd_add (ht _ _ _ (Or.inl ⟨h7, k, by omega, Or.inl ⟨rfl, rfl, rfl⟩⟩)).2 (ht _ _ _ (Or.inl ⟨h7, k, by omega, Or.inr ⟨rfl, rfl, rfl⟩⟩)).2) (by omega)
      rw [imax_if (enc _) (enc _) (fun z => f_Mo_better_L83 mo_begin mo_other mo_kinds mo_nodeOf vals (nI v) (nI i) (nI d) kk n z (nI x + (1 : Int32)))]
      rw [imax_enc (b := 7680) (by omega) (mxf_bd (fun k hk => hb k (by omega))) (hb x (by omega)), nI1, nI_add]
      exact ih (x + 1) (by omega) (by omega)
theorem m_better (hW : WF S kd tg st em rk) (hM : MR S kd nd tg st em mo_begin mo_other mo_kinds mo_nodeOf mo_steps mo_emissions) (hX : ∀ j, j < T → mo_text j = nI (tx j) ∧ tx j < 4) (hT : T ≤ 24) {v i d : Nat} {t : Nat → Nat → Nat → Option Int} (hv : v < S) (hd2 : d ≤ 12) (hi : i + d ≤ T)
    (ht : ∀ w j e, needs kd tg v i d w j e → vals (cl w j e) = enc (t w j e) ∧ Bd 3840 (t w j e)) :
    f_Mo_better mo_begin mo_other mo_kinds mo_nodeOf mo_steps mo_emissions mo_text vals (nI v) (nI i) (nI d) = some (enc (bt kd tg st em tx t v i d)) := by
  have hS := hW.1.2.1
  have hk8 := (hW.2.1 v hv).1
  have hl := (hW.2.1 v hv).2.2.2.1
  unfold f_Mo_better
  rw [gd_in (by omega) (by omega), m_kind hW hM hv]
  by_cases h8 : kd v = 8
  · rw [if_pos (by rw [h8]; rfl)]
    unfold bt
    rw [if_pos h8]
    by_cases h0 : d = 0
    · rw [if_pos (by rw [h0]; rfl), if_pos h0]; rfl
    · rw [if_neg (by rw [nI0]; exact nI_ne (by omega) (by omega) h0), if_neg h0]; rfl
  · rw [if_neg (by rw [nI8]; exact nI_ne (by omega) (by omega) h8)]
    by_cases h7 : kd v = 7
    · rw [f_Mo_better_L29, if_neg (by decide), gd_in (by omega) (by omega), m_kind hW hM hv, if_pos (by rw [h7]; rfl)]
      unfold f_Mo_better_K29_80
      have hh := m_sL (kk := f_Mo_better_K83_133) (vals := vals) hW hM hv h7 hd2 (by omega) ht 1000 0 (by omega) (by omega)
      rw [show (-1000000 : Int32) = enc (mxf (fun k => addO (t ((tg v).getD 0 0) i k) (t ((tg v).getD 1 0) (i + k) (d - k))) 0) from rfl, nI0, hh]
      unfold f_Mo_better_K83_133 bt
      rw [if_neg h8, if_pos h7]
    · have hh := m_bL (kk := f_Mo_better_K29_80 mo_begin mo_other mo_kinds mo_nodeOf vals (nI v) (nI i) (nI d)) (vals := vals) hW hM hX hT hv hd2 hi h7 h8 ht 1000 0 (by omega) (by omega)
      rw [show (-1000000 : Int32) = enc (mxf (fun k => if k < (tg v).length ∧ lo (kd v) ≤ d then plusO (t ((tg v).getD k 0) (i + lb (kd v)) (d - lo (kd v))) (st v k + el kd em tx v i d) else none) 0) from rfl, nI0, hh]
      unfold f_Mo_better_K29_80
      rw [f_Mo_better_L83, nI0, if_neg (fun h => by have := (nI_ltI (by omega) (by omega)).mp h; omega), gd_in (by omega) (by omega), m_kind hW hM hv, if_neg (by rw [nI7]; exact nI_ne (by omega) (by omega) h7)]
      unfold f_Mo_better_K83_133 bt
      rw [if_neg h8, if_neg h7]
      by_cases hd : d < lo (kd v)
      · rw [if_pos hd, mxf_none (fun k _ => if_neg (fun h => by omega))]
      · rw [if_neg hd, mxf_ext (n := (tg v).length) (by omega) (fun k h1 h2 => if_neg (fun h => by omega)), mxf_congr (fun k hk => if_pos ⟨hk, by omega⟩)]
end MV
