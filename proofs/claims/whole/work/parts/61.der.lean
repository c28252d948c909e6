/-! 61.der: the reference's derivation, by its stack -/
section DM
variable {S : Nat} {kd nd : Nat → Nat} {tg : Nat → List Nat} {st : Nat → Nat → Int} {em : Nat → Nat → Nat → Int} {rk : Nat → Nat} {tx : Nat → Nat} {T : Nat}
variable {mo_begin mo_other mo_kinds mo_nodeOf mo_steps mo_emissions mo_text vals : Nat → Int32}
def Dt (S : Nat) (kd : Nat → Nat) (tg : Nat → List Nat) (st : Nat → Nat → Int) (em : Nat → Nat → Nat → Int) (tx : Nat → Nat) : List Ent → List Ent
  | [] => []
  | f :: r => der S kd tg st em tx 40 f.1 f.2.1 f.2.2 ++ Dt S kd tg st em tx r
def SR : List Ent → (Nat → Int32) → Prop
  | [], _ => True
  | f :: r, s => s (3 * r.length) = nI f.1 ∧ s (3 * r.length + 1) = nI f.2.1 ∧ s (3 * r.length + 2) = nI f.2.2 ∧ SR r s
theorem SR_upd {r : List Ent} {s : Nat → Int32} {k : Nat} {x : Int32} (h : SR r s) (hk : 3 * r.length ≤ k) : SR r (upd s k x) := by
  induction r with
  | nil => trivial
  | cons f r ih =>
    rw [List.length_cons] at hk
    obtain ⟨h1, h2, h3, h4⟩ := h
    refine ⟨?_, ?_, ?_, ih h4 (by omega)⟩
    · rw [pk_un (by omega)]; exact h1
    · rw [pk_un (by omega)]; exact h2
    · rw [pk_un (by omega)]; exact h3
theorem m_push {s : Nat → Int32} {t v i d : Nat} (ht : t < 100) : f_Mo_push s (nI (3 * t)) (nI v) (nI i) (nI d) = some (nI (3 * (t + 1)), upd (upd (upd s (3 * t) (nI v)) (3 * t + 1) (nI i)) (3 * t + 2) (nI d)) := by
  unfold f_Mo_push
  rw [nI1, nI2, nI3, nI_add, nI_add, nI_add, gd_in (by omega) (by omega), gd_in (by omega) (by omega), gd_in (by omega) (by omega), nI_clamp (by omega), nI_clamp (by omega), nI_clamp (by omega)]
  rfl
theorem SR_push {r : List Ent} {s : Nat → Int32} {v i d : Nat} (h : SR r s) : SR ((v, i, d) :: r) (upd (upd (upd s (3 * r.length) (nI v)) (3 * r.length + 1) (nI i)) (3 * r.length + 2) (nI d)) := by
  refine ⟨?_, ?_, ?_, SR_upd (SR_upd (SR_upd h (by omega)) (by omega)) (by omega)⟩
  · rw [pk_un (by omega), pk_un (by omega), pk_us]
  · rw [pk_un (by omega), pk_us]
  · rw [pk_us]
def FV (S T : Nat) (kd : Nat → Nat) (tg : Nat → List Nat) (st : Nat → Nat → Int) (em : Nat → Nat → Nat → Int) (tx : Nat → Nat) (f : Ent) : Prop := f.1 < S ∧ f.2.2 ≤ 12 ∧ f.2.1 + f.2.2 ≤ T ∧ V S kd tg st em tx f.1 f.2.1 f.2.2 ≠ none
theorem Dt_len {fs : List Ent} (h : ∀ f ∈ fs, FV S T kd tg st em tx f) : fs.length ≤ (Dt S kd tg st em tx fs).length := by
  induction fs with
  | nil => exact Nat.le_refl _
  | cons f r ih =>
    have := ih (fun g hg => h g (List.mem_cons_of_mem _ hg))
    rw [Dt, List.length_append, List.length_cons, der, List.length_cons]
    omega
theorem needs_tab (hW : WF S kd tg st em rk) (hok : ∀ w j e, vld S T w j e → vals (cl w j e) = enc (V S kd tg st em tx w j e)) {v i d : Nat} (hv : v < S) (hd : d ≤ 12) (hi : i + d ≤ T) : ∀ w j e, needs kd tg v i d w j e → vals (cl w j e) = enc (V S kd tg st em tx w j e) ∧ Bd 3840 (V S kd tg st em tx w j e) := fun w j e hne => by
  have hl := needs_lt hW hv hne
  exact ⟨hok w j e ⟨hl.1, by omega, by omega⟩, V_small hW hl.1 (by omega)⟩
theorem m_l217 (hW : WF S kd tg st em rk) (hM : MR S kd nd tg st em mo_begin mo_other mo_kinds mo_nodeOf mo_steps mo_emissions) (hX : ∀ j, j < T → mo_text j = nI (tx j) ∧ tx j < 4) (hT : T ≤ 24) (hok : ∀ w j e, vld S T w j e → vals (cl w j e) = enc (V S kd tg st em tx w j e)) {v i d : Nat} (hv : v < S) (hd2 : d ≤ 12) (hi : i + d ≤ T) (h7 : kd v ≠ 7) (h8 : kd v ≠ 8) (hz : V S kd tg st em tx v i d ≠ none) {stk : Nat → Int32} {t : Nat} (ht : t < 99)
    (s1 : stk (3 * t) = nI v) (s2 : stk (3 * t + 1) = nI i) (s3 : stk (3 * t + 2) = nI d) {kk : Int32 → Option (Int32 × (Nat → Int32) × (Nat → Int32) × (Nat → Int32) × (Nat → Int32))} :
    ∀ (n x : Nat), x ≤ bk S kd tg st em tx v i d → bk S kd tg st em tx v i d < x + n → f_Mo_write_L217 mo_begin mo_other mo_kinds mo_nodeOf mo_steps mo_emissions mo_text vals (nI (3 * (t + 1))) stk (nI (cl v i d)) kk n (nI x) = kk (nI (bk S kd tg st em tx v i d)) := by
  have hS := hW.1.2.1
  have hl6 := (hW.2.1 v hv).2.2.2.1
  obtain ⟨q0, q1, q2, q3, q4⟩ := bk_spec (tx := tx) hW hv h7 h8 hz
  have hVb := V_small (tx := tx) (i := i) hW hv hd2
  have e0 : nI (3 * (t + 1)) - (3 : Int32) = nI (3 * t) := by rw [nI3, pk_sub (by omega)]; congr 1
  have hcl := cl_lt (v := v) (i := i) (d := d) (by omega) (by omega) hd2
  intro n
  induction n with
  | zero => intro x h1 h2; omega
  | succ n ih =>
    intro x h1 h2
    rw [f_Mo_write_L217, nI7, if_neg (fun h => by have := (nI_leI (by omega) (by omega)).mp h; omega), e0, nI1, nI2, nI_add, nI_add, nI_clamp (show 3 * t < 2 ^ 31 by omega), nI_clamp (show 3 * t + 1 < 2 ^ 31 by omega), nI_clamp (show 3 * t + 2 < 2 ^ 31 by omega), s1, s2, s3,
      m_by hW hM hX hT hv (by omega) hd2 hi h7 h8 (needs_tab hW hok hv hd2 hi), ob1_some, if_pos (show x < (tg v).length ∧ lo (kd v) ≤ d from ⟨by omega, q0⟩), nI_clamp (show cl v i d < 2 ^ 31 by omega), hok v i d ⟨hv, hd2, hi⟩]
    have hb := cand_bd (tx := tx) (i := i) (k := x) hW hv (by omega) hd2
    by_cases ex : x = bk S kd tg st em tx v i d
    · have hc : cand S kd tg st em tx v i d x = V S kd tg st em tx v i d := by rw [ex]; exact q2
      unfold cand at hc
      rw [if_pos (by rw [hc]), ex]
    · have hne : ¬ enc (plusO (V S kd tg st em tx ((tg v).getD x 0) (i + lb (kd v)) (d - lo (kd v))) (st v x + el kd em tx v i d)) = enc (V S kd tg st em tx v i d) := fun h => q3 x (by omega) (enc_inj (b := 4000) (by omega) hb (Bd_mono hVb (by omega)) h)
      rw [if_neg hne, nI_add]
      exact ih (x + 1) (by omega) (by omega)
theorem m_l130 (hW : WF S kd tg st em rk) (hM : MR S kd nd tg st em mo_begin mo_other mo_kinds mo_nodeOf mo_steps mo_emissions) (hT : T ≤ 24) (hok : ∀ w j e, vld S T w j e → vals (cl w j e) = enc (V S kd tg st em tx w j e)) {v i d : Nat} (hv : v < S) (hd2 : d ≤ 12) (hi : i + d ≤ T) (h7 : kd v = 7) (hz : V S kd tg st em tx v i d ≠ none) {stk : Nat → Int32} {t : Nat} (ht : t < 99)
    (s1 : stk (3 * t) = nI v) (s2 : stk (3 * t + 1) = nI i) (s3 : stk (3 * t + 2) = nI d) {kk : Int32 → Option (Int32 × (Nat → Int32) × (Nat → Int32) × (Nat → Int32) × (Nat → Int32))} :
    ∀ (n x : Nat), x ≤ bs S kd tg st em tx v i d → bs S kd tg st em tx v i d < x + n → f_Mo_write_L130 mo_begin mo_other mo_kinds mo_nodeOf vals (nI (3 * (t + 1))) stk (nI (cl v i d)) kk n (nI x) = kk (nI (bs S kd tg st em tx v i d)) := by
  have hS := hW.1.2.1
  obtain ⟨q1, q2, q3, q4, q5⟩ := bs_spec (tx := tx) hW hv h7 hz
  have hVb := V_small (tx := tx) (i := i) hW hv hd2
  have htab := needs_tab hW hok hv hd2 hi
  have e0 : nI (3 * (t + 1)) - (3 : Int32) = nI (3 * t) := by rw [nI3, pk_sub (by omega)]; congr 1
  have hcl := cl_lt (v := v) (i := i) (d := d) (by omega) (by omega) hd2
  intro n
  induction n with
  | zero => intro x h1 h2; omega
  | succ n ih =>
    intro x h1 h2
    rw [f_Mo_write_L130, e0, nI1, nI2, nI_add, nI_add, nI_clamp (show 3 * t < 2 ^ 31 by omega), nI_clamp (show 3 * t + 1 < 2 ^ 31 by omega), nI_clamp (show 3 * t + 2 < 2 ^ 31 by omega), s1, s2, s3]
    by_cases hdx : d ≤ x
    · rw [if_pos ((nI_leI (by omega) (by omega)).mpr hdx), show x = bs S kd tg st em tx v i d by omega]
    · rw [if_neg (fun h => hdx ((nI_leI (by omega) (by omega)).mp h)), m_bySplit hW hM hv h7 hd2 (by omega) (by omega) htab, ob1_some, nI_clamp (show cl v i d < 2 ^ 31 by omega), hok v i d ⟨hv, hd2, hi⟩]
      have hb : Bd 7680 (splt S kd tg st em tx v i d x) := Bd_mono (Bd_add (htab _ _ _ (Or.inl ⟨h7, x, by omega, Or.inl ⟨rfl, rfl, rfl⟩⟩)).2 (htab _ _ _ (Or.inl ⟨h7, x, by omega, Or.inr ⟨rfl, rfl, rfl⟩⟩)).2) (by omega)
      by_cases ex : x = bs S kd tg st em tx v i d
      · have hc : splt S kd tg st em tx v i d x = V S kd tg st em tx v i d := by rw [ex]; exact q2
        unfold splt at hc
        rw [if_pos (by rw [hc]), ex]
      · have hne : ¬ enc (addO (V S kd tg st em tx ((tg v).getD 0 0) i x) (V S kd tg st em tx ((tg v).getD 1 0) (i + x) (d - x))) = enc (V S kd tg st em tx v i d) := fun h => q3 x (by omega) (enc_inj (b := 7680) (by omega) hb (Bd_mono hVb (by omega)) h)
        rw [if_neg hne, nI_add]
        exact ih (x + 1) (by omega) (by omega)
theorem m_l24 (hW : WF S kd tg st em rk) (hM : MR S kd nd tg st em mo_begin mo_other mo_kinds mo_nodeOf mo_steps mo_emissions) (hX : ∀ j, j < T → mo_text j = nI (tx j) ∧ tx j < 4) (hT : T ≤ 24) (hok : ∀ w j e, vld S T w j e → vals (cl w j e) = enc (V S kd tg st em tx w j e)) :
    ∀ (n : Nat) (fs l : List Ent) (a b c stk : Nat → Int32), (∀ f ∈ fs, FV S T kd tg st em tx f) → SR fs stk → LR l a b c → l.length + (Dt S kd tg st em tx fs).length ≤ 60 → (Dt S kd tg st em tx fs).length < n →
      ∃ a' b' c' stk', f_Mo_write_L24 mo_begin mo_other mo_kinds mo_nodeOf mo_steps mo_emissions mo_text vals f_Mo_write_K24_316 n (nI (3 * fs.length)) (nI l.length) a b c stk = some (nI (l ++ Dt S kd tg st em tx fs).length, a', b', c', stk') ∧ LR (l ++ Dt S kd tg st em tx fs) a' b' c' := by
  have hS := hW.1.2.1
  intro n
  induction n with
  | zero => intro fs l a b c stk _ _ _ _ h; omega
  | succ n ih =>
    intro fs l a b c stk hfv hsr hlr hlen hn
    have hfl := Dt_len hfv
    rw [f_Mo_write_L24]
    cases fs with
    | nil =>
      rw [if_pos (by decide), Dt, List.append_nil]
      exact ⟨a, b, c, stk, rfl, hlr⟩
    | cons f r =>
      obtain ⟨v, i, d⟩ := f
      obtain ⟨s1, s2, s3, s4⟩ := hsr
      obtain ⟨hv, hd2, hi, hz⟩ := hfv (v, i, d) List.mem_cons_self
      simp only at s1 s2 s3 hv hd2 hi hz
      rw [List.length_cons] at hfl ⊢
      have hw := hW.2.1 v hv
      have hr60 : r.length < 60 := by omega
      have hl60 : l.length < 60 := by omega
      have hcl := cl_lt (v := v) (i := i) (d := d) (by omega) (by omega) hd2
      have hfr : ∀ f ∈ r, FV S T kd tg st em tx f := fun g hg => hfv g (List.mem_cons_of_mem _ hg)
      have e0 : nI (3 * (r.length + 1)) - (3 : Int32) = nI (3 * r.length) := by rw [nI3, pk_sub (by omega)]; congr 1
      have hp : LR (l ++ [(v, i, d)]) (upd a l.length (nI v)) (upd b l.length (nI i)) (upd c l.length (nI d)) := LR_push (q := (v, i, d)) hlr
      have hl1 : l.length + 1 = (l ++ [(v, i, d)]).length := by simp
      rw [if_neg (by rw [nI0]; intro h; have := (nI_leI (by omega) (by omega)).mp h; omega), e0, nI1, nI2, nI_add, nI_add, gd_in (by omega) (by omega), gd_in (by omega) (by omega), gd_in (by omega) (by omega), gd_in (by omega) (by omega), gd_in (by omega) (by omega), gd_in (by omega) (by omega),
        nI_clamp (show 3 * r.length < 2 ^ 31 by omega), nI_clamp (show 3 * r.length + 1 < 2 ^ 31 by omega), nI_clamp (show 3 * r.length + 2 < 2 ^ 31 by omega), s1, s2, s3, m_cell, ob1_some, gd_in hcl (by omega), gd_in (show v < 48 by omega) (by omega), m_kind hW hM hv, nI_clamp (show l.length < 2 ^ 31 by omega), nI_add, hl1]
      have hdt : Dt S kd tg st em tx ((v, i, d) :: r) = der S kd tg st em tx 40 v i d ++ Dt S kd tg st em tx r := rfl
      rw [hdt, der] at hlen hn ⊢
      have happ : ∀ q : List Ent, l ++ ((v, i, d) :: q ++ Dt S kd tg st em tx r) = (l ++ [(v, i, d)]) ++ (q ++ Dt S kd tg st em tx r) := fun q => by simp
      rw [happ]
      rw [List.length_append, List.length_cons] at hlen hn
      by_cases h7 : kd v = 7
      · have h8 : kd v ≠ 8 := by omega
        rw [if_neg h8, if_pos h7] at hlen hn ⊢
        rw [if_pos (by rw [h7]; rfl), nI0]
        obtain ⟨ta, tb, htg, ha, hb, haS, hbS, hr⟩ := hw.2.2.2.2.2.1 h7
        obtain ⟨q1, q2, q3, q4, q5⟩ := bs_spec (tx := tx) hW hv h7 hz
        have hl2 : (tg v).length = 2 := by rw [htg]; rfl
        have ea : (tg v).getD 0 0 = ta := by rw [htg]; rfl
        have eb : (tg v).getD 1 0 = tb := by rw [htg]; rfl
        rw [m_l130 hW hM hT hok hv hd2 hi h7 hz (show r.length < 99 by omega) s1 s2 s3 1000 0 (by omega) (by omega)]
        unfold f_Mo_write_K130_162
        rw [e0, nI1, nI2, nI0, nI_add, nI_add, nI_clamp (show 3 * r.length < 2 ^ 31 by omega), nI_clamp (show 3 * r.length + 1 < 2 ^ 31 by omega), nI_clamp (show 3 * r.length + 2 < 2 ^ 31 by omega), s1, s2, s3, (hM v hv).2.2.1 1 (by omega), if_pos (by omega), ob1_some, nI_add, pk_sub q1, m_push (by omega), ob2_some, (hM v hv).2.2.1 0 (by omega), if_pos (by omega), ob1_some, m_push (by omega), ob2_some, nI_clamp (show l.length < 2 ^ 31 by omega), nI_add, hl1]
        rw [ea] at q4 hlen hn ⊢
        rw [eb] at q5 hlen hn ⊢
        have ra := (hW.2.1 ta haS).2.1
        have rb := (hW.2.1 tb hbS).2.1
        have es1 := der_stable (tx := tx) hW 39 40 ta i (bs S kd tg st em tx v i d) haS q4 (by omega) (by omega)
        have es2 := der_stable (tx := tx) hW 39 40 tb (i + bs S kd tg st em tx v i d) (d - bs S kd tg st em tx v i d) hbS q5 (by omega) (by omega)
        rw [es1, es2] at hlen hn ⊢
        have hdt2 : der S kd tg st em tx 40 ta i (bs S kd tg st em tx v i d) ++ der S kd tg st em tx 40 tb (i + bs S kd tg st em tx v i d) (d - bs S kd tg st em tx v i d) ++ Dt S kd tg st em tx r = Dt S kd tg st em tx ((ta, i, bs S kd tg st em tx v i d) :: (tb, i + bs S kd tg st em tx v i d, d - bs S kd tg st em tx v i d) :: r) := by
          show _ = der S kd tg st em tx 40 ta i _ ++ (der S kd tg st em tx 40 tb _ _ ++ Dt S kd tg st em tx r)
          rw [List.append_assoc]
        rw [hdt2]
        have hlen2 : (Dt S kd tg st em tx ((ta, i, bs S kd tg st em tx v i d) :: (tb, i + bs S kd tg st em tx v i d, d - bs S kd tg st em tx v i d) :: r)).length + 1 + l.length ≤ 60 ∧ (Dt S kd tg st em tx ((ta, i, bs S kd tg st em tx v i d) :: (tb, i + bs S kd tg st em tx v i d, d - bs S kd tg st em tx v i d) :: r)).length < n := by
          rw [← hdt2, List.length_append]
          omega
        refine ih ((ta, i, bs S kd tg st em tx v i d) :: (tb, i + bs S kd tg st em tx v i d, d - bs S kd tg st em tx v i d) :: r) (l ++ [(v, i, d)]) _ _ _ _ (fun g hg => ?_) (SR_push (r := (tb, i + bs S kd tg st em tx v i d, d - bs S kd tg st em tx v i d) :: r) (SR_push s4)) hp (by rw [← hl1]; omega) hlen2.2
        rcases List.mem_cons.mp hg with rfl | hg
        · exact ⟨haS, by show bs S kd tg st em tx v i d ≤ 12; omega, by show i + bs S kd tg st em tx v i d ≤ T; omega, q4⟩
        · rcases List.mem_cons.mp hg with rfl | hg
          · exact ⟨hbS, by show d - bs S kd tg st em tx v i d ≤ 12; omega, by show i + bs S kd tg st em tx v i d + (d - bs S kd tg st em tx v i d) ≤ T; omega, q5⟩
          · exact hfr g hg
      · rw [if_neg (by rw [nI7]; exact nI_ne (by omega) (by omega) h7), gd_in (show v < 48 by omega) (by omega)]
        by_cases h8 : kd v = 8
        · rw [if_pos h8] at hlen hn ⊢
          rw [if_pos (by rw [h8]; rfl), List.nil_append]
          rw [List.length_nil] at hlen hn
          exact ih r (l ++ [(v, i, d)]) _ _ _ _ hfr s4 hp (by rw [← hl1]; omega) (by omega)
        · rw [if_neg h8, if_neg h7] at hlen hn ⊢
          rw [if_neg (by rw [nI8]; exact nI_ne (by omega) (by omega) h8), nI0]
          obtain ⟨q0, q1, q2, q3, q4⟩ := bk_spec (tx := tx) hW hv h7 h8 hz
          have hr := hw.2.2.2.2.2.2 h7 _ (hW.tgt hv q1)
          have hl6 := hw.2.2.2.1
          have hlb := lb_le (kd v)
          have hlh := lh_le (kd v)
          have hlo : lo (kd v) = lb (kd v) + lh (kd v) := rfl
          have hwt := hW.tgt_lt hv q1
          have rw_ := (hW.2.1 _ hwt).2.1
          rw [m_l217 hW hM hX hT hok hv hd2 hi h7 h8 hz (show r.length < 99 by omega) s1 s2 s3 1000 0 (by omega) (by omega)]
          have es1 := der_stable (tx := tx) hW 39 40 _ (i + lb (kd v)) (d - lo (kd v)) hwt q4 (by omega) (by omega)
          rw [es1] at hlen hn ⊢
          have hdt2 : der S kd tg st em tx 40 ((tg v).getD (bk S kd tg st em tx v i d) 0) (i + lb (kd v)) (d - lo (kd v)) ++ Dt S kd tg st em tx r = Dt S kd tg st em tx (((tg v).getD (bk S kd tg st em tx v i d) 0, i + lb (kd v), d - lo (kd v)) :: r) := rfl
          rw [hdt2]
          have hlen2 : (Dt S kd tg st em tx (((tg v).getD (bk S kd tg st em tx v i d) 0, i + lb (kd v), d - lo (kd v)) :: r)).length + 1 + l.length ≤ 60 ∧ (Dt S kd tg st em tx (((tg v).getD (bk S kd tg st em tx v i d) 0, i + lb (kd v), d - lo (kd v)) :: r)).length < n := by
            rw [← hdt2, List.length_append]
            omega
          have hJ : ∃ a' b' c' stk', f_Mo_write_J285 mo_begin mo_other mo_kinds mo_nodeOf (nI (3 * (r.length + 1))) (nI l.length) a b c stk (f_Mo_write_L24 mo_begin mo_other mo_kinds mo_nodeOf mo_steps mo_emissions mo_text vals f_Mo_write_K24_316 n) (nI (bk S kd tg st em tx v i d)) (nI (lb (kd v))) (nI (lh (kd v))) = some (nI (l ++ [(v, i, d)] ++ Dt S kd tg st em tx (((tg v).getD (bk S kd tg st em tx v i d) 0, i + lb (kd v), d - lo (kd v)) :: r)).length, a', b', c', stk') ∧ LR (l ++ [(v, i, d)] ++ Dt S kd tg st em tx (((tg v).getD (bk S kd tg st em tx v i d) 0, i + lb (kd v), d - lo (kd v)) :: r)) a' b' c' := by
            unfold f_Mo_write_J285
            rw [e0, nI1, nI2, nI_add, nI_add, nI_clamp (show 3 * r.length < 2 ^ 31 by omega), nI_clamp (show 3 * r.length + 1 < 2 ^ 31 by omega), nI_clamp (show 3 * r.length + 2 < 2 ^ 31 by omega), s1, s2, s3, (hM v hv).2.2.1 _ (by omega), if_pos q1, ob1_some, nI_add, pk_sub (by omega), pk_sub (by omega), show d - lb (kd v) - lh (kd v) = d - lo (kd v) by omega, m_push (by omega), ob2_some, nI_clamp (show l.length < 2 ^ 31 by omega), nI_add, hl1]
            refine ih (((tg v).getD (bk S kd tg st em tx v i d) 0, i + lb (kd v), d - lo (kd v)) :: r) (l ++ [(v, i, d)]) _ _ _ _ (fun g hg => ?_) (SR_push s4) hp (by rw [← hl1]; omega) hlen2.2
            rcases List.mem_cons.mp hg with rfl | hg
            · exact ⟨hwt, by show d - lo (kd v) ≤ 12; omega, by show i + lb (kd v) + (d - lo (kd v)) ≤ T; omega, q4⟩
            · exact hfr g hg
          have hJ2 : ∃ a' b' c' stk', f_Mo_write_J266 mo_begin mo_other mo_kinds mo_nodeOf (nI (3 * (r.length + 1))) (nI l.length) a b c stk (f_Mo_write_L24 mo_begin mo_other mo_kinds mo_nodeOf mo_steps mo_emissions mo_text vals f_Mo_write_K24_316 n) (nI (bk S kd tg st em tx v i d)) (nI (lb (kd v))) = some (nI (l ++ [(v, i, d)] ++ Dt S kd tg st em tx (((tg v).getD (bk S kd tg st em tx v i d) 0, i + lb (kd v), d - lo (kd v)) :: r)).length, a', b', c', stk') ∧ LR (l ++ [(v, i, d)] ++ Dt S kd tg st em tx (((tg v).getD (bk S kd tg st em tx v i d) 0, i + lb (kd v), d - lo (kd v)) :: r)) a' b' c' := by
            unfold f_Mo_write_J266
            rw [e0, nI_clamp (show 3 * r.length < 2 ^ 31 by omega), s1, gd_in (show v < 48 by omega) (by omega), m_kind hW hM hv, m_eR _ (by omega), ob1_some]
            by_cases h : lh (kd v) = 0
            · rw [if_pos ((lh0 _).mpr h)]
              rw [h] at hJ
              exact hJ
            · rw [if_neg (fun q => h ((lh0 _).mp q))]
              rw [show lh (kd v) = 1 by omega] at hJ
              exact hJ
          unfold f_Mo_write_K217_249
          rw [e0, nI_clamp (show 3 * r.length < 2 ^ 31 by omega), s1, gd_in (show v < 48 by omega) (by omega), m_kind hW hM hv, m_eL _ (by omega), ob1_some]
          by_cases h : lb (kd v) = 0
          · rw [if_pos ((lb0 _).mpr h)]
            rw [h] at hJ2 ⊢
            exact hJ2
          · rw [if_neg (fun q => h ((lb0 _).mp q))]
            have h1 : lb (kd v) = 1 := by omega
            rw [h1] at hJ2 ⊢
            exact hJ2
theorem m_write (hW : WF S kd tg st em rk) (hM : MR S kd nd tg st em mo_begin mo_other mo_kinds mo_nodeOf mo_steps mo_emissions) (hX : ∀ j, j < T → mo_text j = nI (tx j) ∧ tx j < 4) (hT : T ≤ 24) (hok : ∀ w j e, vld S T w j e → vals (cl w j e) = enc (V S kd tg st em tx w j e)) {k i d : Nat} {at_ ln a b c stk : Nat → Int32} {w0 : Int32} (hk : k < 24) (h1 : at_ k = nI i) (h2 : ln k = nI d) (hd2 : d ≤ 12) (hi : i + d ≤ T) (hz : V S kd tg st em tx 0 i d ≠ none) :
    ∃ a' b' c' stk', f_Mo_write mo_begin mo_other mo_kinds mo_nodeOf mo_steps mo_emissions mo_text vals at_ ln w0 a b c stk (nI k) = some (nI (der S kd tg st em tx 40 0 i d).length, a', b', c', stk') ∧ LR (der S kd tg st em tx 40 0 i d) a' b' c' := by
  have h0 := hW.1.1
  have hw := hW.2.1 0 h0
  have hl := der_len (tx := tx) hW 40 0 i d h0 hz
  unfold f_Mo_write
  rw [gd_in hk (by omega), gd_in hk (by omega), nI_clamp (by omega), h1, h2]
  have hp := m_push (s := stk) (t := 0) (v := 0) (i := i) (d := d) (by omega)
  have hp' : f_Mo_push stk (0 : Int32) (0 : Int32) (nI i) (nI d) = _ := hp
  rw [hp', ob2_some]
  have hdt : Dt S kd tg st em tx [(0, i, d)] = der S kd tg st em tx 40 0 i d := by
    show der S kd tg st em tx 40 0 i d ++ [] = _
    rw [List.append_nil]
  have := m_l24 hW hM hX hT hok 1000 [(0, i, d)] [] a b c _ (fun f hf => by rw [List.mem_singleton.mp hf]; exact ⟨h0, hd2, hi, hz⟩) (SR_push (r := []) (s := stk) (v := 0) (i := i) (d := d) trivial) (fun p hp => by cases hp) (by rw [hdt]; show 0 + _ ≤ 60; omega) (by rw [hdt]; omega)
  rw [hdt] at this
  exact this
end DM
