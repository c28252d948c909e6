/-! 51.spec: an abstract grammar (S states, kinds kd, targets tg, step scores st, letter scores em), the values of its states over parts of a text -/
def lb (k : Nat) : Nat := if k = 1 ∨ k = 2 ∨ k = 5 then 1 else 0
def lh (k : Nat) : Nat := if k = 1 ∨ k = 3 ∨ k = 6 then 1 else 0
def lo (k : Nat) : Nat := lb k + lh k
theorem lb_le (k : Nat) : lb k ≤ 1 := by unfold lb; split <;> omega
theorem lh_le (k : Nat) : lh k ≤ 1 := by unfold lh; split <;> omega
/-- well made: what the tree of the columns gives -/
def WF (S : Nat) (kd : Nat → Nat) (tg : Nat → List Nat) (st : Nat → Nat → Int) (em : Nat → Nat → Nat → Int) (rk : Nat → Nat) : Prop :=
  (0 < S ∧ S ≤ 43 ∧ kd 0 = 0) ∧
  (∀ v, v < S → kd v ≤ 8 ∧ rk v ≤ 18 ∧ 1 ≤ rk v ∧ (tg v).length ≤ 6 ∧ (∀ w ∈ tg v, w < S ∧ (v < w ∨ (v ≤ w ∧ 1 ≤ lo (kd v)))) ∧
    (kd v = 7 → ∃ a b, tg v = [a, b] ∧ v < a ∧ v < b ∧ a < S ∧ b < S ∧ 1 + rk a + rk b ≤ rk v) ∧ (kd v ≠ 7 → ∀ w ∈ tg v, 1 + rk w ≤ rk v + lo (kd v))) ∧
  (∀ v k, -64 ≤ st v k ∧ st v k ≤ 64) ∧ (∀ v a b, -64 ≤ em v a b ∧ em v a b ≤ 64)
/-- the letters' score of a state at the part (i, d) of a text tx -/
def el (kd : Nat → Nat) (em : Nat → Nat → Nat → Int) (tx : Nat → Nat) (v i d : Nat) : Int :=
  if kd v = 1 then em v (tx i) (tx (i + d - 1)) else if kd v = 2 ∨ kd v = 5 then em v (tx i) 0 else if kd v = 3 ∨ kd v = 6 then em v (tx (i + d - 1)) 0 else 0
/-- a value out of a table of values: one turn of the recursion -/
def bt (kd : Nat → Nat) (tg : Nat → List Nat) (st : Nat → Nat → Int) (em : Nat → Nat → Nat → Int) (tx : Nat → Nat) (t : Nat → Nat → Nat → Option Int) (v i d : Nat) : Option Int :=
  if kd v = 8 then (if d = 0 then some 0 else none)
  else if kd v = 7 then mxf (fun k => addO (t ((tg v).getD 0 0) i k) (t ((tg v).getD 1 0) (i + k) (d - k))) (d + 1)
  else if d < lo (kd v) then none
  else mxf (fun k => plusO (t ((tg v).getD k 0) (i + lb (kd v)) (d - lo (kd v))) (st v k + el kd em tx v i d)) (tg v).length
def Vf (kd : Nat → Nat) (tg : Nat → List Nat) (st : Nat → Nat → Int) (em : Nat → Nat → Nat → Int) (tx : Nat → Nat) : Nat → Nat → Nat → Nat → Option Int
  | 0, _, _, _ => none
  | n + 1, v, i, d => bt kd tg st em tx (Vf kd tg st em tx n) v i d
def rank (S v d : Nat) : Nat := 50 * d + (S - v)
def V (S : Nat) (kd : Nat → Nat) (tg : Nat → List Nat) (st : Nat → Nat → Int) (em : Nat → Nat → Nat → Int) (tx : Nat → Nat) (v i d : Nat) : Option Int := Vf kd tg st em tx (rank S v d + 1) v i d
section SP
variable {S : Nat} {kd : Nat → Nat} {tg : Nat → List Nat} {st : Nat → Nat → Int} {em : Nat → Nat → Nat → Int} {rk : Nat → Nat} {tx : Nat → Nat}
theorem WF.tgt (h : WF S kd tg st em rk) {v k : Nat} (hv : v < S) (hk : k < (tg v).length) : (tg v).getD k 0 ∈ tg v := by
  rw [List.getD_eq_getElem?_getD, List.getElem?_eq_getElem hk]
  exact List.getElem_mem hk
theorem WF.tgt_lt (h : WF S kd tg st em rk) {v k : Nat} (hv : v < S) (hk : k < (tg v).length) : (tg v).getD k 0 < S := ((h.2.1 v hv).2.2.2.2.1 _ (h.tgt hv hk)).1
/-- what the recursion at (v, i, d) asks of a table -/
def needs (kd : Nat → Nat) (tg : Nat → List Nat) (v i d w j e : Nat) : Prop :=
  (kd v = 7 ∧ ∃ k, k ≤ d ∧ ((w = (tg v).getD 0 0 ∧ j = i ∧ e = k) ∨ (w = (tg v).getD 1 0 ∧ j = i + k ∧ e = d - k))) ∨
  (kd v ≠ 7 ∧ kd v ≠ 8 ∧ lo (kd v) ≤ d ∧ ∃ k, k < (tg v).length ∧ w = (tg v).getD k 0 ∧ j = i + lb (kd v) ∧ e = d - lo (kd v))
theorem bt_congr {t t' : Nat → Nat → Nat → Option Int} {v i d : Nat} (h : ∀ w j e, needs kd tg v i d w j e → t w j e = t' w j e) : bt kd tg st em tx t v i d = bt kd tg st em tx t' v i d := by
  unfold bt
  by_cases h8 : kd v = 8
  · rw [if_pos h8, if_pos h8]
  · rw [if_neg h8, if_neg h8]
    by_cases h7 : kd v = 7
    · rw [if_pos h7, if_pos h7]
      refine mxf_congr (fun k hk => ?_)
      rw [h _ _ _ (Or.inl ⟨h7, k, by omega, Or.inl ⟨rfl, rfl, rfl⟩⟩), h _ _ _ (Or.inl ⟨h7, k, by omega, Or.inr ⟨rfl, rfl, rfl⟩⟩)]
    · rw [if_neg h7, if_neg h7]
      by_cases hd : d < lo (kd v)
      · rw [if_pos hd, if_pos hd]
      · rw [if_neg hd, if_neg hd]
        refine mxf_congr (fun k hk => ?_)
        rw [h _ _ _ (Or.inr ⟨h7, h8, by omega, k, hk, rfl, rfl, rfl⟩)]
theorem bt_mono {t t' : Nat → Nat → Nat → Option Int} {v i d : Nat} (h : ∀ w j e, needs kd tg v i d w j e → leO (t w j e) (t' w j e)) : leO (bt kd tg st em tx t v i d) (bt kd tg st em tx t' v i d) := by
  unfold bt
  by_cases h8 : kd v = 8
  · rw [if_pos h8, if_pos h8]; exact leO_refl _
  · rw [if_neg h8, if_neg h8]
    by_cases h7 : kd v = 7
    · rw [if_pos h7, if_pos h7]
      exact mxf_le (fun k hk => leO_add (h _ _ _ (Or.inl ⟨h7, k, by omega, Or.inl ⟨rfl, rfl, rfl⟩⟩)) (h _ _ _ (Or.inl ⟨h7, k, by omega, Or.inr ⟨rfl, rfl, rfl⟩⟩)))
    · rw [if_neg h7, if_neg h7]
      by_cases hd : d < lo (kd v)
      · rw [if_pos hd, if_pos hd]; trivial
      · rw [if_neg hd, if_neg hd]
        exact mxf_le (fun k hk => leO_plus (h _ _ _ (Or.inr ⟨h7, h8, by omega, k, hk, rfl, rfl, rfl⟩)))
/-- what is asked lies within the states, within the part, and before in rank -/
theorem needs_lt (hW : WF S kd tg st em rk) {v i d w j e : Nat} (hv : v < S) (h : needs kd tg v i d w j e) : w < S ∧ i ≤ j ∧ j + e ≤ i + d ∧ e ≤ d ∧ rank S w e < rank S v d ∧ (v < w ∨ (v = w ∧ e < d)) ∧ v ≤ w := by
  have hS := hW.1.2.1
  rcases h with ⟨h7, k, hk, h⟩ | ⟨h7, h8, hd, k, hk, rfl, rfl, rfl⟩
  · obtain ⟨a, b, htg, ha, hb, haS, hbS, -⟩ := (hW.2.1 v hv).2.2.2.2.2.1 h7
    rw [htg] at h
    rcases h with ⟨hw, hj, he⟩ | ⟨hw, hj, he⟩
    · have hw : w = a := hw
      rw [hw, hj, he]
      unfold rank
      exact ⟨haS, by omega, by omega, by omega, by omega, Or.inl ha, by omega⟩
    · have hw : w = b := hw
      rw [hw, hj, he]
      unfold rank
      exact ⟨hbS, by omega, by omega, by omega, by omega, Or.inl hb, by omega⟩
  · have hw := (hW.2.1 v hv).2.2.2.2.1 _ (hW.tgt hv hk)
    have h1 := lb_le (kd v)
    have h2 : lo (kd v) = lb (kd v) + lh (kd v) := rfl
    generalize (tg v).getD k 0 = w at hw ⊢
    unfold rank
    obtain ⟨hw1, hw2⟩ := hw
    refine ⟨hw1, by omega, by omega, by omega, by omega, ?_, by omega⟩
    rcases hw2 with h | ⟨h, h'⟩
    · exact Or.inl h
    · by_cases e : v = w
      · exact Or.inr ⟨e, by omega⟩
      · exact Or.inl (by omega)
theorem Vf_stable (hW : WF S kd tg st em rk) : ∀ (n m v i d : Nat), v < S → rank S v d < n → rank S v d < m → Vf kd tg st em tx n v i d = Vf kd tg st em tx m v i d := by
  intro n
  induction n with
  | zero => intro m v i d _ h; omega
  | succ n ih =>
    intro m v i d hv hn hm
    cases m with
    | zero => omega
    | succ m =>
      rw [Vf, Vf]
      refine bt_congr (fun w j e hne => ?_)
      have := needs_lt hW hv hne
      exact ih m w j e this.1 (by omega) (by omega)
theorem V_eq (hW : WF S kd tg st em rk) {v i d : Nat} (hv : v < S) : V S kd tg st em tx v i d = bt kd tg st em tx (V S kd tg st em tx) v i d := by
  show Vf kd tg st em tx (rank S v d + 1) v i d = _
  rw [Vf]
  refine bt_congr (fun w j e hne => ?_)
  have := needs_lt hW hv hne
  exact Vf_stable hW _ _ w j e this.1 (by omega) (by omega)
theorem el_bd (hW : WF S kd tg st em rk) (v i d : Nat) : -64 ≤ el kd em tx v i d ∧ el kd em tx v i d ≤ 64 := by
  unfold el
  have h := hW.2.2.2
  split
  · exact h _ _ _
  · split
    · exact h _ _ _
    · split
      · exact h _ _ _
      · omega
/-- a table whose values are bounded by what their derivations can hold -/
def Tb (S : Nat) (rk : Nat → Nat) (t : Nat → Nat → Nat → Option Int) : Prop := ∀ w j e, w < S → Bd (128 * (rk w + e)) (t w j e)
theorem bt_bd (hW : WF S kd tg st em rk) {t : Nat → Nat → Nat → Option Int} {v i d : Nat} (hv : v < S) (ht : ∀ w j e, needs kd tg v i d w j e → Bd (128 * (rk w + e)) (t w j e)) : Bd (128 * (rk v + d)) (bt kd tg st em tx t v i d) := by
  unfold bt
  by_cases h8 : kd v = 8
  · rw [if_pos h8]
    split
    · intro z hz; cases hz; omega
    · exact Bd_none _
  · rw [if_neg h8]
    by_cases h7 : kd v = 7
    · rw [if_pos h7]
      obtain ⟨a, b, htg, ha, hb, haS, hbS, hr⟩ := (hW.2.1 v hv).2.2.2.2.2.1 h7
      refine mxf_bd (fun k hk => ?_)
      have h1 := ht _ _ _ (Or.inl ⟨h7, k, by omega, Or.inl ⟨rfl, rfl, rfl⟩⟩)
      have h2 := ht _ _ _ (Or.inl ⟨h7, k, by omega, Or.inr ⟨rfl, rfl, rfl⟩⟩)
      rw [htg] at h1 h2 ⊢
      refine Bd_mono (Bd_add h1 h2) ?_
      show 128 * (rk a + k) + 128 * (rk b + (d - k)) ≤ _
      omega
    · rw [if_neg h7]
      by_cases hd : d < lo (kd v)
      · rw [if_pos hd]; exact Bd_none _
      · rw [if_neg hd]
        refine mxf_bd (fun k hk => ?_)
        have h1 := ht _ _ _ (Or.inr ⟨h7, h8, by omega, k, hk, rfl, rfl, rfl⟩)
        have hr := (hW.2.1 v hv).2.2.2.2.2.2 h7 _ (hW.tgt hv hk)
        have h2 := el_bd (tx := tx) hW v i d
        have h3 := hW.2.2.1 v k
        refine Bd_mono (Bd_plus (k := 128) h1 (by omega) (by omega)) ?_
        omega
theorem V_bd (hW : WF S kd tg st em rk) : ∀ (n v i d : Nat), v < S → rank S v d < n → Bd (128 * (rk v + d)) (V S kd tg st em tx v i d) := by
  intro n
  induction n with
  | zero => intro v i d _ h; omega
  | succ n ih =>
    intro v i d hv hn
    rw [V_eq hW hv]
    refine bt_bd hW hv (fun w j e hne => ?_)
    have := needs_lt hW hv hne
    exact ih w j e this.1 (by omega)
theorem V_small (hW : WF S kd tg st em rk) {v i d : Nat} (hv : v < S) (hd : d ≤ 12) : Bd 3840 (V S kd tg st em tx v i d) :=
  Bd_mono (V_bd hW _ v i d hv (Nat.lt_succ_self _)) (by have := (hW.2.1 v hv).2.1; omega)
/-- the text's letters from the part on count alone -/
theorem V_text {tx' : Nat → Nat} (hW : WF S kd tg st em rk) : ∀ (n v i d : Nat), v < S → rank S v d < n → (∀ j, i ≤ j → j < i + d → tx j = tx' j) → V S kd tg st em tx v i d = V S kd tg st em tx' v i d := by
  intro n
  induction n with
  | zero => intro v i d _ h; omega
  | succ n ih =>
    intro v i d hv hn htx
    rw [V_eq hW hv, V_eq hW hv]
    have h1 : bt kd tg st em tx (V S kd tg st em tx) v i d = bt kd tg st em tx (V S kd tg st em tx') v i d := by
      refine bt_congr (fun w j e hne => ?_)
      have := needs_lt hW hv hne
      exact ih w j e this.1 (by omega) (fun q h1 h2 => htx q (by omega) (by omega))
    rw [h1]
    by_cases hd : lo (kd v) ≤ d
    · have h2 : el kd em tx v i d = el kd em tx' v i d := by
        unfold el
        unfold lo lb lh at hd
        split
        · rename_i h; simp only [h] at hd; rw [htx i (by omega) (by simp at hd; omega), htx (i + d - 1) (by simp at hd; omega) (by simp at hd; omega)]
        · split
          · rename_i h0 h
            rw [htx i (by omega) (by rcases h with h | h <;> simp [h] at hd <;> omega)]
          · split
            · rename_i h0 h1 h
              rw [htx (i + d - 1) (by rcases h with h | h <;> simp [h] at hd <;> omega) (by rcases h with h | h <;> simp [h] at hd <;> omega)]
            · rfl
      unfold bt
      rw [h2]
    · unfold bt
      by_cases h8 : kd v = 8
      · rw [if_pos h8, if_pos h8]
      · by_cases h7 : kd v = 7
        · rw [if_neg h8, if_pos h7, if_neg h8, if_pos h7]
        · rw [if_neg h8, if_neg h7, if_pos (by omega), if_neg h8, if_neg h7, if_pos (by omega)]
end SP
