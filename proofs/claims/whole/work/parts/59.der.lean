/-! 59.der: best derivations -/
abbrev Ent : Type := Nat × Nat × Nat
/-- the first k from k on, of at most n, where P holds -/
def lst (P : Nat → Bool) : Nat → Nat → Nat
  | 0, k => k
  | n + 1, k => if P k then k else lst P n (k + 1)
theorem lst_spec {P : Nat → Bool} : ∀ (n k j : Nat), k ≤ j → j < k + n → P j = true → k ≤ lst P n k ∧ lst P n k ≤ j ∧ P (lst P n k) = true ∧ ∀ m, k ≤ m → m < lst P n k → P m = false := by
  intro n
  induction n with
  | zero => intro k j h1 h2; omega
  | succ n ih =>
    intro k j h1 h2 h3
    rw [lst]
    cases hk : P k with
    | true => exact ⟨Nat.le_refl _, h1, hk, fun m a b => by simp at b; omega⟩
    | false =>
      have hne : k ≠ j := fun e => by rw [e, h3] at hk; cases hk
      obtain ⟨a1, a2, a3, a4⟩ := ih (k + 1) j (by omega) (by omega) h3
      simp only [Bool.false_eq_true, if_false]
      refine ⟨by omega, a2, a3, fun m b1 b2 => ?_⟩
      by_cases e : m = k
      · rw [e]; exact hk
      · exact a4 m (by omega) b2
theorem mxf_att {f : Nat → Option Int} {z : Int} : ∀ n, mxf f n = some z → ∃ k, k < n ∧ f k = some z := by
  intro n
  induction n with
  | zero => intro h; cases h
  | succ n ih =>
    intro h
    rw [mxf] at h
    cases h1 : mxf f n with
    | none =>
      rw [h1] at h
      exact ⟨n, by omega, h⟩
    | some a =>
      rw [h1] at h
      cases h2 : f n with
      | none =>
        rw [h2] at h
        obtain ⟨k, hk, e⟩ := ih (by rw [h1]; exact h)
        exact ⟨k, by omega, e⟩
      | some c =>
        rw [h2] at h
        simp only [maxO, Option.some.injEq] at h
        split at h
        · exact ⟨n, by omega, by rw [h2, h]⟩
        · obtain ⟨k, hk, e⟩ := ih (by rw [h1, h])
          exact ⟨k, by omega, e⟩
section DR
variable {S : Nat} {kd nd : Nat → Nat} {tg : Nat → List Nat} {st : Nat → Nat → Int} {em : Nat → Nat → Nat → Int} {rk : Nat → Nat} {tx : Nat → Nat} {T : Nat}
/-- the step's candidate value over target k; the split's -/
def cand (S : Nat) (kd : Nat → Nat) (tg : Nat → List Nat) (st : Nat → Nat → Int) (em : Nat → Nat → Nat → Int) (tx : Nat → Nat) (v i d k : Nat) : Option Int := plusO (V S kd tg st em tx ((tg v).getD k 0) (i + lb (kd v)) (d - lo (kd v))) (st v k + el kd em tx v i d)
def splt (S : Nat) (kd : Nat → Nat) (tg : Nat → List Nat) (st : Nat → Nat → Int) (em : Nat → Nat → Nat → Int) (tx : Nat → Nat) (v i d k : Nat) : Option Int := addO (V S kd tg st em tx ((tg v).getD 0 0) i k) (V S kd tg st em tx ((tg v).getD 1 0) (i + k) (d - k))
def bk (S : Nat) (kd : Nat → Nat) (tg : Nat → List Nat) (st : Nat → Nat → Int) (em : Nat → Nat → Nat → Int) (tx : Nat → Nat) (v i d : Nat) : Nat := lst (fun k => decide (cand S kd tg st em tx v i d k = V S kd tg st em tx v i d)) (tg v).length 0
def bs (S : Nat) (kd : Nat → Nat) (tg : Nat → List Nat) (st : Nat → Nat → Int) (em : Nat → Nat → Nat → Int) (tx : Nat → Nat) (v i d : Nat) : Nat := lst (fun k => decide (splt S kd tg st em tx v i d k = V S kd tg st em tx v i d)) (d + 1) 0
def der (S : Nat) (kd : Nat → Nat) (tg : Nat → List Nat) (st : Nat → Nat → Int) (em : Nat → Nat → Nat → Int) (tx : Nat → Nat) : Nat → Nat → Nat → Nat → List Ent
  | 0, _, _, _ => []
  | n + 1, v, i, d => (v, i, d) :: (if kd v = 8 then [] else if kd v = 7 then
      der S kd tg st em tx n ((tg v).getD 0 0) i (bs S kd tg st em tx v i d) ++ der S kd tg st em tx n ((tg v).getD 1 0) (i + bs S kd tg st em tx v i d) (d - bs S kd tg st em tx v i d)
    else der S kd tg st em tx n ((tg v).getD (bk S kd tg st em tx v i d) 0) (i + lb (kd v)) (d - lo (kd v)))
theorem bk_spec (hW : WF S kd tg st em rk) {v i d : Nat} (hv : v < S) (h7 : kd v ≠ 7) (h8 : kd v ≠ 8) (hz : V S kd tg st em tx v i d ≠ none) : lo (kd v) ≤ d ∧ bk S kd tg st em tx v i d < (tg v).length ∧ cand S kd tg st em tx v i d (bk S kd tg st em tx v i d) = V S kd tg st em tx v i d ∧ (∀ m, m < bk S kd tg st em tx v i d → cand S kd tg st em tx v i d m ≠ V S kd tg st em tx v i d) ∧ V S kd tg st em tx ((tg v).getD (bk S kd tg st em tx v i d) 0) (i + lb (kd v)) (d - lo (kd v)) ≠ none := by
  have he := V_eq (tx := tx) (i := i) (d := d) hW hv
  unfold bt at he
  rw [if_neg h8, if_neg h7] at he
  by_cases hd : d < lo (kd v)
  · rw [if_pos hd] at he; exact absurd he hz
  · rw [if_neg hd] at he
    cases hV : V S kd tg st em tx v i d with
    | none => exact absurd hV hz
    | some z =>
      rw [hV] at he
      obtain ⟨k, hk, e⟩ := mxf_att _ he.symm
      have hs := lst_spec (P := fun k => decide (cand S kd tg st em tx v i d k = V S kd tg st em tx v i d)) (tg v).length 0 k (by omega) (by omega) (by rw [hV]; exact decide_eq_true e)
      have h3 : cand S kd tg st em tx v i d (bk S kd tg st em tx v i d) = V S kd tg st em tx v i d := of_decide_eq_true hs.2.2.1
      refine ⟨by omega, Nat.lt_of_le_of_lt hs.2.1 hk, by rw [h3, hV], fun m hm => ?_, fun hn => ?_⟩
      · rw [← hV]; exact of_decide_eq_false (hs.2.2.2 m (by omega) hm)
      · unfold cand at h3
        rw [hn, hV] at h3
        cases h3
theorem bs_spec (hW : WF S kd tg st em rk) {v i d : Nat} (hv : v < S) (h7 : kd v = 7) (hz : V S kd tg st em tx v i d ≠ none) : bs S kd tg st em tx v i d ≤ d ∧ splt S kd tg st em tx v i d (bs S kd tg st em tx v i d) = V S kd tg st em tx v i d ∧ (∀ m, m < bs S kd tg st em tx v i d → splt S kd tg st em tx v i d m ≠ V S kd tg st em tx v i d) ∧ V S kd tg st em tx ((tg v).getD 0 0) i (bs S kd tg st em tx v i d) ≠ none ∧ V S kd tg st em tx ((tg v).getD 1 0) (i + bs S kd tg st em tx v i d) (d - bs S kd tg st em tx v i d) ≠ none := by
  have he := V_eq (tx := tx) (i := i) (d := d) hW hv
  unfold bt at he
  rw [if_neg (by omega), if_pos h7] at he
  cases hV : V S kd tg st em tx v i d with
  | none => exact absurd hV hz
  | some z =>
    rw [hV] at he
    obtain ⟨k, hk, e⟩ := mxf_att _ he.symm
    have hs := lst_spec (P := fun k => decide (splt S kd tg st em tx v i d k = V S kd tg st em tx v i d)) (d + 1) 0 k (by omega) (by omega) (by rw [hV]; exact decide_eq_true e)
    have h3 : splt S kd tg st em tx v i d (bs S kd tg st em tx v i d) = V S kd tg st em tx v i d := of_decide_eq_true hs.2.2.1
    have hle : bs S kd tg st em tx v i d ≤ k := hs.2.1
    refine ⟨by omega, by rw [h3, hV], fun m hm => ?_, fun hn => ?_, fun hn => ?_⟩
    · rw [← hV]; exact of_decide_eq_false (hs.2.2.2 m (by omega) hm)
    · unfold splt at h3
      rw [hn, hV] at h3
      cases h3
    · unfold splt at h3
      rw [hn, hV] at h3
      cases hq : V S kd tg st em tx ((tg v).getD 0 0) i (bs S kd tg st em tx v i d) <;> rw [hq] at h3 <;> cases h3
theorem der_len (hW : WF S kd tg st em rk) : ∀ (n v i d : Nat), v < S → V S kd tg st em tx v i d ≠ none → (der S kd tg st em tx n v i d).length ≤ rk v + d := by
  intro n
  induction n with
  | zero => intro v i d _ _; exact Nat.zero_le _
  | succ n ih =>
    intro v i d hv hz
    have hw := hW.2.1 v hv
    rw [der]
    by_cases h8 : kd v = 8
    · rw [if_pos h8]
      show 1 ≤ _
      omega
    · rw [if_neg h8]
      by_cases h7 : kd v = 7
      · rw [if_pos h7]
        obtain ⟨a, b, htg, ha, hb, haS, hbS, hr⟩ := hw.2.2.2.2.2.1 h7
        obtain ⟨q1, q2, q3, q4, q5⟩ := bs_spec (tx := tx) hW hv h7 hz
        rw [htg] at q4 q5 ⊢
        have e1 := ih a i (bs S kd tg st em tx v i d) haS q4
        have e2 := ih b (i + bs S kd tg st em tx v i d) (d - bs S kd tg st em tx v i d) hbS q5
        rw [List.length_cons, List.length_append]
        show (der S kd tg st em tx n a i (bs S kd tg st em tx v i d)).length + (der S kd tg st em tx n b (i + bs S kd tg st em tx v i d) (d - bs S kd tg st em tx v i d)).length + 1 ≤ _
        omega
      · rw [if_neg h7]
        obtain ⟨q0, q1, q2, q3, q4⟩ := bk_spec (tx := tx) hW hv h7 h8 hz
        have e1 := ih _ (i + lb (kd v)) (d - lo (kd v)) (hW.tgt_lt hv q1) q4
        have hr := hw.2.2.2.2.2.2 h7 _ (hW.tgt hv q1)
        rw [List.length_cons]
        omega
theorem der_stable (hW : WF S kd tg st em rk) : ∀ (n m v i d : Nat), v < S → V S kd tg st em tx v i d ≠ none → rk v + d < n → rk v + d < m → der S kd tg st em tx n v i d = der S kd tg st em tx m v i d := by
  intro n
  induction n with
  | zero => intro m v i d _ _ h; omega
  | succ n ih =>
    intro m v i d hv hz hn hm
    cases m with
    | zero => omega
    | succ m =>
      have hw := hW.2.1 v hv
      rw [der, der]
      by_cases h8 : kd v = 8
      · rw [if_pos h8, if_pos h8]
      · rw [if_neg h8, if_neg h8]
        by_cases h7 : kd v = 7
        · rw [if_pos h7, if_pos h7]
          obtain ⟨a, b, htg, ha, hb, haS, hbS, hr⟩ := hw.2.2.2.2.2.1 h7
          obtain ⟨q1, q2, q3, q4, q5⟩ := bs_spec (tx := tx) hW hv h7 hz
          have ea : (tg v).getD 0 0 = a := by rw [htg]; rfl
          have eb : (tg v).getD 1 0 = b := by rw [htg]; rfl
          rw [ea] at q4 ⊢
          rw [eb] at q5 ⊢
          rw [ih m a i _ haS q4 (by omega) (by omega), ih m b _ _ hbS q5 (by omega) (by omega)]
        · rw [if_neg h7, if_neg h7]
          obtain ⟨q0, q1, q2, q3, q4⟩ := bk_spec (tx := tx) hW hv h7 h8 hz
          have hr := hw.2.2.2.2.2.2 h7 _ (hW.tgt hv q1)
          rw [ih m _ _ _ (hW.tgt_lt hv q1) q4 (by omega) (by omega)]
/-- the entries of a written list -/
def LR (l : List Ent) (a b c : Nat → Int32) : Prop := ∀ p, p < l.length → a p = nI (l.getD p (0, 0, 0)).1 ∧ b p = nI (l.getD p (0, 0, 0)).2.1 ∧ c p = nI (l.getD p (0, 0, 0)).2.2
theorem LR_push {l : List Ent} {a b c : Nat → Int32} {q : Ent} (h : LR l a b c) : LR (l ++ [q]) (upd a l.length (nI q.1)) (upd b l.length (nI q.2.1)) (upd c l.length (nI q.2.2)) := by
  intro p hp
  rw [List.length_append] at hp
  simp only [List.length_cons, List.length_nil] at hp
  by_cases e : p = l.length
  · subst e
    rw [pk_us, pk_us, pk_us]
    have : (l ++ [q]).getD l.length (0, 0, 0) = q := by
      rw [List.getD_eq_getElem?_getD, List.getElem?_append_right (Nat.le_refl _)]
      simp
    rw [this]
    exact ⟨rfl, rfl, rfl⟩
  · rw [pk_un e, pk_un e, pk_un e]
    have : (l ++ [q]).getD p (0, 0, 0) = l.getD p (0, 0, 0) := by
      rw [List.getD_eq_getElem?_getD, List.getD_eq_getElem?_getD, List.getElem?_append_left (by omega)]
    rw [this]
    exact h p (by omega)
end DR
