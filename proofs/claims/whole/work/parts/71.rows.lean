/-! 71.rows: sets of rows; which rows are in which state -/
theorem rs_or (P Q : Nat → Bool) {R : Nat} (hR : R ≤ 4) : nI (rset P R) ||| nI (rset Q R) = nI (rset (fun r => P r || Q r) R) := by
  rcases (show R = 0 ∨ R = 1 ∨ R = 2 ∨ R = 3 ∨ R = 4 by omega) with rfl | rfl | rfl | rfl | rfl
  all_goals simp only [rset]
  all_goals generalize P 0 = p0
  all_goals generalize P 1 = p1
  all_goals generalize P 2 = p2
  all_goals generalize P 3 = p3
  all_goals generalize Q 0 = q0
  all_goals generalize Q 1 = q1
  all_goals generalize Q 2 = q2
  all_goals generalize Q 3 = q3
  all_goals clear P Q hR
  all_goals revert q0 q1 q2 q3
  all_goals (cases p0 <;> cases p1 <;> cases p2 <;> cases p3 <;> decide +kernel)
theorem rs_and (P Q : Nat → Bool) {R : Nat} (hR : R ≤ 4) : nI (rset P R) &&& nI (rset Q R) = nI (rset (fun r => P r && Q r) R) := by
  rcases (show R = 0 ∨ R = 1 ∨ R = 2 ∨ R = 3 ∨ R = 4 by omega) with rfl | rfl | rfl | rfl | rfl
  all_goals simp only [rset]
  all_goals generalize P 0 = p0
  all_goals generalize P 1 = p1
  all_goals generalize P 2 = p2
  all_goals generalize P 3 = p3
  all_goals generalize Q 0 = q0
  all_goals generalize Q 1 = q1
  all_goals generalize Q 2 = q2
  all_goals generalize Q 3 = q3
  all_goals clear P Q hR
  all_goals revert q0 q1 q2 q3
  all_goals (cases p0 <;> cases p1 <;> cases p2 <;> cases p3 <;> decide +kernel)
theorem rs_andn (P Q : Nat → Bool) {R : Nat} (hR : R ≤ 4) : nI (rset P R) &&& (nI (rset Q R) ^^^ (-1 : Int32)) = nI (rset (fun r => P r && !Q r) R) := by
  rcases (show R = 0 ∨ R = 1 ∨ R = 2 ∨ R = 3 ∨ R = 4 by omega) with rfl | rfl | rfl | rfl | rfl
  all_goals simp only [rset]
  all_goals generalize P 0 = p0
  all_goals generalize P 1 = p1
  all_goals generalize P 2 = p2
  all_goals generalize P 3 = p3
  all_goals generalize Q 0 = q0
  all_goals generalize Q 1 = q1
  all_goals generalize Q 2 = q2
  all_goals generalize Q 3 = q3
  all_goals clear P Q hR
  all_goals revert q0 q1 q2 q3
  all_goals (cases p0 <;> cases p1 <;> cases p2 <;> cases p3 <;> decide +kernel)
theorem rs_all {R : Nat} (hR : R ≤ 4) : ((1 : Int32) <<< (nI R &&& 31)) - (1 : Int32) = nI (rset (fun _ => true) R) := by
  have : ∀ R, R < 5 → ((1 : Int32) <<< (nI R &&& 31)) - (1 : Int32) = nI (rset (fun _ => true) R) := by decide +kernel
  exact this R (by omega)
theorem rs_false (R : Nat) : rset (fun _ => false) R = 0 := by
  induction R with
  | zero => rfl
  | succ n ih => rw [rset, ih]; rfl
section ROWS
variable {R C : Nat} {lt : Nat → Nat → Nat} {RS : Nat → Int32} {nl : Nat → Nd} {N : Nat}
theorem c_rowsWith (hC : C ≤ 8) (hs : ∀ c, c < C → ∀ a, a < 4 → RS (4 * c + a) = nI (rset (fun r => decide (lt r c = a)) R)) {c a : Nat} (hc : c < C) (ha : a < 4) : f_Co_rowsWith RS (nI c) (nI a) = some (nI (rset (fun r => decide (lt r c = a)) R)) := by
  unfold f_Co_rowsWith
  have hne : ¬ nI c = (-1 : Int32) := fun q => by
    have : ¬ nI c < 0 := nI_pos (by omega)
    rw [q] at this
    exact this (by decide)
  rw [if_neg hne, nI4, pk_mul, nI_add, gd_in (show c * 4 + a < 32 by omega) (by omega), nI_clamp (by omega), Nat.mul_comm c 4, hs c hc a ha]
theorem c_rowsAny (hR : R ≤ 4) (hC : C ≤ 8) (hs : ∀ c, c < C → ∀ a, a < 4 → RS (4 * c + a) = nI (rset (fun r => decide (lt r c = a)) R)) {c : Nat} (hc : c < C) {kk : Int32 → Int32 → Option Int32} : ∀ (n x : Nat), x ≤ 4 → 4 < x + n → f_Co_rowsWithAny_L4 RS (nI c) kk n (nI (rset (fun r => decide (lt r c < x)) R)) (nI x) = kk (nI (rset (fun r => decide (lt r c < 4)) R)) (nI 4) := by
  intro n
  induction n with
  | zero => intro x h1 h2; omega
  | succ n ih =>
    intro x h1 h2
    rw [f_Co_rowsWithAny_L4, nI4]
    by_cases c1 : 4 ≤ x
    · have e : x = 4 := by omega
      rw [if_pos ((nI_leI (by omega) (by omega)).mpr c1), e]
    · rw [if_neg (fun h => c1 ((nI_leI (by omega) (by omega)).mp h)), c_rowsWith hC hs hc (by omega), ob1_some, rs_or _ _ hR, nI_p1]
      rw [rset_congr (Q := fun r => decide (lt r c < x + 1)) (fun r _ => by
        by_cases h1 : lt r c < x
        · simp [h1, show lt r c < x + 1 by omega]
        · by_cases h2 : lt r c = x
          · simp [h2]
          · simp [h1, h2, show ¬ lt r c < x + 1 by omega])]
      exact ih (x + 1) (by omega) (by omega)
theorem c_rowsNone {kk : Int32 → Int32 → Option Int32} : ∀ (n x : Nat), x ≤ 4 → 4 < x + n → f_Co_rowsWithAny_L4 RS (-1) kk n (nI 0) (nI x) = kk (nI 0) (nI 4) := by
  intro n
  induction n with
  | zero => intro x h1 h2; omega
  | succ n ih =>
    intro x h1 h2
    rw [f_Co_rowsWithAny_L4, nI4]
    by_cases c1 : 4 ≤ x
    · have e : x = 4 := by omega
      rw [if_pos ((nI_leI (by omega) (by omega)).mpr c1), e]
    · rw [if_neg (fun h => c1 ((nI_leI (by omega) (by omega)).mp h))]
      unfold f_Co_rowsWith
      rw [if_pos rfl, ob1_some, nI_p1, show nI 0 ||| (0 : Int32) = nI 0 from by decide]
      exact ih (x + 1) (by omega) (by omega)
/-- whether row r has a letter in the left or the right column of a node -/
def lB (lt : Nat → Nat → Nat) (x : Nd) (r : Nat) : Bool := decide (x.1 = 1 ∨ x.1 = 3) && decide (lt r x.2.1 < 4)
def rB (lt : Nat → Nat → Nat) (x : Nd) (r : Nat) : Bool := decide (x.1 = 2 ∨ x.1 = 3) && decide (lt r x.2.2.1 < 4)
def krf (x : Nat) (i j : Bool) : Nat := if x = 1 ∨ x = 2 ∨ x = 3 then (if i && j then 1 else if i then 2 else if j then 3 else 4) else if x = 4 then 7 else if x = 7 then 8 else 0
/-- the kind in which row r is at a node -/
def kr (lt : Nat → Nat → Nat) (x : Nd) (r : Nat) : Nat := krf x.1 (lB lt x r) (rB lt x r)
theorem krf_k : ∀ x, x < 8 → ∀ k ∈ sk x, ∀ i j : Bool, decide (krf x i j = k) = (if k = 1 then i && j else if k = 2 then i && !j else if k = 3 then j && !i else if k = 4 then (true && !i) && !j else if k = 5 then false else if k = 6 then false else true) := by decide +kernel
theorem sk_lt : ∀ x, x < 8 → ∀ k ∈ sk x, k < 9 := by decide +kernel
/-- what the class's tree holds of the nodes -/
def CTr (nl : Nat → Nd) (N C : Nat) (tk tl tr : Nat → Int32) : Prop := N ≤ 18 ∧ ∀ n, n < N → (nl n).1 < 8 ∧ ((nl n).1 = 1 ∨ (nl n).1 = 2 ∨ (nl n).1 = 3 → (nl n).2.1 < C ∧ (nl n).2.2.1 < C) ∧ tk n = kI (nl n) ∧ tl n = lI (nl n) ∧ tr n = rI (nl n)
theorem c_left (hR : R ≤ 4) (hC : C ≤ 8) (hs : ∀ c, c < C → ∀ a, a < 4 → RS (4 * c + a) = nI (rset (fun r => decide (lt r c = a)) R)) (x : Nd) (hx : x.1 = 1 ∨ x.1 = 2 ∨ x.1 = 3 → x.2.1 < C ∧ x.2.2.1 < C) : f_Co_rowsWithAny RS (lI x) = some (nI (rset (lB lt x) R)) := by
  unfold f_Co_rowsWithAny lI
  by_cases h : x.1 = 1 ∨ x.1 = 3
  · rw [if_pos h]
    have h0 := c_rowsAny hR hC hs (c := x.2.1) (hx (by omega)).1 (kk := f_Co_rowsWithAny_K4_24) 1000 0 (by omega) (by omega)
    rw [rset_congr (P := fun r => decide (lt r x.2.1 < 0)) (Q := fun _ => false) (fun r _ => by simp), rs_false] at h0
    have h0 : f_Co_rowsWithAny_L4 RS (nI x.2.1) f_Co_rowsWithAny_K4_24 1000 0 0 = _ := h0
    rw [h0]
    unfold f_Co_rowsWithAny_K4_24
    rw [rset_congr (Q := lB lt x) (fun r _ => by unfold lB; simp [h])]
  · rw [if_neg h]
    have h0 := c_rowsNone (RS := RS) (kk := f_Co_rowsWithAny_K4_24) 1000 0 (by omega) (by omega)
    have h0 : f_Co_rowsWithAny_L4 RS (-1) f_Co_rowsWithAny_K4_24 1000 0 0 = _ := h0
    rw [h0]
    unfold f_Co_rowsWithAny_K4_24
    rw [rset_congr (P := lB lt x) (Q := fun _ => false) (fun r _ => by unfold lB; simp [h]), rs_false]
theorem c_right (hR : R ≤ 4) (hC : C ≤ 8) (hs : ∀ c, c < C → ∀ a, a < 4 → RS (4 * c + a) = nI (rset (fun r => decide (lt r c = a)) R)) (x : Nd) (hx : x.1 = 1 ∨ x.1 = 2 ∨ x.1 = 3 → x.2.1 < C ∧ x.2.2.1 < C) : f_Co_rowsWithAny RS (rI x) = some (nI (rset (rB lt x) R)) := by
  unfold f_Co_rowsWithAny rI
  by_cases h : x.1 = 2 ∨ x.1 = 3
  · rw [if_pos h]
    have h0 := c_rowsAny hR hC hs (c := x.2.2.1) (hx (by omega)).2 (kk := f_Co_rowsWithAny_K4_24) 1000 0 (by omega) (by omega)
    rw [rset_congr (P := fun r => decide (lt r x.2.2.1 < 0)) (Q := fun _ => false) (fun r _ => by simp), rs_false] at h0
    have h0 : f_Co_rowsWithAny_L4 RS (nI x.2.2.1) f_Co_rowsWithAny_K4_24 1000 0 0 = _ := h0
    rw [h0]
    unfold f_Co_rowsWithAny_K4_24
    rw [rset_congr (Q := rB lt x) (fun r _ => by unfold rB; simp [h])]
  · rw [if_neg h]
    have h0 := c_rowsNone (RS := RS) (kk := f_Co_rowsWithAny_K4_24) 1000 0 (by omega) (by omega)
    have h0 : f_Co_rowsWithAny_L4 RS (-1) f_Co_rowsWithAny_K4_24 1000 0 0 = _ := h0
    rw [h0]
    unfold f_Co_rowsWithAny_K4_24
    rw [rset_congr (P := rB lt x) (Q := fun _ => false) (fun r _ => by unfold rB; simp [h]), rs_false]
theorem c_rowsIn (hR : R ≤ 4) (hC : C ≤ 8) (hs : ∀ c, c < C → ∀ a, a < 4 → RS (4 * c + a) = nI (rset (fun r => decide (lt r c = a)) R)) {tk tl tr : Nat → Int32} (hT : CTr nl N C tk tl tr) {n k : Nat} (hn : n < N) (hk : k ∈ sk (nl n).1) :
    f_Gr_rowsIn (nI R) RS tl tr (nI k) (nI n) = some (nI (rset (fun r => decide (kr lt (nl n) r = k)) R)) := by
  obtain ⟨hN, hT⟩ := hT
  obtain ⟨t1, t2, t3, t4, t5⟩ := hT n hn
  unfold f_Gr_rowsIn f_Co_allRows f_Tr_left f_Tr_right
  rw [ob1_some, gd_in (show n < 18 by omega) (by omega), ob1_some, nI_clamp (by omega), t4, c_left hR hC hs (nl n) t2, ob1_some, gd_in (show n < 18 by omega) (by omega), ob1_some, t5, c_right hR hC hs (nl n) t2, ob1_some, rs_all hR]
  have hk9 := sk_lt _ t1 k hk
  have key := fun r => krf_k _ t1 k hk (lB lt (nl n) r) (rB lt (nl n) r)
  have e1 : rset (fun r => decide (kr lt (nl n) r = k)) R = rset (fun r => (if k = 1 then lB lt (nl n) r && rB lt (nl n) r else if k = 2 then lB lt (nl n) r && !rB lt (nl n) r else if k = 3 then rB lt (nl n) r && !lB lt (nl n) r else if k = 4 then (true && !lB lt (nl n) r) && !rB lt (nl n) r else if k = 5 then false else if k = 6 then false else true)) R := rset_congr (fun r _ => key r)
  rw [e1]
  clear e1 key hk
  rcases (show k = 0 ∨ k = 1 ∨ k = 2 ∨ k = 3 ∨ k = 4 ∨ k = 5 ∨ k = 6 ∨ k = 7 ∨ k = 8 by omega) with rfl | rfl | rfl | rfl | rfl | rfl | rfl | rfl | rfl
  · rfl
  · rw [if_pos (show nI 1 = (1 : Int32) from rfl), rs_and _ _ hR]; rfl
  · rw [if_neg (by decide), if_pos (show nI 2 = (2 : Int32) from rfl), rs_andn _ _ hR]; rfl
  · rw [if_neg (by decide), if_neg (by decide), if_pos (show nI 3 = (3 : Int32) from rfl), rs_andn _ _ hR]; rfl
  · rw [if_neg (by decide), if_neg (by decide), if_neg (by decide), if_pos (show nI 4 = (4 : Int32) from rfl), rs_andn _ _ hR, rs_andn _ _ hR]; rfl
  · rw [if_neg (by decide), if_neg (by decide), if_neg (by decide), if_neg (by decide), if_pos (show nI 5 = (5 : Int32) from rfl)]
    show _ = some (nI (rset (fun _ => false) R))
    rw [rs_false]; rfl
  · rw [if_neg (by decide), if_neg (by decide), if_neg (by decide), if_neg (by decide), if_neg (by decide), if_pos (show nI 6 = (6 : Int32) from rfl)]
    show _ = some (nI (rset (fun _ => false) R))
    rw [rs_false]; rfl
  · rfl
  · rfl
end ROWS
