/-! 74.count: counts of rows, logarithms, the reference's counts -/
def cn (P : Nat → Bool) : Nat → Nat
  | 0 => 0
  | n + 1 => cn P n + (if P n then 1 else 0)
theorem cn_le (P : Nat → Bool) (n : Nat) : cn P n ≤ n := by
  induction n with
  | zero => exact Nat.le_refl _
  | succ n ih => rw [cn]; split <;> omega
theorem cn_congr {P Q : Nat → Bool} {n : Nat} (h : ∀ r, r < n → P r = Q r) : cn P n = cn Q n := by
  induction n with
  | zero => rfl
  | succ n ih => rw [cn, cn, ih (fun r hr => h r (by omega)), h n (by omega)]
theorem cn_none {P : Nat → Bool} {n : Nat} (h : ∀ r, r < n → P r = false) : cn P n = 0 := by
  induction n with
  | zero => rfl
  | succ n ih => rw [cn, ih (fun r hr => h r (by omega)), h n (by omega)]; rfl
theorem c_bits (P : Nat → Bool) {R : Nat} (hR : R ≤ 4) : f_Ig_bitCount (nI (rset P R)) = some (nI (cn P R)) := by
  rcases (show R = 0 ∨ R = 1 ∨ R = 2 ∨ R = 3 ∨ R = 4 by omega) with rfl | rfl | rfl | rfl | rfl
  all_goals simp only [rset, cn]
  all_goals generalize P 0 = p0
  all_goals generalize P 1 = p1
  all_goals generalize P 2 = p2
  all_goals generalize P 3 = p3
  all_goals clear P hR
  all_goals revert p0 p1 p2 p3
  all_goals decide +kernel
def lgv (a b : Nat) : Int := ((f_Mo_log (nI a) (nI b)).getD 0).toInt
def lgc (a b : Nat) : Int := if -64 ≤ lgv a b ∧ lgv a b ≤ 64 then lgv a b else 0
theorem lgc_bd (a b : Nat) : -64 ≤ lgc a b ∧ lgc a b ≤ 64 := by unfold lgc; split <;> omega
theorem lg_sp : ∀ c, c < 5 → ∀ d, d < 10 → f_Fa_log (nI (c + 1)) (nI (d + 1)) = some (i32 (lgc (c + 1) (d + 1))) ∧ f_Mo_log (nI (c + 1)) (nI (d + 1)) = some (i32 (lgc (c + 1) (d + 1))) := by decide +kernel
theorem lg_16 : ∀ c, c < 5 → ∀ d, d < 5 → f_Fa_log (nI (16 * (c + 1))) (nI (d + 16)) = some (i32 (lgc (16 * (c + 1)) (d + 16))) ∧ f_Mo_log (nI (16 * (c + 1))) (nI (d + 16)) = some (i32 (lgc (16 * (c + 1)) (d + 16))) := by decide +kernel
theorem lg_4 : ∀ c, c < 5 → ∀ d, d < 5 → f_Fa_log (nI (4 * (c + 1))) (nI (d + 4)) = some (i32 (lgc (4 * (c + 1)) (d + 4))) ∧ f_Mo_log (nI (4 * (c + 1))) (nI (d + 4)) = some (i32 (lgc (4 * (c + 1)) (d + 4))) := by decide +kernel
theorem kr_lt (lt : Nat → Nat → Nat) (x : Nd) (r : Nat) : kr lt x r ≤ 8 ∧ kr lt x r ≠ 5 ∧ kr lt x r ≠ 6 := by
  unfold kr krf
  repeat' split
  all_goals decide
/-- what the reference holds of rows and nodes -/
def MT (R C : Nat) (lt : Nat → Nat → Nat) (nl : Nat → Nd) (N : Nat) (LT so fr to_ : Nat → Int32) : Prop := R ≤ 4 ∧ C ≤ 8 ∧ N ≤ 18 ∧ (∀ r, r < R → ∀ c, c < C → lt r c ≤ 4 ∧ LT (8 * r + c) = nI (lt r c)) ∧ ∀ n, n < N → (nl n).1 < 8 ∧ ((nl n).1 = 1 ∨ (nl n).1 = 2 ∨ (nl n).1 = 3 → (nl n).2.1 < C ∧ (nl n).2.2.1 < C) ∧ so n = kI (nl n) ∧ fr n = fI (nl n) ∧ to_ n = tI (nl n) ∧ (nl n).2.1 < 8 ∧ (nl n).2.2.1 < 8
section COUNT
variable {R C : Nat} {lt : Nat → Nat → Nat} {nl : Nat → Nd} {N : Nat} {LT so fr to_ : Nat → Int32}
theorem k_J87 {n k : Nat} (hn : n < 2 ^ 31) (hk : k < 8) (hs : so n = nI k) (i j : Bool) : f_Mo_kindAt_J87 so (nI n) (if i = true then 1 else 0) (if j = true then 1 else 0) = some (nI (krf k i j)) := by
  unfold f_Mo_kindAt_J87
  rw [nI_clamp hn, hs]
  exact (by decide +kernel : ∀ k, k < 8 → ∀ i j : Bool, (if nI k = (1 : Int32) then (f_Mo_kindAt_J104 (if i = true then 1 else 0) (if j = true then 1 else 0)) else (if nI k = (2 : Int32) then (f_Mo_kindAt_J104 (if i = true then 1 else 0) (if j = true then 1 else 0)) else (if nI k = (3 : Int32) then (f_Mo_kindAt_J104 (if i = true then 1 else 0) (if j = true then 1 else 0)) else (if nI k = (4 : Int32) then (some ((7 : Int32))) else (if nI k = (7 : Int32) then (some ((8 : Int32))) else (some ((0 : Int32)))))))) = some (nI (krf k i j))) k hk i j
theorem k_J46 (hM : MT R C lt nl N LT so fr to_) {r n : Nat} (hr : r < R) (hn : n < N) (i : Bool) : f_Mo_kindAt_J46 LT so to_ (nI r) (nI n) (if i = true then 1 else 0) = some (nI (krf (nl n).1 i (rB lt (nl n) r))) := by
  obtain ⟨hR, hC, hN, hlt, hnd⟩ := hM
  obtain ⟨h8, hcol, hs, hf, ht, -, -⟩ := hnd n hn
  have hs : so n = nI (nl n).1 := hs
  have ht : to_ n = nI (nl n).2.2.1 := ht
  have hJ : (nl n).1 = 2 ∨ (nl n).1 = 3 → f_Mo_kindAt_J58 LT so to_ (nI r) (nI n) (if i = true then 1 else 0) = some (nI (krf (nl n).1 i (rB lt (nl n) r))) := by
    intro h
    have hc := (hcol (by omega)).2
    have hl := hlt r hr _ hc
    unfold f_Mo_kindAt_J58
    rw [gd_in (show n < 24 by omega) (by omega), nI_clamp (show n < 2 ^ 31 by omega), ht, nI8, pk_mul, nI_add, gd_in (show 8 * r + (nl n).2.2.1 < 32 by omega) (by omega), nI_clamp (show 8 * r + (nl n).2.2.1 < 2 ^ 31 by omega), hl.2]
    by_cases c : lt r (nl n).2.2.1 < 4
    · rw [if_neg (fun q => by rw [nI4, nI_leI (by omega) (by omega)] at q; omega)]
      have e : rB lt (nl n) r = true := by unfold rB; simp [h, c]
      rw [e]
      exact k_J87 (by omega) h8 hs i true
    · rw [if_pos (by rw [nI4, nI_leI (by omega) (by omega)]; omega)]
      have e : rB lt (nl n) r = false := by unfold rB; simp [c]
      rw [e]
      exact k_J87 (by omega) h8 hs i false
  unfold f_Mo_kindAt_J46
  rw [nI_clamp (show n < 2 ^ 31 by omega), hs]
  by_cases q2 : (nl n).1 = 2
  · rw [if_pos (by rw [q2]; rfl)]; exact hJ (Or.inl q2)
  · rw [if_neg (show ¬ nI (nl n).1 = (2 : Int32) by rw [nI2]; exact nI_ne (by omega) (by omega) q2)]
    by_cases q3 : (nl n).1 = 3
    · rw [if_pos (by rw [q3]; rfl)]; exact hJ (Or.inr q3)
    · rw [if_neg (show ¬ nI (nl n).1 = (3 : Int32) by rw [nI3]; exact nI_ne (by omega) (by omega) q3)]
      have e : rB lt (nl n) r = false := by unfold rB; simp [q2, q3]
      rw [e]
      exact k_J87 (by omega) h8 hs i false
theorem m_kindAt (hM : MT R C lt nl N LT so fr to_) {r n : Nat} (hr : r < R) (hn : n < N) : f_Mo_kindAt LT so fr to_ (nI r) (nI n) = some (nI (kr lt (nl n) r)) := by
  have hM' := hM
  obtain ⟨hR, hC, hN, hlt, hnd⟩ := hM'
  obtain ⟨h8, hcol, hs, hf, ht, -, -⟩ := hnd n hn
  have hs : so n = nI (nl n).1 := hs
  have hf : fr n = nI (nl n).2.1 := hf
  have hJ : (nl n).1 = 1 ∨ (nl n).1 = 3 → f_Mo_kindAt_J17 LT so fr to_ (nI r) (nI n) = some (nI (kr lt (nl n) r)) := by
    intro h
    have hc := (hcol (by omega)).1
    have hl := hlt r hr _ hc
    unfold f_Mo_kindAt_J17
    rw [gd_in (show n < 24 by omega) (by omega), nI_clamp (show n < 2 ^ 31 by omega), hf, nI8, pk_mul, nI_add, gd_in (show 8 * r + (nl n).2.1 < 32 by omega) (by omega), nI_clamp (show 8 * r + (nl n).2.1 < 2 ^ 31 by omega), hl.2]
    unfold kr
    by_cases c : lt r (nl n).2.1 < 4
    · rw [if_neg (fun q => by rw [nI4, nI_leI (by omega) (by omega)] at q; omega)]
      have e : lB lt (nl n) r = true := by unfold lB; simp [h, c]
      rw [e]
      exact k_J46 hM hr hn true
    · rw [if_pos (by rw [nI4, nI_leI (by omega) (by omega)]; omega)]
      have e : lB lt (nl n) r = false := by unfold lB; simp [c]
      rw [e]
      exact k_J46 hM hr hn false
  unfold f_Mo_kindAt
  rw [gd_in (show n < 24 by omega) (by omega), nI_clamp (show n < 2 ^ 31 by omega), hs]
  by_cases q1 : (nl n).1 = 1
  · rw [if_pos (by rw [q1]; rfl)]; exact hJ (Or.inl q1)
  · rw [if_neg (show ¬ nI (nl n).1 = (1 : Int32) by rw [nI1]; exact nI_ne (by omega) (by omega) q1)]
    by_cases q3 : (nl n).1 = 3
    · rw [if_pos (by rw [q3]; rfl)]; exact hJ (Or.inr q3)
    · rw [if_neg (show ¬ nI (nl n).1 = (3 : Int32) by rw [nI3]; exact nI_ne (by omega) (by omega) q3)]
      unfold kr
      have e : lB lt (nl n) r = false := by unfold lB; simp [q1, q3]
      rw [e]
      exact k_J46 hM hr hn false
/-- whether row r is in state v -/
def inS (lt : Nat → Nat → Nat) (nl : Nat → Nd) (N v r : Nat) : Bool := decide (kr lt (nl (ndf nl N v)) r = kdf nl N v)
theorem inS_ins {v : Nat} (h : ins (kdf nl N v) = true) (r : Nat) : inS lt nl N v r = false := by
  unfold inS
  have := kr_lt lt (nl (ndf nl N v)) r
  unfold ins at h
  simp only [Bool.or_eq_true, decide_eq_true_eq] at h
  exact decide_eq_false (by omega)
theorem m_rowsIn {K F B : Nat → Int32} (hM : MT R C lt nl N LT so fr to_) (hL : Ly nl N K F B) (hS : fs nl N ≤ 43) {v : Nat} (hv : v < fs nl N) : f_Mo_rowsIn (nI R) LT so fr to_ K F (nI v) = some (nI (cn (inS lt nl N v) R)) := by
  have hR := hM.1
  obtain ⟨a1, a2, a3⟩ := Ly_at hL hv
  have hk8 := kd_le (fun n hn => (hM.2.2.2.2 n hn).1) hv
  have key : ∀ (m x : Nat), x ≤ R → R < x + m → f_Mo_rowsIn_L4 (nI R) LT so fr to_ K F (nI v) f_Mo_rowsIn_K4_46 m (nI (cn (inS lt nl N v) x)) (nI x) = some (nI (cn (inS lt nl N v) R)) := by
    intro m
    induction m with
    | zero => intro x h1 h2; omega
    | succ m ih =>
      intro x h1 h2
      rw [f_Mo_rowsIn_L4]
      by_cases c1 : R ≤ x
      · rw [if_pos ((nI_leI (by omega) (by omega)).mpr c1), show x = R by omega]; rfl
      · have hkr := (kr_lt lt (nl (ndf nl N v)) x).1
        rw [if_neg (fun h => c1 ((nI_leI (by omega) (by omega)).mp h)), gd_in (show v < 48 by omega) (by omega), nI_clamp (show v < 2 ^ 31 by omega), a2, m_kindAt hM (show x < R by omega) a3, ob1_some, gd_in (show v < 48 by omega) (by omega), a1, nI_p1, nI_p1]
        have := ih (x + 1) (by omega) (by omega)
        rw [cn] at this
        by_cases c : kr lt (nl (ndf nl N v)) x = kdf nl N v
        · have e : inS lt nl N v x = true := decide_eq_true c
          rw [e, if_pos rfl] at this
          rw [if_pos (by rw [c])]; exact this
        · have e : inS lt nl N v x = false := decide_eq_false c
          rw [e, if_neg (by decide)] at this
          rw [if_neg (fun q => c ((nI_eq (by omega) (by omega)).mp q))]; exact this
  exact key 1000 0 (by omega) (by omega)
theorem m_rowsFrom {K F B : Nat → Int32} (hM : MT R C lt nl N LT so fr to_) (hL : Ly nl N K F B) (hS : fs nl N ≤ 43) {v w : Nat} (hv : v < fs nl N) (hw : w < fs nl N) : f_Mo_rowsFrom (nI R) LT so fr to_ K F (nI v) (nI w) = some (nI (cn (fun r => inS lt nl N v r && inS lt nl N w r) R)) := by
  have hR := hM.1
  obtain ⟨a1, a2, a3⟩ := Ly_at hL hv
  obtain ⟨b1, b2, b3⟩ := Ly_at hL hw
  have hk8 := kd_le (fun n hn => (hM.2.2.2.2 n hn).1) hv
  have hw8 := kd_le (fun n hn => (hM.2.2.2.2 n hn).1) hw
  have key : ∀ (m x : Nat), x ≤ R → R < x + m → f_Mo_rowsFrom_L5 (nI R) LT so fr to_ K F (nI v) (nI w) f_Mo_rowsFrom_K5_70 m (nI (cn (fun r => inS lt nl N v r && inS lt nl N w r) x)) (nI x) = some (nI (cn (fun r => inS lt nl N v r && inS lt nl N w r) R)) := by
    intro m
    induction m with
    | zero => intro x h1 h2; omega
    | succ m ih =>
      intro x h1 h2
      rw [f_Mo_rowsFrom_L5]
      by_cases c1 : R ≤ x
      · rw [if_pos ((nI_leI (by omega) (by omega)).mpr c1), show x = R by omega]; rfl
      · have hkr := (kr_lt lt (nl (ndf nl N v)) x).1
        have hkw := (kr_lt lt (nl (ndf nl N w)) x).1
        rw [if_neg (fun h => c1 ((nI_leI (by omega) (by omega)).mp h)), gd_in (show v < 48 by omega) (by omega), nI_clamp (show v < 2 ^ 31 by omega), a2, m_kindAt hM (show x < R by omega) a3, ob1_some, gd_in (show v < 48 by omega) (by omega), a1, gd_in (show w < 48 by omega) (by omega), nI_clamp (show w < 2 ^ 31 by omega), b2, m_kindAt hM (show x < R by omega) b3, ob1_some, gd_in (show w < 48 by omega) (by omega), b1, nI_p1, nI_p1]
        have := ih (x + 1) (by omega) (by omega)
        rw [cn] at this
        by_cases c : kr lt (nl (ndf nl N v)) x = kdf nl N v
        · have e : inS lt nl N v x = true := decide_eq_true c
          rw [if_pos (show nI (kr lt (nl (ndf nl N v)) x) = nI (kdf nl N v) by rw [c])]
          by_cases d : kr lt (nl (ndf nl N w)) x = kdf nl N w
          · have e2 : inS lt nl N w x = true := decide_eq_true d
            rw [e, e2, if_pos (by decide : (true && true) = true)] at this
            rw [if_pos (by rw [d])]; exact this
          · have e2 : inS lt nl N w x = false := decide_eq_false d
            rw [e, e2, if_neg (by decide)] at this
            rw [if_neg (fun q => d ((nI_eq (by omega) (by omega)).mp q))]; exact this
        · have e : inS lt nl N v x = false := decide_eq_false c
          rw [e, Bool.false_and, if_neg (by decide)] at this
          rw [if_neg (fun q => c ((nI_eq (by omega) (by omega)).mp q))]; exact this
  exact key 1000 0 (by omega) (by omega)
end COUNT
