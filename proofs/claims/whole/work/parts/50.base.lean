/-! 50.base: numbers: nI, small ints, options as scores -/
theorem xin_nI {n N : Nat} (h : n < 2 ^ 31) : xin (nI n) N = decide (n < N) := by
  unfold xin
  rw [nI_clamp h]
  have : ¬ nI n < 0 := nI_pos h
  simp [this]
theorem gd_in {α : Type} {n N : Nat} {x : Option α} (h : n < N) (hN : N < 2 ^ 31) : gd (xin (nI n) N) x = x := by
  rw [xin_nI (by omega)]
  simp [h, gd]
theorem ob1_some {α γ : Type} (a : α) (k : α → Option γ) : ob1 (some a) k = k a := rfl
theorem ob2_some {α β γ : Type} (a : α) (b : β) (k : α → β → Option γ) : ob2 (some (a, b)) k = k a b := rfl
theorem ob3_some {α β δ γ : Type} (a : α) (b : β) (c : δ) (k : α → β → δ → Option γ) : ob3 (some (a, b, c)) k = k a b c := rfl
theorem ob4_some {α β δ ε γ : Type} (a : α) (b : β) (c : δ) (d : ε) (k : α → β → δ → ε → Option γ) : ob4 (some (a, b, c, d)) k = k a b c d := rfl
theorem ob5_some {α β δ ε ζ γ : Type} (a : α) (b : β) (c : δ) (d : ε) (e : ζ) (k : α → β → δ → ε → ζ → Option γ) : ob5 (some (a, b, c, d, e)) k = k a b c d e := rfl
theorem ob6_some {α β δ ε ζ η γ : Type} (a : α) (b : β) (c : δ) (d : ε) (e : ζ) (f : η) (k : α → β → δ → ε → ζ → η → Option γ) : ob6 (some (a, b, c, d, e, f)) k = k a b c d e f := rfl
theorem nI0 : (0 : Int32) = nI 0 := rfl
theorem nI1 : (1 : Int32) = nI 1 := rfl
theorem nI2 : (2 : Int32) = nI 2 := rfl
theorem nI3 : (3 : Int32) = nI 3 := rfl
theorem nI4 : (4 : Int32) = nI 4 := rfl
theorem nI5 : (5 : Int32) = nI 5 := rfl
theorem nI6 : (6 : Int32) = nI 6 := rfl
theorem nI7 : (7 : Int32) = nI 7 := rfl
theorem nI8 : (8 : Int32) = nI 8 := rfl
theorem nI12 : (12 : Int32) = nI 12 := rfl
theorem nI13 : (13 : Int32) = nI 13 := rfl
theorem nI16 : (16 : Int32) = nI 16 := rfl
theorem nI24 : (24 : Int32) = nI 24 := rfl
theorem nI25 : (25 : Int32) = nI 25 := rfl
theorem nI30 : (30 : Int32) = nI 30 := rfl
theorem nI100 : (100 : Int32) = nI 100 := rfl
theorem nI247 : (247 : Int32) = nI 247 := rfl
theorem nI325 : (325 : Int32) = nI 325 := rfl
theorem nI15600 : (15600 : Int32) = nI 15600 := rfl
/-- an index that is asked from outside: below 0, beyond, or a number in range -/
theorem ix_cases (x : Int32) {n : Nat} (hn : n < 2 ^ 31) : (x < 0) ∨ (¬ x < 0 ∧ nI n ≤ x) ∨ (∃ j : Nat, j < n ∧ x = nI j ∧ ¬ x < 0 ∧ ¬ nI n ≤ x) := by
  rcases pk_ix x hn with h | h | ⟨j, hj, rfl⟩
  · exact Or.inl h
  · by_cases h0 : x < 0
    · exact Or.inl h0
    · exact Or.inr (Or.inl ⟨h0, h⟩)
  · exact Or.inr (Or.inr ⟨j, hj, rfl, nI_pos (by omega), nI_ge hj hn⟩)
def i32 (z : Int) : Int32 := Int32.ofInt z
theorem i32_toInt {z : Int} (h1 : -1000000000 ≤ z) (h2 : z ≤ 1000000000) : (i32 z).toInt = z := by
  unfold i32
  rw [Int32.toInt_ofInt]
  exact Int.bmod_eq_of_le (by simp only [Int32.size]; omega) (by simp only [Int32.size]; omega)
theorem i32_add (a b : Int) : i32 a + i32 b = i32 (a + b) := (Int32.ofInt_add a b).symm
theorem i32_sub (a b : Int) : i32 a - i32 b = i32 (a - b) := (Int32.ofInt_sub a b).symm
theorem i32_nI (n : Nat) : nI n = i32 (n : Int) := rfl
theorem i32_lt {a b : Int} (ha1 : -1000000000 ≤ a) (ha2 : a ≤ 1000000000) (hb1 : -1000000000 ≤ b) (hb2 : b ≤ 1000000000) : i32 a < i32 b ↔ a < b := by
  rw [Int32.lt_iff_toInt_lt, i32_toInt ha1 ha2, i32_toInt hb1 hb2]
theorem i32_eq {a b : Int} (ha1 : -1000000000 ≤ a) (ha2 : a ≤ 1000000000) (hb1 : -1000000000 ≤ b) (hb2 : b ≤ 1000000000) : i32 a = i32 b ↔ a = b := by
  constructor
  · intro h
    have := congrArg Int32.toInt h
    rwa [i32_toInt ha1 ha2, i32_toInt hb1 hb2] at this
  · intro h; rw [h]
/-- a score or none -/
def enc : Option Int → Int32
  | none => -1000000
  | some z => i32 z
def Bd (b : Nat) (o : Option Int) : Prop := ∀ z, o = some z → -(b : Int) ≤ z ∧ z ≤ b
theorem Bd_none (b : Nat) : Bd b none := fun _ h => by cases h
theorem Bd_mono {a b : Nat} {o : Option Int} (h : Bd a o) (hab : a ≤ b) : Bd b o := fun z hz => ⟨by have := (h z hz).1; omega, by have := (h z hz).2; omega⟩
theorem enc_none : enc none = i32 (-1000000) := rfl
theorem enc_eq_none {b : Nat} (hb : b < 1000000) {o : Option Int} (h : Bd b o) : enc o = (-1000000 : Int32) ↔ o = none := by
  cases o with
  | none => exact ⟨fun _ => rfl, fun _ => rfl⟩
  | some z =>
    constructor
    · intro e
      have e : i32 z = i32 (-1000000) := e
      have := h z rfl
      rw [i32_eq (by omega) (by omega) (by omega) (by omega)] at e
      omega
    · intro e; cases e
theorem enc_inj {b : Nat} (hb : b < 1000000) {o o' : Option Int} (h : Bd b o) (h' : Bd b o') (e : enc o = enc o') : o = o' := by
  cases o with
  | none => exact ((enc_eq_none hb h').mp e.symm).symm
  | some z =>
    cases o' with
    | none => exact (enc_eq_none hb h).mp e
    | some z' =>
      have e : i32 z = i32 z' := e
      have := h z rfl
      have := h' z' rfl
      rw [i32_eq (by omega) (by omega) (by omega) (by omega)] at e
      rw [e]
def maxO : Option Int → Option Int → Option Int
  | none, y => y
  | some a, none => some a
  | some a, some b => some (if a < b then b else a)
def addO : Option Int → Option Int → Option Int
  | some a, some b => some (a + b)
  | _, _ => none
def plusO (o : Option Int) (z : Int) : Option Int := o.map (· + z)
def leO : Option Int → Option Int → Prop
  | none, _ => True
  | some _, none => False
  | some a, some b => a ≤ b
theorem leO_refl (o : Option Int) : leO o o := by cases o with
  | none => trivial
  | some a => exact Int.le_refl a
theorem leO_trans {a b c : Option Int} (h1 : leO a b) (h2 : leO b c) : leO a c := by
  cases a <;> cases b <;> cases c <;> simp_all [leO] <;> omega
theorem leO_anti {a b : Option Int} (h1 : leO a b) (h2 : leO b a) : a = b := by
  cases a <;> cases b <;> simp_all [leO] <;> omega
theorem leO_max {a b a' b' : Option Int} (h1 : leO a a') (h2 : leO b b') : leO (maxO a b) (maxO a' b') := by
  cases a <;> cases b <;> cases a' <;> cases b' <;> simp_all [leO, maxO] <;> (repeat' split) <;> omega
theorem leO_add {a b a' b' : Option Int} (h1 : leO a a') (h2 : leO b b') : leO (addO a b) (addO a' b') := by
  cases a <;> cases b <;> cases a' <;> cases b' <;> simp_all [leO, addO] <;> omega
theorem leO_plus {a a' : Option Int} {z : Int} (h1 : leO a a') : leO (plusO a z) (plusO a' z) := by
  cases a <;> cases a' <;> simp_all [leO, plusO] <;> omega
theorem Bd_max {b : Nat} {x y : Option Int} (hx : Bd b x) (hy : Bd b y) : Bd b (maxO x y) := by
  intro z hz
  cases x with
  | none => exact hy z hz
  | some a =>
    cases y with
    | none => exact hx z hz
    | some c =>
      have h1 := hx a rfl
      have h2 := hy c rfl
      simp only [maxO, Option.some.injEq] at hz
      split at hz <;> subst hz <;> assumption
theorem Bd_add {a b : Nat} {x y : Option Int} (hx : Bd a x) (hy : Bd b y) : Bd (a + b) (addO x y) := by
  intro z hz
  cases x with
  | none => cases hz
  | some c =>
    cases y with
    | none => cases hz
    | some d =>
      have h1 := hx c rfl
      have h2 := hy d rfl
      simp only [addO, Option.some.injEq] at hz
      subst hz
      omega
theorem Bd_plus {a k : Nat} {x : Option Int} {z : Int} (hx : Bd a x) (h1 : -(k : Int) ≤ z) (h2 : z ≤ k) : Bd (a + k) (plusO x z) := by
  intro y hy
  cases x with
  | none => cases hy
  | some c =>
    have h3 := hx c rfl
    simp only [plusO, Option.map_some, Option.some.injEq] at hy
    subst hy
    omega
theorem enc_lt {b : Nat} (hb : b < 1000000) {x y : Option Int} (hx : Bd b x) (hy : Bd b y) : enc x < enc y ↔ ¬ leO y x := by
  cases x with
  | none =>
    cases y with
    | none => simp [leO]
    | some c =>
      have := hy c rfl
      show i32 (-1000000) < i32 c ↔ _
      rw [i32_lt (by omega) (by omega) (by omega) (by omega)]
      simp only [leO]
      constructor
      · intro _ h; exact h
      · intro _; omega
  | some a =>
    have h1 := hx a rfl
    cases y with
    | none =>
      show i32 a < i32 (-1000000) ↔ _
      rw [i32_lt (by omega) (by omega) (by omega) (by omega)]
      simp only [leO]
      constructor
      · intro h; omega
      · intro h; exact absurd trivial h
    | some c =>
      have := hy c rfl
      show i32 a < i32 c ↔ _
      rw [i32_lt (by omega) (by omega) (by omega) (by omega)]
      simp only [leO]
      omega
theorem imax_enc {b : Nat} (hb : b < 1000000) {x y : Option Int} (hx : Bd b x) (hy : Bd b y) : imax (enc x) (enc y) = enc (maxO x y) := by
  unfold imax
  by_cases h : enc x < enc y
  · rw [if_pos h]
    rw [enc_lt hb hx hy] at h
    cases x with
    | none => rfl
    | some a =>
      cases y with
      | none => exact absurd trivial h
      | some c =>
        simp only [leO] at h
        simp only [maxO]
        rw [if_pos (by omega)]
  · rw [if_neg h]
    rw [enc_lt hb hx hy] at h
    cases x with
    | none =>
      cases y with
      | none => rfl
      | some c => exact absurd (fun h' => by simp [leO] at h') h
    | some a =>
      cases y with
      | none => rfl
      | some c =>
        simp only [leO] at h
        simp only [maxO]
        rw [if_neg (by omega)]
/-- the greatest of the first n -/
def mxf (f : Nat → Option Int) : Nat → Option Int
  | 0 => none
  | k + 1 => maxO (mxf f k) (f k)
theorem mxf_congr {f g : Nat → Option Int} {n : Nat} (h : ∀ k, k < n → f k = g k) : mxf f n = mxf g n := by
  induction n with
  | zero => rfl
  | succ n ih => rw [mxf, mxf, ih (fun k hk => h k (by omega)), h n (by omega)]
theorem mxf_le {f g : Nat → Option Int} {n : Nat} (h : ∀ k, k < n → leO (f k) (g k)) : leO (mxf f n) (mxf g n) := by
  induction n with
  | zero => trivial
  | succ n ih => rw [mxf, mxf]; exact leO_max (ih (fun k hk => h k (by omega))) (h n (by omega))
theorem mxf_bd {f : Nat → Option Int} {n b : Nat} (h : ∀ k, k < n → Bd b (f k)) : Bd b (mxf f n) := by
  induction n with
  | zero => exact Bd_none b
  | succ n ih => rw [mxf]; exact Bd_max (ih (fun k hk => h k (by omega))) (h n (by omega))
theorem mxf_none {f : Nat → Option Int} {n : Nat} (h : ∀ k, k < n → f k = none) : mxf f n = none := by
  induction n with
  | zero => rfl
  | succ n ih => rw [mxf, ih (fun k hk => h k (by omega)), h n (by omega)]; rfl
theorem mxf_ext {f : Nat → Option Int} {n m : Nat} (hnm : n ≤ m) (h : ∀ k, n ≤ k → k < m → f k = none) : mxf f m = mxf f n := by
  induction m with
  | zero => rw [show n = 0 by omega]
  | succ m ih =>
    by_cases e : n = m + 1
    · rw [e]
    · rw [mxf, h m (by omega) (by omega), ih (by omega) (fun k h1 h2 => h k h1 (by omega))]
      cases mxf f n <;> rfl
theorem mxf_plus {f : Nat → Option Int} {z : Int} (n : Nat) : mxf (fun k => plusO (f k) z) n = plusO (mxf f n) z := by
  induction n with
  | zero => rfl
  | succ n ih =>
    rw [mxf, mxf, ih]
    cases mxf f n with
    | none => rfl
    | some a =>
      cases f n with
      | none => rfl
      | some c =>
        simp only [plusO, Option.map_some, maxO, Option.some.injEq]
        split <;> split <;> omega
