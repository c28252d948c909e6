/-! 56.scan: the windows that a scan takes, for both -/
abbrev Hs : Type := List (Nat × Nat)
def freeB (hs : Hs) (i d : Nat) : Bool := hs.all (fun h => decide (i + d ≤ h.1) || decide (h.1 + h.2 ≤ i))
def takB (hs : Hs) (j : Nat) : Bool := hs.any (fun h => decide (h.1 ≤ j) && decide (j < h.1 + h.2))
def selStep (sv : Nat → Nat → Int32) (th : Int32) (s : Option (Nat × Nat)) (i d : Nat) (fr : Bool) : Option (Nat × Nat) :=
  if sv i d = (-1000000 : Int32) then s else if sv i d < th then s else
  match s with
  | none => if fr then some (i, d) else none
  | some q => if sv i d ≤ sv q.1 q.2 then some q else if fr then some (i, d) else some q
def sD (sv : Nat → Nat → Int32) (th : Int32) (fr : Nat → Bool) (i : Nat) : Nat → Nat → Option (Nat × Nat) → Option (Nat × Nat)
  | 0, _, s => s
  | n + 1, d, s => sD sv th fr i n (d + 1) (selStep sv th s i d (fr d))
def sI (sv : Nat → Nat → Int32) (th : Int32) (fr : Nat → Nat → Bool) (w T : Nat) : Nat → Nat → Option (Nat × Nat) → Option (Nat × Nat)
  | 0, _, s => s
  | n + 1, i, s => sI sv th fr w T n (i + 1) (sD sv th (fr i) i (min w (T - i)) 1 s)
def sel (sv : Nat → Nat → Int32) (th : Int32) (w T : Nat) (hs : Hs) : Option (Nat × Nat) := sI sv th (freeB hs) w T T 0 none
def scanS (sv : Nat → Nat → Int32) (th : Int32) (w T : Nat) : Nat → Hs → Hs
  | 0, hs => hs
  | n + 1, hs => match sel sv th w T hs with
    | none => hs
    | some q => scanS sv th w T n (hs ++ [q])
def cnt (P : Nat → Bool) : Nat → Nat
  | 0 => 0
  | n + 1 => cnt P n + (if P n then 1 else 0)
theorem cnt_mono {P Q : Nat → Bool} (h : ∀ j, P j = true → Q j = true) (n : Nat) : cnt P n ≤ cnt Q n := by
  induction n with
  | zero => exact Nat.le_refl _
  | succ n ih =>
    rw [cnt, cnt]
    by_cases hp : P n = true
    · rw [if_pos hp, if_pos (h n hp)]; omega
    · rw [if_neg hp]; omega
theorem cnt_less {P Q : Nat → Bool} (h : ∀ j, P j = true → Q j = true) {a : Nat} (ha : Q a = true) (hb : P a = false) : ∀ n, a < n → cnt P n + 1 ≤ cnt Q n := by
  intro n
  induction n with
  | zero => intro h; omega
  | succ n ih =>
    intro hn
    rw [cnt, cnt]
    by_cases e : a = n
    · subst e
      rw [if_pos ha, hb]
      have := cnt_mono h a
      simp
      omega
    · have := ih (by omega)
      by_cases hp : P n = true
      · rw [if_pos hp, if_pos (h n hp)]; omega
      · rw [if_neg hp]; omega
theorem cnt_le (P : Nat → Bool) (n : Nat) : cnt P n ≤ n := by
  induction n with
  | zero => exact Nat.le_refl _
  | succ n ih => rw [cnt]; split <;> omega
theorem cnt_pos {P : Nat → Bool} {a : Nat} (ha : P a = true) : ∀ n, a < n → 1 ≤ cnt P n := by
  intro n hn
  have := cnt_less (P := fun _ => false) (Q := P) (fun j h => by cases h) ha rfl n hn
  omega
def unt (hs : Hs) (T : Nat) : Nat := cnt (fun j => !takB hs j) T
theorem freeB_iff (hs : Hs) (hz : ∀ h ∈ hs, 1 ≤ h.2) (i d : Nat) (hd : 1 ≤ d) : freeB hs i d = true ↔ ∀ j, i ≤ j → j < i + d → takB hs j = false := by
  unfold freeB takB
  constructor
  · intro h j h1 h2
    rw [List.any_eq_false]
    intro x hx
    have := List.all_eq_true.mp h x hx
    simp only [Bool.or_eq_true, decide_eq_true_eq] at this
    simp only [Bool.and_eq_true, decide_eq_true_eq]
    omega
  · intro h
    rw [List.all_eq_true]
    intro x hx
    simp only [Bool.or_eq_true, decide_eq_true_eq]
    have hz1 := hz x hx
    refine Classical.byContradiction (fun hn => ?_)
    have hj := h (max i x.1) (by omega) (by omega)
    rw [List.any_eq_false] at hj
    have := hj x hx
    simp only [Bool.and_eq_true, decide_eq_true_eq] at this
    omega
theorem unt_less {hs : Hs} (hz : ∀ h ∈ hs, 1 ≤ h.2) {T a z : Nat} (hd : 1 ≤ z) (ha : a + z ≤ T) (hf : freeB hs a z = true) : unt (hs ++ [(a, z)]) T + 1 ≤ unt hs T := by
  unfold unt
  refine cnt_less (a := a) ?_ ?_ ?_ T (by omega)
  · intro j hj
    unfold takB at hj ⊢
    rw [List.any_append] at hj
    simp only [Bool.not_eq_true', Bool.or_eq_false_iff] at hj ⊢
    exact hj.1
  · have := (freeB_iff hs hz a z hd).mp hf a (Nat.le_refl _) (by omega)
    simp [this]
  · unfold takB
    simp
    exact fun _ => by omega
/-- what a chosen window is -/
def SelOk (sv : Nat → Nat → Int32) (w T : Nat) (fr : Nat → Nat → Bool) (s : Option (Nat × Nat)) : Prop := ∀ q, s = some q → 1 ≤ q.2 ∧ q.2 ≤ w ∧ q.1 + q.2 ≤ T ∧ fr q.1 q.2 = true ∧ sv q.1 q.2 ≠ (-1000000 : Int32)
theorem selStep_ok {sv : Nat → Nat → Int32} {th : Int32} {w T : Nat} {fr : Nat → Nat → Bool} {s : Option (Nat × Nat)} {i d : Nat} (h : SelOk sv w T fr s) (hd : 1 ≤ d) (hw : d ≤ w) (hT : i + d ≤ T) : SelOk sv w T fr (selStep sv th s i d (fr i d)) := by
  unfold selStep
  split
  · exact h
  · rename_i h1
    split
    · exact h
    · cases s with
      | none =>
        dsimp only
        split
        · rename_i h3
          intro q hq
          cases hq
          exact ⟨hd, hw, hT, h3, h1⟩
        · exact h
      | some q0 =>
        dsimp only
        split
        · exact h
        · split
          · rename_i h3
            intro q hq
            cases hq
            exact ⟨hd, hw, hT, h3, h1⟩
          · exact h
theorem sD_ok {sv : Nat → Nat → Int32} {th : Int32} {w T : Nat} {fr : Nat → Nat → Bool} {i : Nat} : ∀ (n d : Nat) (s : Option (Nat × Nat)), SelOk sv w T fr s → 1 ≤ d → d + n ≤ w + 1 → i + d + n ≤ T + 1 → SelOk sv w T fr (sD sv th (fr i) i n d s) := by
  intro n
  induction n with
  | zero => intro d s h _ _ _; exact h
  | succ n ih =>
    intro d s h h1 h2 h3
    rw [sD]
    exact ih (d + 1) _ (selStep_ok h h1 (by omega) (by omega)) (by omega) (by omega) (by omega)
theorem sI_ok {sv : Nat → Nat → Int32} {th : Int32} {w T : Nat} {fr : Nat → Nat → Bool} : ∀ (n i : Nat) (s : Option (Nat × Nat)), SelOk sv w T fr s → i + n ≤ T → SelOk sv w T fr (sI sv th fr w T n i s) := by
  intro n
  induction n with
  | zero => intro i s h _; exact h
  | succ n ih =>
    intro i s h h1
    rw [sI]
    exact ih (i + 1) _ (sD_ok _ _ _ h (by omega) (by omega) (by omega)) (by omega)
theorem sel_ok {sv : Nat → Nat → Int32} {th : Int32} {w T : Nat} {hs : Hs} : SelOk sv w T (freeB hs) (sel sv th w T hs) := sI_ok T 0 none (fun q h => by cases h) (by omega)
/-- windows that aren't free change nothing -/
theorem sD_cut {sv : Nat → Nat → Int32} {th : Int32} {fr : Nat → Bool} {i F : Nat} : ∀ (n d : Nat) (s : Option (Nat × Nat)), (∀ e, d ≤ e → e < d + n → (fr e = true ↔ e ≤ F)) → 1 ≤ d → F + 1 ≤ d + n → d ≤ F + 1 → sD sv th fr i n d s = sD sv th (fun _ => true) i (F + 1 - d) d s := by
  intro n
  induction n with
  | zero => intro d s h h1 h2 h3; rw [show F + 1 - d = 0 by omega]; rfl
  | succ n ih =>
    intro d s h h1 h2 h3
    by_cases hd : d ≤ F
    · rw [show F + 1 - d = (F + 1 - (d + 1)) + 1 by omega, sD, sD, (h d (by omega) (by omega)).mpr hd]
      exact ih (d + 1) _ (fun e h1 h2 => h e (by omega) (by omega)) (by omega) (by omega) (by omega)
    · rw [show F + 1 - d = 0 by omega]
      have key : ∀ (n d : Nat) (s : Option (Nat × Nat)), (∀ e, d ≤ e → e < d + n → fr e = false) → sD sv th fr i n d s = s := by
        intro n
        induction n with
        | zero => intro d s _; rfl
        | succ n ih2 =>
          intro d s hh
          rw [sD, hh d (by omega) (by omega), ih2 (d + 1) _ (fun e h1 h2 => hh e (by omega) (by omega))]
          unfold selStep
          split
          · rfl
          · split
            · rfl
            · cases s with
              | none => rfl
              | some q => dsimp only; split <;> rfl
      exact key (n + 1) d s (fun e h1 h2 => by
        cases hq : fr e with
        | false => rfl
        | true => have := (h e h1 h2).mp hq; omega)
def HsOk (w T : Nat) (hs : Hs) : Prop := ∀ h ∈ hs, 1 ≤ h.2 ∧ h.2 ≤ w ∧ h.1 + h.2 ≤ T
theorem scanS_stable {sv : Nat → Nat → Int32} {th : Int32} {w T : Nat} : ∀ (n m : Nat) (hs : Hs), HsOk w T hs → unt hs T ≤ n → unt hs T ≤ m → scanS sv th w T n hs = scanS sv th w T m hs := by
  have key0 : ∀ (m : Nat) (hs : Hs), HsOk w T hs → unt hs T = 0 → scanS sv th w T m hs = hs := by
    intro m hs hok h0
    cases m with
    | zero => rfl
    | succ m =>
      rw [scanS]
      cases hq : sel sv th w T hs with
      | none => rfl
      | some q =>
        have h1 := sel_ok (hs := hs) q hq
        have h2 := unt_less (hs := hs) (fun h hh => (hok h hh).1) h1.1 h1.2.2.1 h1.2.2.2.1
        omega
  intro n
  induction n with
  | zero => intro m hs hok h1 h2; rw [key0 m hs hok (by omega)]; rfl
  | succ n ih =>
    intro m hs hok h1 h2
    cases m with
    | zero => rw [key0 (n + 1) hs hok (by omega)]; rfl
    | succ m =>
      rw [scanS, scanS]
      cases hq : sel sv th w T hs with
      | none => rfl
      | some q =>
        have g1 := sel_ok (hs := hs) q hq
        have g2 : unt (hs ++ [q]) T + 1 ≤ unt hs T := unt_less (hs := hs) (fun h hh => (hok h hh).1) g1.1 g1.2.2.1 g1.2.2.2.1
        exact ih m (hs ++ [q]) (fun h hh => by
          rcases List.mem_append.mp hh with hh | hh
          · exact hok h hh
          · rw [List.mem_singleton.mp hh]; exact ⟨g1.1, g1.2.1, g1.2.2.1⟩) (by omega) (by omega)
