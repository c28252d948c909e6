/-! 70.nodes: how many nodes and states there are; what hangs on which node -/
def sk : Nat → List Nat := fun j => match j with
  | 0 => [0, 5, 6]
  | 1 => [2, 4, 5]
  | 2 => [3, 4, 6]
  | 3 => [1, 2, 3, 4, 5, 6]
  | 4 => [7]
  | 5 => [0]
  | 6 => [0, 5]
  | _ => [8]
def np (mk : Nat → Nat) : Nat → Nat
  | 0 => 0
  | x + 1 => np mk x + (if mk x = 40 then 1 else 0)
def stc : List Nd → Nat
  | [] => 0
  | x :: l => (sk x.1).length + stc l
theorem stc_app (l r : List Nd) : stc (l ++ r) = stc l + stc r := by
  induction l with
  | nil => simp [stc]
  | cons x l ih => show _ + stc (l ++ r) = _ + stc l + stc r; rw [ih]; omega
theorem np_step (mk : Nat → Nat) (i n : Nat) : np mk i ≤ np mk (i + n) ∧ 2 * (np mk (i + n) : Int) - dep mk (i + n) - (2 * np mk i - dep mk i) ≤ n := by
  induction n with
  | zero => exact ⟨Nat.le_refl _, by show 2 * (np mk i : Int) - dep mk i - (2 * np mk i - dep mk i) ≤ 0; omega⟩
  | succ n ih =>
    have h1 : np mk (i + (n + 1)) = np mk (i + n) + (if mk (i + n) = 40 then 1 else 0) := rfl
    have h2 : dep mk (i + (n + 1)) = dep mk (i + n) + dlt (mk (i + n)) := rfl
    rw [h1, h2]
    unfold dlt
    split
    · push_cast; omega
    · split <;> push_cast <;> omega
section NODES
variable {mk pr : Nat → Nat} {C : Nat} {P : Nat → Int32}
theorem np_le {i e : Nat} (h : i ≤ e) : np mk i ≤ np mk e := by
  obtain ⟨n, rfl⟩ : ∃ n, e = i + n := ⟨e - i, by omega⟩
  exact (np_step mk i n).1
theorem np_rg {i e : Nat} (h : Rg mk C i e) : 2 * np mk e ≤ 2 * np mk i + (e - i) := by
  obtain ⟨n, rfl⟩ : ∃ n, e = i + n := ⟨e - i, by have := h.1; omega⟩
  have := (np_step mk i n).2
  have := h.2.2.1
  omega
theorem np1 {x : Nat} (q : mk x = 40) : np mk (x + 1) = np mk x + 1 := by show np mk x + _ = _; rw [if_pos q]
theorem np0 {x : Nat} (q : ¬ mk x = 40) : np mk (x + 1) = np mk x := by show np mk x + _ = _; rw [if_neg q]; rfl
/-- the bounds of a part of the tree -/
def Bn (l : List Nd) (n p : Nat) : Prop := 1 ≤ l.length ∧ (p = 0 → l.length ≤ n + 1 ∧ stc l ≤ 3 * n + 1) ∧ (0 < p → l.length + 3 ≤ n + 3 * p ∧ stc l + 4 ≤ 3 * n + 5 * p)
theorem TR_bn (hP : HPr mk C P pr) : ∀ (f i e b : Nat), Rg mk C i e → e - i < f → Bn (TR mk pr f i e b) (e - i) (np mk e - np mk i) := by
  intro f
  induction f with
  | zero => intro i e b h1 h2; omega
  | succ f ih =>
    intro i e b hR hf
    have hRb := hR.1
    have hRc := hR.2.1
    by_cases c0 : e ≤ i
    · rw [TR_end c0, show e = i by omega]
      exact ⟨Nat.le_refl _, fun _ => ⟨by show 1 ≤ _; omega, by show 1 ≤ _; omega⟩, fun h => by omega⟩
    · obtain ⟨e, rfl⟩ : ∃ e', e = e' + 1 := ⟨e - 1, by omega⟩
      have hi : i ≤ e := by omega
      by_cases k46 : mk i = 46
      · rw [TR_left hi k46]
        have h1 := ih (i + 1) (e + 1) (b + 1) (rg_left hR hi k46) (by omega)
        rw [np0 (show ¬ mk i = 40 by omega)] at h1
        generalize TR mk pr f (i + 1) (e + 1) (b + 1) = l at h1 ⊢
        obtain ⟨g1, g2, g3⟩ := h1
        have hs : stc ((1, i, i, 0, l.length + 1) :: l) = 3 + stc l := rfl
        refine ⟨by simp, fun h => ?_, fun h => ?_⟩
        · rw [hs, List.length_cons]; have := g2 h; omega
        · rw [hs, List.length_cons]; have := g3 h; omega
      · have k40 : mk i = 40 := by rcases rg_i hR hi hP with h | h; exact absurd h k46; exact h
        have hpr := rg_pr hR hi hP k40
        by_cases e46 : mk e = 46
        · rw [TR_right hi k46 e46]
          have h1 := ih i e (b + 1) (rg_right hR hi e46) (by omega)
          rw [← np0 (show ¬ mk e = 40 by omega)] at h1
          generalize TR mk pr f i e (b + 1) = l at h1 ⊢
          obtain ⟨g1, g2, g3⟩ := h1
          have hs : stc ((2, e, e, 0, l.length + 1) :: l) = 3 + stc l := rfl
          refine ⟨by simp, fun h => ?_, fun h => ?_⟩
          · rw [hs, List.length_cons]; have := g2 h; omega
          · rw [hs, List.length_cons]; have := g3 h; omega
        · have e41 : mk e = 41 := by rcases rg_e hR hi hP with h | h; exact absurd h e46; exact h
          have hne : np mk (e + 1) = np mk e := np0 (by omega)
          have hni := np1 k40
          by_cases kp : pr i = e
          · rw [TR_both hi k46 e46 kp]
            have h1 := ih (i + 1) e (b + 1) (rg_both hR hi hP k40 kp) (by omega)
            have hle : np mk (i + 1) ≤ np mk e := np_le (by omega)
            generalize TR mk pr f (i + 1) e (b + 1) = l at h1 ⊢
            obtain ⟨g1, g2, g3⟩ := h1
            have hs : stc ((3, i, e, 0, l.length + 1) :: l) = 6 + stc l := rfl
            refine ⟨by simp, fun h => ?_, fun h => ?_⟩
            · omega
            · rw [hs, List.length_cons]
              by_cases z : np mk e - np mk (i + 1) = 0
              · have := g2 z; omega
              · have := g3 (by omega); omega
          · obtain ⟨a, ha⟩ : ∃ a, TR mk pr f i (pr i + 1) (b + 2) = a := ⟨_, rfl⟩
            obtain ⟨r, hr⟩ : ∃ r, TR mk pr f (pr i + 1) (e + 1) (b + 3 + a.length) = r := ⟨_, rfl⟩
            rw [TR_fork hi k46 e46 kp ha hr]
            have h1 := ih i (pr i + 1) (b + 2) (rg_f1 hR hi hP k40) (by omega)
            have h2 := ih (pr i + 1) (e + 1) (b + 3 + a.length) (rg_f2 hR hi hP k40) (by omega)
            rw [ha] at h1
            rw [hr] at h2
            have hp1 : np mk (i + 1) ≤ np mk (pr i + 1) := np_le (by omega)
            have hRf := rg_f2 hR hi hP k40
            have hp2 : np mk (pr i + 1) < np mk (e + 1) := by
              have q2 : np mk (pr i + 1) ≤ np mk e := np_le (by omega)
              rcases Nat.lt_or_ge (np mk (pr i + 1)) (np mk (e + 1)) with q | q
              · exact q
              · exfalso
                have q3 : np mk e = np mk (pr i + 1) := by omega
                have d1 := dep41 e41
                have d2 := hRf.2.2.1
                obtain ⟨n, hn⟩ : ∃ n, e = pr i + 1 + n := ⟨e - (pr i + 1), by omega⟩
                have key : ∀ n, np mk (pr i + 1 + n) = np mk (pr i + 1) → dep mk (pr i + 1 + n) ≤ dep mk (pr i + 1) := by
                  intro n
                  induction n with
                  | zero => intro _; exact Int.le_refl _
                  | succ n ihn =>
                    intro hh
                    have z1 : np mk (pr i + 1 + (n + 1)) = np mk (pr i + 1 + n) + (if mk (pr i + 1 + n) = 40 then 1 else 0) := rfl
                    have z2 : dep mk (pr i + 1 + (n + 1)) = dep mk (pr i + 1 + n) + dlt (mk (pr i + 1 + n)) := rfl
                    have z3 := (np_step mk (pr i + 1) n).1
                    by_cases z4 : mk (pr i + 1 + n) = 40
                    · rw [if_pos z4] at z1; omega
                    · rw [if_neg z4] at z1
                      have z5 := ihn (by omega)
                      have z6 : dlt (mk (pr i + 1 + n)) ≤ 0 := by unfold dlt; rw [if_neg z4]; split <;> omega
                      omega
                have := key n (by rw [← hn]; exact q3)
                rw [← hn] at this
                omega
            obtain ⟨g1, g2, g3⟩ := h1
            obtain ⟨j1, j2, j3⟩ := h2
            have hs : stc ((4, 0, 0, b + 2 + a.length, 3 + a.length + r.length) :: (5, 0, 0, 0, 1 + a.length) :: (a ++ (6, 0, 0, 0, 1 + r.length) :: r)) = 4 + stc a + stc r := by
              show 1 + (1 + stc (a ++ _ :: r)) = _
              rw [stc_app]
              show 1 + (1 + (stc a + (2 + stc r))) = _
              omega
            have hl : ((4, 0, 0, b + 2 + a.length, 3 + a.length + r.length) :: (5, 0, 0, 0, 1 + a.length) :: (a ++ (6, 0, 0, 0, 1 + r.length) :: r) : List Nd).length = 3 + a.length + r.length := by simp only [List.length_cons, List.length_append]; omega
            have y1 := g3 (by omega)
            have y2 := j3 (by omega)
            refine ⟨by omega, fun h => ?_, fun h => ?_⟩
            · omega
            · rw [hs, hl]; omega
/-- what a list of nodes says of a table of nodes -/
def Sg (nl : Nat → Nd) : Nat → List Nd → Prop
  | _, [] => True
  | b, x :: l => nl b = x ∧ Sg nl (b + 1) l
theorem Sg_app {nl : Nat → Nd} {b : Nat} {l r : List Nd} : Sg nl b (l ++ r) ↔ Sg nl b l ∧ Sg nl (b + l.length) r := by
  induction l generalizing b with
  | nil => exact ⟨fun h => ⟨trivial, h⟩, fun h => h.2⟩
  | cons x l ih =>
    show _ ∧ Sg nl (b + 1) (l ++ r) ↔ (_ ∧ Sg nl (b + 1) l) ∧ Sg nl (b + (l.length + 1)) r
    rw [ih, show b + 1 + l.length = b + (l.length + 1) by omega]
    exact ⟨fun h => ⟨⟨h.1, h.2.1⟩, h.2.2⟩, fun h => ⟨h.1.1, h.1.2, h.2⟩⟩
theorem Sg_self (l : List Nd) (d : Nd) : ∀ (pre : List Nd), Sg (fun n => (pre ++ l).getD n d) pre.length l := by
  induction l with
  | nil => intro pre; trivial
  | cons x l ih =>
    intro pre
    refine ⟨by simp, ?_⟩
    have := ih (pre ++ [x])
    rw [List.append_assoc] at this
    simpa using this
def NQ (nl : Nat → Nd) (C hi n : Nat) : Prop :=
  (1 ≤ (nl n).1 ∧ (nl n).1 ≤ 7) ∧ (1 ≤ (nl n).2.2.2.2 ∧ n + (nl n).2.2.2.2 ≤ hi) ∧ ((nl n).2.1 < 8 ∧ (nl n).2.2.1 < 8) ∧ ((nl n).1 ≤ 3 → (nl n).2.1 < C ∧ (nl n).2.2.1 < C) ∧ ((nl n).1 ≠ 7 → n + 1 < hi) ∧ ((nl n).1 ≠ 7 → (nl n).1 ≠ 4 → (nl (n + 1)).2.2.2.2 + 1 ≤ (nl n).2.2.2.2) ∧ ((nl n).1 = 4 → n + 1 < (nl n).2.2.2.1 ∧ (nl n).2.2.2.1 < hi ∧ 1 + (nl (n + 1)).2.2.2.2 + (nl (nl n).2.2.2.1).2.2.2.2 ≤ (nl n).2.2.2.2)
theorem NQ_mono {nl : Nat → Nd} {C hi hi' n : Nat} (h : NQ nl C hi n) (hh : hi ≤ hi') : NQ nl C hi' n :=
  ⟨h.1, ⟨h.2.1.1, by have := h.2.1.2; omega⟩, h.2.2.1, h.2.2.2.1, fun k => by have := h.2.2.2.2.1 k; omega, h.2.2.2.2.2.1, fun k => by have := h.2.2.2.2.2.2 k; exact ⟨this.1, by omega, this.2.2⟩⟩
theorem TR_ok (hC : C ≤ 8) (hP : HPr mk C P pr) {nl : Nat → Nd} : ∀ (f i e b : Nat), Rg mk C i e → e - i < f → Sg nl b (TR mk pr f i e b) → ((nl b).2.2.2.2 = (TR mk pr f i e b).length ∧ 1 ≤ (TR mk pr f i e b).length) ∧ ∀ n, b ≤ n → n < b + (TR mk pr f i e b).length → NQ nl C (b + (TR mk pr f i e b).length) n := by
  intro f
  induction f with
  | zero => intro i e b h1 h2; omega
  | succ f ih =>
    intro i e b hR hf hS
    have hRb := hR.1
    have hRc := hR.2.1
    by_cases c0 : e ≤ i
    · rw [TR_end c0] at hS ⊢
      have hb : nl b = (7, 0, 0, 0, 1) := hS.1
      refine ⟨⟨by rw [hb]; rfl, Nat.le_refl _⟩, fun n h1 h2 => ?_⟩
      have hn : n = b := by have h2 : n < b + 1 := h2; omega
      subst hn
      unfold NQ
      rw [hb]
      exact ⟨⟨by decide, by decide⟩, ⟨by decide, Nat.le_refl _⟩, ⟨by decide, by decide⟩, fun h => absurd h (by decide), fun h => absurd rfl h, fun h => absurd rfl h, nofun⟩
    · obtain ⟨e, rfl⟩ : ∃ e', e = e' + 1 := ⟨e - 1, by omega⟩
      have hi : i ≤ e := by omega
      have chain : ∀ (k x y : Nat) (l : List Nd), (k = 1 ∨ k = 2 ∨ k = 3) → x < C → y < C → Sg nl b ((k, x, y, 0, l.length + 1) :: l) → (((nl (b + 1)).2.2.2.2 = l.length ∧ 1 ≤ l.length) ∧ ∀ n, b + 1 ≤ n → n < b + 1 + l.length → NQ nl C (b + 1 + l.length) n) → ((nl b).2.2.2.2 = ((k, x, y, 0, l.length + 1) :: l : List Nd).length ∧ 1 ≤ ((k, x, y, 0, l.length + 1) :: l : List Nd).length) ∧ ∀ n, b ≤ n → n < b + ((k, x, y, 0, l.length + 1) :: l : List Nd).length → NQ nl C (b + ((k, x, y, 0, l.length + 1) :: l : List Nd).length) n := by
        intro k x y l hk hx hy hSg hrec
        obtain ⟨⟨g1, g2⟩, g3⟩ := hrec
        have hb : nl b = (k, x, y, 0, l.length + 1) := hSg.1
        simp only [List.length_cons]
        refine ⟨⟨by rw [hb], by omega⟩, fun n h1 h2 => ?_⟩
        by_cases en : n = b
        · subst en
          unfold NQ
          rw [hb, g1]
          exact ⟨⟨by show 1 ≤ k; omega, by show k ≤ 7; omega⟩, ⟨by show 1 ≤ l.length + 1; omega, Nat.le_refl _⟩, ⟨by show x < 8; omega, by show y < 8; omega⟩, fun _ => ⟨hx, hy⟩, fun _ => by omega, fun _ _ => Nat.le_refl _, fun h => by have h : k = 4 := h; omega⟩
        · exact NQ_mono (g3 n (by omega) (by omega)) (by omega)
      by_cases k46 : mk i = 46
      · rw [TR_left hi k46] at hS ⊢
        exact chain 1 i i _ (by omega) (by omega) (by omega) hS (ih (i + 1) (e + 1) (b + 1) (rg_left hR hi k46) (by omega) hS.2)
      · have k40 : mk i = 40 := by rcases rg_i hR hi hP with h | h; exact absurd h k46; exact h
        have hpr := rg_pr hR hi hP k40
        by_cases e46 : mk e = 46
        · rw [TR_right hi k46 e46] at hS ⊢
          exact chain 2 e e _ (by omega) (by omega) (by omega) hS (ih i e (b + 1) (rg_right hR hi e46) (by omega) hS.2)
        · by_cases kp : pr i = e
          · rw [TR_both hi k46 e46 kp] at hS ⊢
            exact chain 3 i e _ (by omega) (by omega) (by omega) hS (ih (i + 1) e (b + 1) (rg_both hR hi hP k40 kp) (by omega) hS.2)
          · obtain ⟨a, ha⟩ : ∃ a, TR mk pr f i (pr i + 1) (b + 2) = a := ⟨_, rfl⟩
            obtain ⟨r, hr⟩ : ∃ r, TR mk pr f (pr i + 1) (e + 1) (b + 3 + a.length) = r := ⟨_, rfl⟩
            rw [TR_fork hi k46 e46 kp ha hr] at hS ⊢
            have hl : ((4, 0, 0, b + 2 + a.length, 3 + a.length + r.length) :: (5, 0, 0, 0, 1 + a.length) :: (a ++ (6, 0, 0, 0, 1 + r.length) :: r) : List Nd).length = 3 + a.length + r.length := by simp only [List.length_cons, List.length_append]; omega
            rw [hl]
            obtain ⟨n4, n5, hS⟩ := hS
            have hS : Sg nl (b + 2) (a ++ (6, 0, 0, 0, 1 + r.length) :: r) := hS
            rw [Sg_app] at hS
            obtain ⟨Sa, n6, Sr⟩ := hS
            rw [show b + 2 + a.length + 1 = b + 3 + a.length by omega] at Sr
            have h1 := ih i (pr i + 1) (b + 2) (rg_f1 hR hi hP k40) (by omega)
            have h2 := ih (pr i + 1) (e + 1) (b + 3 + a.length) (rg_f2 hR hi hP k40) (by omega)
            rw [ha] at h1
            rw [hr] at h2
            obtain ⟨⟨g1, g2⟩, g3⟩ := h1 Sa
            obtain ⟨⟨j1, j2⟩, j3⟩ := h2 Sr
            refine ⟨⟨by rw [n4], by omega⟩, fun n y1 y2 => ?_⟩
            by_cases en : n = b
            · subst en
              unfold NQ
              rw [n4]
              refine ⟨⟨by show 1 ≤ 4; decide, by show 4 ≤ 7; decide⟩, ⟨by show 1 ≤ 3 + a.length + r.length; omega, Nat.le_refl _⟩, ⟨by show 0 < 8; decide, by show 0 < 8; decide⟩, fun h => absurd h (by show ¬ 4 ≤ 3; decide), fun _ => by omega, fun _ h => absurd rfl h, fun _ => ⟨by show n + 1 < n + 2 + a.length; omega, by show n + 2 + a.length < _; omega, ?_⟩⟩
              show 1 + (nl (n + 1)).2.2.2.2 + (nl (n + 2 + a.length)).2.2.2.2 ≤ 3 + a.length + r.length
              rw [n5, n6]
              show 1 + (1 + a.length) + (1 + r.length) ≤ _
              omega
            · by_cases en1 : n = b + 1
              · subst en1
                unfold NQ
                rw [n5, show b + 1 + 1 = b + 2 from rfl, g1]
                exact ⟨⟨by show 1 ≤ 5; decide, by show 5 ≤ 7; decide⟩, ⟨by show 1 ≤ 1 + a.length; omega, by show b + 1 + (1 + a.length) ≤ _; omega⟩, ⟨by show 0 < 8; decide, by show 0 < 8; decide⟩, fun h => absurd h (by show ¬ 5 ≤ 3; decide), fun _ => by omega, fun _ _ => by show a.length + 1 ≤ 1 + a.length; omega, nofun⟩
              · by_cases en2 : n = b + 2 + a.length
                · subst en2
                  unfold NQ
                  rw [n6, show b + 2 + a.length + 1 = b + 3 + a.length by omega, j1]
                  exact ⟨⟨by show 1 ≤ 6; decide, by show 6 ≤ 7; decide⟩, ⟨by show 1 ≤ 1 + r.length; omega, by show b + 2 + a.length + (1 + r.length) ≤ _; omega⟩, ⟨by show 0 < 8; decide, by show 0 < 8; decide⟩, fun h => absurd h (by show ¬ 6 ≤ 3; decide), fun _ => by omega, fun _ _ => by show r.length + 1 ≤ 1 + r.length; omega, nofun⟩
                · by_cases q : n < b + 2 + a.length
                  · exact NQ_mono (g3 n (by omega) (by omega)) (by omega)
                  · exact NQ_mono (j3 n (by omega) (by omega)) (by omega)
end NODES
