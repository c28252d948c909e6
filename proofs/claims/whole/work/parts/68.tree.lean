/-! 68.tree: the tree of the columns as a list of nodes (kind, left, right, second, size of what hangs there), and the class's tree -/
abbrev Nd := Nat × Nat × Nat × Nat × Nat
def TR (mk pr : Nat → Nat) : Nat → Nat → Nat → Nat → List Nd
  | 0, _, _, _ => []
  | f + 1, i, e, b =>
    if e ≤ i then [(7, 0, 0, 0, 1)]
    else if mk i = 46 then (1, i, i, 0, (TR mk pr f (i + 1) e (b + 1)).length + 1) :: TR mk pr f (i + 1) e (b + 1)
    else if mk (e - 1) = 46 then (2, e - 1, e - 1, 0, (TR mk pr f i (e - 1) (b + 1)).length + 1) :: TR mk pr f i (e - 1) (b + 1)
    else if pr i = e - 1 then (3, i, e - 1, 0, (TR mk pr f (i + 1) (e - 1) (b + 1)).length + 1) :: TR mk pr f (i + 1) (e - 1) (b + 1)
    else (4, 0, 0, b + 2 + (TR mk pr f i (pr i + 1) (b + 2)).length, 3 + (TR mk pr f i (pr i + 1) (b + 2)).length + (TR mk pr f (pr i + 1) e (b + 3 + (TR mk pr f i (pr i + 1) (b + 2)).length)).length) ::
      (5, 0, 0, 0, 1 + (TR mk pr f i (pr i + 1) (b + 2)).length) :: (TR mk pr f i (pr i + 1) (b + 2) ++
        (6, 0, 0, 0, 1 + (TR mk pr f (pr i + 1) e (b + 3 + (TR mk pr f i (pr i + 1) (b + 2)).length)).length) :: TR mk pr f (pr i + 1) e (b + 3 + (TR mk pr f i (pr i + 1) (b + 2)).length))
def Rg (mk : Nat → Nat) (C i e : Nat) : Prop := i ≤ e ∧ e ≤ C ∧ dep mk e = dep mk i ∧ ∀ y, i ≤ y → y ≤ e → dep mk i ≤ dep mk y
/-- the partners, as a function of numbers -/
def HPr (mk : Nat → Nat) (C : Nat) (P : Nat → Int32) (pr : Nat → Nat) : Prop := ∀ c, c < C → (mk c = 40 ∨ mk c = 41 ∨ mk c = 46) ∧ (mk c = 46 → P c = (-1 : Int32)) ∧ (mk c = 40 → Mt mk c (pr c) ∧ pr c < C ∧ P c = nI (pr c)) ∧ (mk c = 41 → ∃ p, p < C ∧ P c = nI p)
section TREE
variable {mk pr : Nat → Nat} {C : Nat} {P : Nat → Int32}
theorem rg_i {i e : Nat} (h : Rg mk C i (e + 1)) (hi : i ≤ e) (hP : HPr mk C P pr) : mk i = 46 ∨ mk i = 40 := by
  rcases (hP i (by have := h.2.1; omega)).1 with q | q | q
  · exact Or.inr q
  · have h1 : dep mk (i + 1) = dep mk i + dlt (mk i) := rfl
    rw [q] at h1
    have h2 : dep mk (i + 1) = dep mk i + -1 := h1
    have := h.2.2.2 (i + 1) (by omega) (by omega)
    omega
  · exact Or.inl q
theorem rg_e {i e : Nat} (h : Rg mk C i (e + 1)) (hi : i ≤ e) (hP : HPr mk C P pr) : mk e = 46 ∨ mk e = 41 := by
  rcases (hP e (by have := h.2.1; omega)).1 with q | q | q
  · have h1 : dep mk (e + 1) = dep mk e + dlt (mk e) := rfl
    rw [q] at h1
    have h2 : dep mk (e + 1) = dep mk e + 1 := h1
    have := h.2.2.2 e (by omega) (by omega)
    have := h.2.2.1
    omega
  · exact Or.inr q
  · exact Or.inl q
theorem dep46 {x : Nat} (q : mk x = 46) : dep mk (x + 1) = dep mk x := by
  have h1 : dep mk (x + 1) = dep mk x + dlt (mk x) := rfl
  rw [q] at h1; rw [h1]; show _ + 0 = _; omega
theorem dep40 {x : Nat} (q : mk x = 40) : dep mk (x + 1) = dep mk x + 1 := by
  have h1 : dep mk (x + 1) = dep mk x + dlt (mk x) := rfl
  rw [q] at h1; exact h1
theorem dep41 {x : Nat} (q : mk x = 41) : dep mk (x + 1) = dep mk x - 1 := by
  have h1 : dep mk (x + 1) = dep mk x + dlt (mk x) := rfl
  rw [q] at h1; exact h1
theorem rg_left {i e : Nat} (h : Rg mk C i (e + 1)) (hi : i ≤ e) (q : mk i = 46) : Rg mk C (i + 1) (e + 1) :=
  ⟨by omega, h.2.1, by rw [dep46 q]; exact h.2.2.1, fun y h1 h2 => by rw [dep46 q]; exact h.2.2.2 y (by omega) h2⟩
theorem rg_right {i e : Nat} (h : Rg mk C i (e + 1)) (hi : i ≤ e) (q : mk e = 46) : Rg mk C i e :=
  ⟨hi, by have := h.2.1; omega, by rw [← dep46 q]; exact h.2.2.1, fun y h1 h2 => h.2.2.2 y h1 (by omega)⟩
theorem rg_pr {i e : Nat} (h : Rg mk C i (e + 1)) (hi : i ≤ e) (hP : HPr mk C P pr) (q : mk i = 40) : i < pr i ∧ pr i ≤ e := by
  obtain ⟨hm, -, -⟩ := (hP i (by have := h.2.1; omega)).2.2.1 q
  refine ⟨hm.1, ?_⟩
  by_cases c : pr i ≤ e
  · exact c
  · have := hm.2.2.2.2 (e + 1) (by omega) (by omega)
    have := h.2.2.1
    omega
theorem rg_both {i e : Nat} (h : Rg mk C i (e + 1)) (hi : i ≤ e) (hP : HPr mk C P pr) (q : mk i = 40) (hk : pr i = e) : Rg mk C (i + 1) e := by
  obtain ⟨hm, -, -⟩ := (hP i (by have := h.2.1; omega)).2.2.1 q
  have h1 := rg_pr h hi hP q
  rw [hk] at hm h1
  have h41 := hm.2.2.1
  refine ⟨by omega, by have := h.2.1; omega, ?_, fun y y1 y2 => ?_⟩
  · have := dep41 h41
    have := dep40 q
    have := h.2.2.1
    omega
  · have := dep40 q
    have := hm.2.2.2.2 y (by omega) y2
    omega
theorem rg_f1 {i e : Nat} (h : Rg mk C i (e + 1)) (hi : i ≤ e) (hP : HPr mk C P pr) (q : mk i = 40) : Rg mk C i (pr i + 1) := by
  obtain ⟨hm, -, -⟩ := (hP i (by have := h.2.1; omega)).2.2.1 q
  have h1 := rg_pr h hi hP q
  exact ⟨by omega, by have := h.2.1; omega, hm.2.2.2.1, fun y y1 y2 => h.2.2.2 y y1 (by omega)⟩
theorem rg_f2 {i e : Nat} (h : Rg mk C i (e + 1)) (hi : i ≤ e) (hP : HPr mk C P pr) (q : mk i = 40) : Rg mk C (pr i + 1) (e + 1) := by
  obtain ⟨hm, -, -⟩ := (hP i (by have := h.2.1; omega)).2.2.1 q
  have h1 := rg_pr h hi hP q
  have h2 := hm.2.2.2.1
  exact ⟨by omega, h.2.1, by rw [h2]; exact h.2.2.1, fun y y1 y2 => by rw [h2]; exact h.2.2.2 y (by omega) y2⟩
theorem TR_end {f i e b : Nat} (h : e ≤ i) : TR mk pr (f + 1) i e b = [(7, 0, 0, 0, 1)] := by rw [TR, if_pos h]
theorem TR_left {f i e b : Nat} (h : i ≤ e) (q : mk i = 46) : TR mk pr (f + 1) i (e + 1) b = (1, i, i, 0, (TR mk pr f (i + 1) (e + 1) (b + 1)).length + 1) :: TR mk pr f (i + 1) (e + 1) (b + 1) := by
  rw [TR, if_neg (by omega), if_pos q]
theorem TR_right {f i e b : Nat} (h : i ≤ e) (q : ¬ mk i = 46) (q2 : mk e = 46) : TR mk pr (f + 1) i (e + 1) b = (2, e, e, 0, (TR mk pr f i e (b + 1)).length + 1) :: TR mk pr f i e (b + 1) := by
  rw [TR, if_neg (by omega), if_neg q, Nat.add_sub_cancel, if_pos q2]
theorem TR_both {f i e b : Nat} (h : i ≤ e) (q : ¬ mk i = 46) (q2 : ¬ mk e = 46) (k : pr i = e) : TR mk pr (f + 1) i (e + 1) b = (3, i, e, 0, (TR mk pr f (i + 1) e (b + 1)).length + 1) :: TR mk pr f (i + 1) e (b + 1) := by
  rw [TR, if_neg (by omega), if_neg q, Nat.add_sub_cancel, if_neg q2, if_pos k]
theorem TR_fork {f i e b : Nat} (h : i ≤ e) (q : ¬ mk i = 46) (q2 : ¬ mk e = 46) (k : ¬ pr i = e) {a r : List Nd} (ha : TR mk pr f i (pr i + 1) (b + 2) = a) (hr : TR mk pr f (pr i + 1) (e + 1) (b + 3 + a.length) = r) :
    TR mk pr (f + 1) i (e + 1) b = (4, 0, 0, b + 2 + a.length, 3 + a.length + r.length) :: (5, 0, 0, 0, 1 + a.length) :: (a ++ (6, 0, 0, 0, 1 + r.length) :: r) := by
  rw [TR, if_neg (by omega), if_neg q, Nat.add_sub_cancel, if_neg q2, if_neg k, ha, hr]
/-- a list written into an array from a place on -/
def wr : (Nat → Int32) → Nat → List Int32 → Nat → Int32
  | K, _, [] => K
  | K, b, x :: l => wr (upd K b x) (b + 1) l
theorem wr_app (K : Nat → Int32) (b : Nat) (l r : List Int32) : wr K b (l ++ r) = wr (wr K b l) (b + l.length) r := by
  induction l generalizing K b with
  | nil => rfl
  | cons x l ih =>
    show wr (upd K b x) (b + 1) (l ++ r) = wr (wr (upd K b x) (b + 1) l) (b + (l.length + 1)) r
    rw [ih, show b + 1 + l.length = b + (l.length + 1) by omega]
theorem wr_lt {K : Nat → Int32} {b x : Nat} {l : List Int32} (h : x < b) : wr K b l x = K x := by
  induction l generalizing K b with
  | nil => rfl
  | cons y l ih =>
    show wr (upd K b y) (b + 1) l x = K x
    rw [ih (by omega), pk_un (by omega)]
theorem wr_at {K : Nat → Int32} {b j : Nat} {l : List Int32} (h : j < l.length) : wr K b l (b + j) = l.getD j 0 := by
  induction l generalizing K b j with
  | nil => exact absurd h (Nat.not_lt_zero _)
  | cons y l ih =>
    show wr (upd K b y) (b + 1) l (b + j) = _
    cases j with
    | zero => rw [wr_lt (by omega), Nat.add_zero, pk_us]; rfl
    | succ j =>
      rw [show b + (j + 1) = b + 1 + j by omega, ih (by simpa using h)]
      rfl
def kI (x : Nd) : Int32 := nI x.1
def lI (x : Nd) : Int32 := if x.1 = 1 ∨ x.1 = 3 then nI x.2.1 else (-1)
def rI (x : Nd) : Int32 := if x.1 = 2 ∨ x.1 = 3 then nI x.2.2.1 else (-1)
def fI (x : Nd) : Int32 := nI x.2.1
def tI (x : Nd) : Int32 := nI x.2.2.1
def Sc (Q : Nat → Int32) : Nat → List Nd → Prop
  | _, [] => True
  | b, x :: l => (x.1 = 4 → Q b = nI x.2.2.2.1) ∧ Sc Q (b + 1) l
theorem Sc_app {Q : Nat → Int32} {b : Nat} {l r : List Nd} : Sc Q b (l ++ r) ↔ Sc Q b l ∧ Sc Q (b + l.length) r := by
  induction l generalizing b with
  | nil => exact ⟨fun h => ⟨trivial, h⟩, fun h => h.2⟩
  | cons x l ih =>
    show _ ∧ Sc Q (b + 1) (l ++ r) ↔ (_ ∧ Sc Q (b + 1) l) ∧ Sc Q (b + (l.length + 1)) r
    rw [ih, show b + 1 + l.length = b + (l.length + 1) by omega]
    exact ⟨fun h => ⟨⟨h.1, h.2.1⟩, h.2.2⟩, fun h => ⟨h.1.1, h.1.2, h.2⟩⟩
theorem Sc_congr {Q Q' : Nat → Int32} {b : Nat} {l : List Nd} (h : ∀ x, b ≤ x → x < b + l.length → Q' x = Q x) (hs : Sc Q b l) : Sc Q' b l := by
  induction l generalizing b with
  | nil => trivial
  | cons x l ih =>
    refine ⟨fun k => by rw [h b (Nat.le_refl _) (by simp)]; exact hs.1 k, ih (fun y h1 h2 => h y (by omega) (by simp only [List.length_cons]; omega)) hs.2⟩
theorem Sc_at {Q : Nat → Int32} {b j : Nat} {l : List Nd} {d : Nd} (hs : Sc Q b l) (h : j < l.length) (k : (l.getD j d).1 = 4) : Q (b + j) = nI (l.getD j d).2.2.2.1 := by
  induction l generalizing b j with
  | nil => exact absurd h (Nat.not_lt_zero _)
  | cons x l ih =>
    cases j with
    | zero => exact hs.1 k
    | succ j => rw [show b + (j + 1) = b + 1 + j by omega]; exact ih hs.2 (by simpa using h) k
theorem i32_e (e : Nat) : i32 (((e + 1 : Nat) : Int) - 1) = nI e := by rw [i32_nI, show ((e + 1 : Nat) : Int) - 1 = (e : Int) by push_cast; omega]
theorem nI_m1 (e : Nat) : nI e - (1 : Int32) = i32 ((e : Int) - 1) := i32_sub e 1
theorem le_e {i e : Nat} (hi : i ≤ 8) (he : e ≤ 8) : nI i ≤ i32 ((e : Int) - 1) ↔ i < e := by
  rw [i32_nI, Int32.le_iff_toInt_le, i32_toInt (by omega) (by omega), i32_toInt (by omega) (by omega)]
  omega
theorem isP {c : Nat} (hC : C ≤ 8) (hP : HPr mk C P pr) (hc : c < C) : f_Co_isPaired P (nI c) = some (if mk c = 46 then 0 else 1) := by
  unfold f_Co_isPaired
  rw [gd_in (show c < 8 by omega) (by omega), nI_clamp (show c < 2 ^ 31 by omega)]
  obtain ⟨h0, h1, h2, h3⟩ := hP c hc
  have hne : ∀ p, p < C → ¬ nI p = (-1 : Int32) := fun p hp q => by
    have : ¬ nI p < 0 := nI_pos (by omega)
    rw [q] at this
    exact this (by decide)
  rcases h0 with q | q | q
  · rw [if_neg (show ¬ mk c = 46 by omega), (h2 q).2.2, if_neg (hne _ (h2 q).2.1)]
  · obtain ⟨p, hp, e⟩ := h3 q
    rw [if_neg (show ¬ mk c = 46 by omega), e, if_neg (hne _ hp)]
  · rw [if_pos q, h1 q, if_pos rfl]
theorem c_tradd {K L R : Nat → Int32} {b : Nat} {a1 a2 a3 : Int32} (hb : b < 18) : f_Tr_add K L R (nI b) a1 a2 a3 = some (upd K b a1, upd L b a2, upd R b a3, nI (b + 1)) := by
  unfold f_Tr_add
  rw [gd_in hb (by omega), gd_in hb (by omega), gd_in hb (by omega), nI_clamp (by omega), nI_p1]
theorem c_grow (hC : C ≤ 8) (hP : HPr mk C P pr) : ∀ (f i e b q : Nat) (K L R Q : Nat → Int32), Rg mk C i e → e - i < f → q + (e - i) ≤ 8 → b + (TR mk pr f i e b).length ≤ 18 →
    ∃ Q', f_Tr_growPart f P K L R Q (nI b) (nI i) (i32 ((e : Int) - 1)) (nI q) = some (wr K b ((TR mk pr f i e b).map kI), wr L b ((TR mk pr f i e b).map lI), wr R b ((TR mk pr f i e b).map rI), Q', nI (b + (TR mk pr f i e b).length)) ∧ (∀ x, x < b → Q' x = Q x) ∧ Sc Q' b (TR mk pr f i e b) := by
  intro f
  induction f with
  | zero => intro i e b q K L R Q h1 h2; omega
  | succ f ih =>
    intro i e b q K L R Q hR hf hq hN
    have hRb := hR.1
    have hRc := hR.2.1
    rw [f_Tr_growPart, nI8, if_pos ((nI_leI (by omega) (by omega)).mpr (show q ≤ 8 by omega))]
    by_cases c0 : e ≤ i
    · rw [if_neg (fun h => by rw [le_e (by omega) (by omega)] at h; omega), TR_end c0]
      rw [TR_end c0] at hN
      have hN : b + 1 ≤ 18 := hN
      rw [c_tradd (by omega), ob4_some]
      exact ⟨Q, rfl, fun _ _ => rfl, fun h => absurd h (by decide), trivial⟩
    · obtain ⟨e, rfl⟩ : ∃ e', e = e' + 1 := ⟨e - 1, by omega⟩
      have hi : i ≤ e := by omega
      have hb18 : ∀ n, b + (n + 1) ≤ 18 → b < 18 := fun n h => by omega
      rw [if_pos ((le_e (by omega) (by omega)).mpr (by omega)), i32_e, isP hC hP (show i < C by omega), ob1_some]
      by_cases k46 : mk i = 46
      · rw [TR_left hi k46] at hN ⊢
        simp only [List.length_cons] at hN
        rw [if_pos k46, if_pos rfl, c_tradd (hb18 _ hN), ob4_some, nI_p1, nI_p1]
        obtain ⟨Q', h1, h2, h3⟩ := ih (i + 1) (e + 1) (b + 1) (q + 1) (upd K b 1) (upd L b (nI i)) (upd R b (-1)) Q (rg_left hR hi k46) (by omega) (by omega) (by omega)
        rw [i32_e] at h1
        rw [h1, ob5_some]
        refine ⟨Q', ?_, fun x hx => h2 x (by omega), nofun, h3⟩
        rw [List.length_cons, show b + ((TR mk pr f (i + 1) (e + 1) (b + 1)).length + 1) = b + 1 + (TR mk pr f (i + 1) (e + 1) (b + 1)).length by omega]
        rfl
      · have k40 : mk i = 40 := by rcases rg_i hR hi hP with h | h; exact absurd h k46; exact h
        have hpr := rg_pr hR hi hP k40
        have hPi := (hP i (by omega)).2.2.1 k40
        rw [if_neg k46, if_neg (by decide : ¬ (1 : Int32) = 0), isP hC hP (show e < C by omega), ob1_some]
        by_cases e46 : mk e = 46
        · rw [TR_right hi k46 e46] at hN ⊢
          simp only [List.length_cons] at hN
          rw [if_pos e46, if_pos rfl, c_tradd (hb18 _ hN), ob4_some, nI_p1, nI_m1]
          obtain ⟨Q', h1, h2, h3⟩ := ih i e (b + 1) (q + 1) (upd K b 2) (upd L b (-1)) (upd R b (nI e)) Q (rg_right hR hi e46) (by omega) (by omega) (by omega)
          rw [h1, ob5_some]
          refine ⟨Q', ?_, fun x hx => h2 x (by omega), nofun, h3⟩
          rw [List.length_cons, show b + ((TR mk pr f i e (b + 1)).length + 1) = b + 1 + (TR mk pr f i e (b + 1)).length by omega]
          rfl
        · have hpart : f_Co_partner P (nI i) = some (nI (pr i)) := by
            unfold f_Co_partner
            rw [gd_in (show i < 8 by omega) (by omega), nI_clamp (show i < 2 ^ 31 by omega), hPi.2.2]
          rw [if_neg e46, if_neg (by decide : ¬ (1 : Int32) = 0), hpart, ob1_some]
          by_cases kp : pr i = e
          · rw [TR_both hi k46 e46 kp] at hN ⊢
            simp only [List.length_cons] at hN
            rw [if_pos (by rw [kp]), c_tradd (hb18 _ hN), ob4_some, nI_p1, nI_p1, nI_m1]
            obtain ⟨Q', h1, h2, h3⟩ := ih (i + 1) e (b + 1) (q + 1) (upd K b 3) (upd L b (nI i)) (upd R b (nI e)) Q (rg_both hR hi hP k40 kp) (by omega) (by omega) (by omega)
            rw [h1, ob5_some]
            refine ⟨Q', ?_, fun x hx => h2 x (by omega), nofun, h3⟩
            rw [List.length_cons, show b + ((TR mk pr f (i + 1) e (b + 1)).length + 1) = b + 1 + (TR mk pr f (i + 1) e (b + 1)).length by omega]
            rfl
          · rw [if_neg (fun h => kp ((nI_eq (by omega) (by omega)).mp h))]
            unfold f_Tr_growFork
            obtain ⟨a, ha⟩ : ∃ a, TR mk pr f i (pr i + 1) (b + 2) = a := ⟨_, rfl⟩
            obtain ⟨r, hr⟩ : ∃ r, TR mk pr f (pr i + 1) (e + 1) (b + 3 + a.length) = r := ⟨_, rfl⟩
            rw [TR_fork hi k46 e46 kp ha hr] at hN ⊢
            simp only [List.length_cons, List.length_append] at hN
            rw [hpart, ob1_some, c_tradd (show b < 18 by omega), ob4_some, c_tradd (show b + 1 < 18 by omega), ob4_some, nI_p1]
            obtain ⟨Q1, h1, h2, h3⟩ := ih i (pr i + 1) (b + 2) (q + 1) (upd (upd K b 4) (b + 1) 5) (upd (upd L b (-1)) (b + 1) (-1)) (upd (upd R b (-1)) (b + 1) (-1)) Q (rg_f1 hR hi hP k40) (by omega) (by omega) (by rw [ha]; omega)
            rw [ha] at h1 h3
            rw [i32_e] at h1
            rw [show nI (b + 1 + 1) = nI (b + 2) from rfl, h1, ob5_some, gd_in (show b < 18 by omega) (by omega), c_tradd (show b + 2 + a.length < 18 by omega), ob4_some, nI_clamp (show b < 2 ^ 31 by omega), nI_p1]
            obtain ⟨Q2, g1, g2, g3⟩ := ih (pr i + 1) (e + 1) (b + 3 + a.length) (q + 1) (upd (wr (upd (upd K b 4) (b + 1) 5) (b + 2) (a.map kI)) (b + 2 + a.length) 6) (upd (wr (upd (upd L b (-1)) (b + 1) (-1)) (b + 2) (a.map lI)) (b + 2 + a.length) (-1)) (upd (wr (upd (upd R b (-1)) (b + 1) (-1)) (b + 2) (a.map rI)) (b + 2 + a.length) (-1)) (upd Q1 b (nI (b + 2 + a.length))) (rg_f2 hR hi hP k40) (by omega) (by omega) (by rw [hr]; omega)
            rw [hr] at g1 g3
            rw [i32_e] at g1
            rw [show b + 2 + a.length + 1 = b + 3 + a.length by omega, g1, ob5_some]
            refine ⟨Q2, ?_, fun x hx => ?_, fun _ => ?_, ?_⟩
            · have key : ∀ (g : Nd → Int32) (K : Nat → Int32) (x4 x5 x6 : Nd), wr (upd (wr (upd (upd K b (g x4)) (b + 1) (g x5)) (b + 2) (a.map g)) (b + 2 + a.length) (g x6)) (b + 3 + a.length) (r.map g) = wr K b ((x4 :: x5 :: (a ++ x6 :: r)).map g) := by
                intro g K x4 x5 x6
                rw [List.map_cons, List.map_cons, List.map_append, List.map_cons]
                show _ = wr (upd (upd K b (g x4)) (b + 1) (g x5)) (b + 1 + 1) (a.map g ++ g x6 :: r.map g)
                rw [wr_app, List.length_map, show b + 1 + 1 = b + 2 by omega]
                show _ = wr (upd (wr (upd (upd K b (g x4)) (b + 1) (g x5)) (b + 2) (a.map g)) (b + 2 + a.length) (g x6)) (b + 2 + a.length + 1) (r.map g)
                rw [show b + 2 + a.length + 1 = b + 3 + a.length by omega]
              rw [← key kI, ← key lI, ← key rI, show b + ((4, 0, 0, b + 2 + a.length, 3 + a.length + r.length) :: (5, 0, 0, 0, 1 + a.length) :: (a ++ (6, 0, 0, 0, 1 + r.length) :: r) : List Nd).length = b + 3 + a.length + r.length by simp only [List.length_cons, List.length_append]; omega]
              rfl
            · rw [g2 x (by omega), pk_un (by omega)]; exact h2 x (by omega)
            · rw [g2 b (by omega), pk_us]
            · refine ⟨nofun, ?_⟩
              show Sc Q2 (b + 2) _
              rw [Sc_app]
              refine ⟨Sc_congr (fun x x1 x2 => ?_) h3, nofun, ?_⟩
              · rw [g2 x (by omega), pk_un (by omega)]
              · rw [show b + 2 + a.length + 1 = b + 3 + a.length by omega]; exact g3
end TREE
