/-! 58.scan: the class's scan against the spec -/
section SCC
variable {sv : Nat → Nat → Int32} {th : Int32} {w T : Nat} {va_scores : Nat → Int32}
/-- the class's hits, and its letters taken -/
def CH (sv : Nat → Nat → Int32) (hs : Hs) (b l sc : Nat → Int32) : Prop := ∀ k, k < hs.length → b k = nI (hs.getD k (0, 0)).1 ∧ l k = nI (hs.getD k (0, 0)).2 ∧ sc k = sv (hs.getD k (0, 0)).1 (hs.getD k (0, 0)).2
def CT (hs : Hs) (tk : Nat → Int32) : Prop := ∀ j, j < 24 → tk j = if takB hs j then 1 else 0
theorem c_freeL {hs : Hs} {tk : Nat → Int32} {lim : Nat} {kk : Int32 → Option Int32} (hl : lim ≤ 24) (ht : CT hs tk) : ∀ (n e : Nat), e ≤ lim → lim < e + n → ∃ e', e ≤ e' ∧ e' ≤ lim ∧ (∀ j, e ≤ j → j < e' → takB hs j = false) ∧ (e' = lim ∨ takB hs e' = true) ∧ f_Hi_freeEnd_L2 tk (nI lim) kk n (nI e) = kk (nI e') := by
  intro n
  induction n with
  | zero => intro e h1 h2; omega
  | succ n ih =>
    intro e h1 h2
    rw [f_Hi_freeEnd_L2]
    by_cases c1 : lim ≤ e
    · have : e = lim := by omega
      rw [if_pos ((nI_leI (by omega) (by omega)).mpr c1)]
      exact ⟨e, Nat.le_refl _, h1, fun j a b => by omega, Or.inl this, rfl⟩
    · rw [if_neg (fun h => c1 ((nI_leI (by omega) (by omega)).mp h)), gd_in (by omega) (by omega), nI_clamp (by omega), ht e (by omega)]
      cases hq : takB hs e with
      | true =>
        rw [if_neg (by decide)]
        exact ⟨e, Nat.le_refl _, h1, fun j a b => by omega, Or.inr hq, rfl⟩
      | false =>
        rw [if_pos (show (if false = true then (1 : Int32) else 0) = 0 from rfl), nI1, nI_add]
        obtain ⟨e', a1, a2, a3, a4, a5⟩ := ih (e + 1) (by omega) (by omega)
        refine ⟨e', by omega, a2, fun j b1 b2 => ?_, a4, a5⟩
        by_cases ej : j = e
        · rw [ej]; exact hq
        · exact a3 j (by omega) b2
/-- the class's choice so far, noted behind its hits -/
def CS (sv : Nat → Nat → Int32) (h : Nat) (s : Option (Nat × Nat)) (x5 : Int32) (b l sc : Nat → Int32) : Prop := match s with
  | none => x5 = (0 : Int32)
  | some q => x5 = (1 : Int32) ∧ b h = nI q.1 ∧ l h = nI q.2 ∧ sc h = sv q.1 q.2
theorem c_s31 {hs : Hs} {i F : Nat} {kk : Int32 → Int32 → (Nat → Int32) → (Nat → Int32) → (Nat → Int32) → Option (Int32 × (Nat → Int32) × (Nat → Int32) × (Nat → Int32) × (Nat → Int32) × Int32)} (hF : F ≤ 12) (hi : i + F ≤ 24) (hh : 1 ≤ F → hs.length < 24) (hv : ∀ e, e ≤ F → va_scores (pl 0 i e) = sv i e) :
    ∀ (n d : Nat) (s : Option (Nat × Nat)) (x5 : Int32) (b l sc : Nat → Int32), 1 ≤ d → d ≤ F + 1 → F + 1 < d + n → CS sv hs.length s x5 b l sc → CH sv hs b l sc →
      ∃ y5 y8 b' l' sc', f_Hi_findNext_L31 va_scores (nI hs.length) th (nI i) (nI (i + F)) kk n x5 (nI d) b l sc = kk y5 y8 b' l' sc' ∧ CS sv hs.length (sD sv th (fun _ => true) i (F + 1 - d) d s) y5 b' l' sc' ∧ CH sv hs b' l' sc' := by
  intro n
  induction n with
  | zero => intro d s x5 b l sc h1 h2 h3; omega
  | succ n ih =>
    intro d s x5 b l sc h1 h2 h3 hcs hch
    rw [f_Hi_findNext_L31, pk_sub (by omega), show i + F - i = F by omega]
    by_cases c1 : F < d
    · rw [if_pos ((nI_ltI (by omega) (by omega)).mpr c1), show F + 1 - d = 0 by omega]
      exact ⟨_, _, _, _, _, rfl, hcs, hch⟩
    · rw [if_neg (fun h => c1 ((nI_ltI (by omega) (by omega)).mp h)), nI0, c_of (by omega) (by omega) (by omega), ob1_some, hv d (by omega)]
      have hlen := hh (by omega)
      rw [show F + 1 - d = (F + 1 - (d + 1)) + 1 by omega, sD]
      have hnext : ∀ (s' : Option (Nat × Nat)) (z5 : Int32) (b2 l2 sc2 : Nat → Int32), CS sv hs.length s' z5 b2 l2 sc2 → CH sv hs b2 l2 sc2 → ∃ y5 y8 b' l' sc', f_Hi_findNext_L31 va_scores (nI hs.length) th (nI i) (nI (i + F)) kk n z5 (nI d + (1 : Int32)) b2 l2 sc2 = kk y5 y8 b' l' sc' ∧ CS sv hs.length (sD sv th (fun _ => true) i (F + 1 - (d + 1)) (d + 1) s') y5 b' l' sc' ∧ CH sv hs b' l' sc' := by
        intro s' z5 b2 l2 sc2 hz hz2
        rw [nI1, nI_add]
        exact ih (d + 1) s' z5 b2 l2 sc2 (by omega) (by omega) (by omega) hz hz2
      have hJ : (∀ q, s = some q → ¬ (sv i d ≤ sv q.1 q.2)) → ¬ sv i d = (-1000000 : Int32) → ¬ sv i d < th → ∃ y5 y8 b' l' sc', f_Hi_findNext_J85 (nI hs.length) (nI i) (nI d) b l sc (f_Hi_findNext_L31 va_scores (nI hs.length) th (nI i) (nI (i + F)) kk n) (sv i d) = kk y5 y8 b' l' sc' ∧ CS sv hs.length (sD sv th (fun _ => true) i (F + 1 - (d + 1)) (d + 1) (selStep sv th s i d true)) y5 b' l' sc' ∧ CH sv hs b' l' sc' := by
        intro hbetter hne hth
        have e : selStep sv th s i d true = some (i, d) := by
          unfold selStep
          rw [if_neg hne, if_neg hth]
          cases s with
          | none => rfl
          | some q => dsimp only; rw [if_neg (hbetter q rfl)]; rfl
        rw [e]
        unfold f_Hi_findNext_J85 f_Hi_note
        rw [gd_in (by omega) (by omega), gd_in (by omega) (by omega), gd_in (by omega) (by omega), ob3_some, nI_clamp (by omega)]
        refine hnext (some (i, d)) (1 : Int32) _ _ _ ⟨rfl, pk_us, pk_us, pk_us⟩ (fun k hk => ?_)
        rw [pk_un (by omega), pk_un (by omega), pk_un (by omega)]
        exact hch k hk
      by_cases c3 : sv i d = (-1000000 : Int32)
      · rw [if_pos c3]
        have e : selStep sv th s i d true = s := by unfold selStep; rw [if_pos c3]
        rw [e]
        exact hnext s x5 b l sc hcs hch
      · rw [if_neg c3]
        by_cases c4 : sv i d < th
        · rw [if_pos c4]
          have e : selStep sv th s i d true = s := by unfold selStep; rw [if_neg c3, if_pos c4]
          rw [e]
          exact hnext s x5 b l sc hcs hch
        · rw [if_neg c4]
          cases s with
          | none =>
            have hx : x5 = (0 : Int32) := hcs
            rw [if_pos (show x5 = nI 0 from hx)]
            exact hJ (fun q h => by cases h) c3 c4
          | some q =>
            have hx : x5 = (1 : Int32) ∧ b hs.length = nI q.1 ∧ l hs.length = nI q.2 ∧ sc hs.length = sv q.1 q.2 := hcs
            rw [if_neg (by rw [hx.1]; decide), gd_in (by omega) (by omega), nI_clamp (by omega), hx.2.2.2]
            by_cases c5 : sv i d ≤ sv q.1 q.2
            · rw [if_pos c5]
              have e : selStep sv th (some q) i d true = some q := by unfold selStep; rw [if_neg c3, if_neg c4]; dsimp only; rw [if_pos c5]
              rw [e]
              exact hnext (some q) x5 b l sc hcs hch
            · rw [if_neg c5]
              exact hJ (fun q' h => by cases h; exact c5) c3 c4
theorem unt_pos {hs : Hs} {T j : Nat} (hj : j < T) (h : takB hs j = false) : 1 ≤ unt hs T := cnt_pos (a := j) (by simp [h]) T hj
theorem c_s6 {hs : Hs} {tk : Nat → Int32} {kk : Int32 → Int32 → (Nat → Int32) → (Nat → Int32) → (Nat → Int32) → Option (Int32 × (Nat → Int32) × (Nat → Int32) × (Nat → Int32) × (Nat → Int32) × Int32)} (hT : T ≤ 24) (hw : w ≤ 12) (hok : HsOk w T hs) (hlen : hs.length + unt hs T ≤ T) (ht : CT hs tk) (hv : ∀ j e, j + e ≤ T → e ≤ 12 → va_scores (pl 0 j e) = sv j e) :
    ∀ (n i : Nat) (s : Option (Nat × Nat)) (x5 : Int32) (b l sc : Nat → Int32), i ≤ T → T < i + n → CS sv hs.length s x5 b l sc → CH sv hs b l sc →
      ∃ y5 y6 b' l' sc', f_Hi_findNext_L6 va_scores tk (nI hs.length) (nI T) (nI w) th kk n x5 (nI i) b l sc = kk y5 y6 b' l' sc' ∧ CS sv hs.length (sI sv th (freeB hs) w T (T - i) i s) y5 b' l' sc' ∧ CH sv hs b' l' sc' := by
  intro n
  induction n with
  | zero => intro i s x5 b l sc h1 h2; omega
  | succ n ih =>
    intro i s x5 b l sc h1 h2 hcs hch
    rw [f_Hi_findNext_L6]
    by_cases c1 : T ≤ i
    · rw [if_pos ((nI_leI (by omega) (by omega)).mpr c1), show T - i = 0 by omega]
      exact ⟨_, _, _, _, _, rfl, hcs, hch⟩
    · rw [if_neg (fun h => c1 ((nI_leI (by omega) (by omega)).mp h)), nI_add]
      have hmin : imin (nI T) (nI (i + w)) = nI (min T (i + w)) := by
        unfold imin
        by_cases c : i + w < T
        · rw [if_pos ((nI_ltI (by omega) (by omega)).mpr c), Nat.min_eq_right (by omega)]
        · rw [if_neg (fun h => c ((nI_ltI (by omega) (by omega)).mp h)), Nat.min_eq_left (by omega)]
      rw [hmin]
      unfold f_Hi_freeEnd
      obtain ⟨e', a1, a2, a3, a4, a5⟩ := c_freeL (kk := f_Hi_freeEnd_K2_22) (lim := min T (i + w)) (by omega) ht 1000 i (by omega) (by omega)
      rw [a5]
      unfold f_Hi_freeEnd_K2_22
      rw [ob1_some, nI1]
      have hF : e' = i + (e' - i) := by omega
      rw [hF]
      generalize hFd : e' - i = F at *
      obtain ⟨y5, y8, b', l', sc', q1, q2, q3⟩ := c_s31 (th := th) (kk := f_Hi_findNext_K31_104 (nI i) (f_Hi_findNext_L6 va_scores tk (nI hs.length) (nI T) (nI w) th kk n)) (hs := hs) (i := i) (F := F) (by omega) (by omega) (fun h => by have := unt_pos (hs := hs) (T := T) (j := i) (by omega) (a3 i (Nat.le_refl _) (by omega)); omega) (fun e he => hv i e (by omega) (by omega)) 1000 1 s x5 b l sc (by omega) (by omega) (by omega) hcs hch
      rw [q1]
      unfold f_Hi_findNext_K31_104
      rw [nI1, nI_add, show T - i = (T - (i + 1)) + 1 by omega, sI]
      have hcut := sD_cut (sv := sv) (th := th) (fr := freeB hs i) (i := i) (F := F) (min w (T - i)) 1 s (fun e g1 g2 => by
        rw [freeB_iff hs (fun h hh => (hok h hh).1) i e g1]
        constructor
        · intro hfree
          refine Classical.byContradiction (fun hn => ?_)
          rcases a4 with q | q
          · omega
          · have := hfree e' (by omega) (by omega)
            rw [this] at q
            cases q
        · intro hle j g3 g4
          exact a3 j g3 (by omega)) (by omega) (by omega) (by omega)
      rw [hcut]
      exact ih (i + 1) _ y5 b' l' sc' (by omega) (by omega) q2 q3
theorem c_take {hs : Hs} {q : Nat × Nat} {b l : Nat → Int32} {kk : Int32 → (Nat → Int32) → Option ((Nat → Int32) × Int32)} (hh : hs.length < 24) (hb : b hs.length = nI q.1) (hl : l hs.length = nI q.2) (hq : q.1 + q.2 ≤ 24) :
    ∀ (n x : Nat) (tk : Nat → Int32), x ≤ q.2 → q.2 < x + n → (∀ j, j < 24 → tk j = if (takB hs j || (decide (q.1 ≤ j) && decide (j < q.1 + x))) then 1 else 0) → ∃ y tk', f_Hi_takeNoted_L2 b l (nI hs.length) kk n (nI x) tk = kk y tk' ∧ CT (hs ++ [q]) tk' := by
  intro n
  induction n with
  | zero => intro x tk h1 h2; omega
  | succ n ih =>
    intro x tk h1 h2 ht
    rw [f_Hi_takeNoted_L2, gd_in (by omega) (by omega), nI_clamp (by omega), hl]
    by_cases c1 : q.2 ≤ x
    · have e : x = q.2 := by omega
      rw [if_pos ((nI_leI (by omega) (by omega)).mpr c1)]
      refine ⟨_, tk, rfl, fun j hj => ?_⟩
      rw [ht j hj, e]
      have ea : takB (hs ++ [q]) j = (takB hs j || (decide (q.1 ≤ j) && decide (j < q.1 + q.2))) := by
        unfold takB
        rw [List.any_append, List.any_cons, List.any_nil, Bool.or_false]
      rw [ea]
    · rw [if_neg (fun h => c1 ((nI_leI (by omega) (by omega)).mp h)), gd_in (by omega) (by omega), hb, nI_add, gd_in (by omega) (by omega), nI_clamp (by omega), nI1, nI_add]
      refine ih (x + 1) _ (by omega) (by omega) (fun j hj => ?_)
      by_cases ej : j = q.1 + x
      · rw [ej, pk_us]
        have : (takB hs (q.1 + x) || (decide (q.1 ≤ q.1 + x) && decide (q.1 + x < q.1 + (x + 1)))) = true := by simp
        rw [this]
        rfl
      · rw [pk_un ej, ht j hj]
        have : (decide (q.1 ≤ j) && decide (j < q.1 + x)) = (decide (q.1 ≤ j) && decide (j < q.1 + (x + 1))) := by
          by_cases c : j < q.1 + x
          · simp [c, show j < q.1 + (x + 1) by omega]
          · simp [c, show ¬ (j < q.1 + (x + 1)) by omega]
        rw [this]
theorem c_s35 (hT : T ≤ 24) (hw : w ≤ 12) (hv : ∀ j e, j + e ≤ T → e ≤ 12 → va_scores (pl 0 j e) = sv j e) :
    ∀ (n : Nat) (hs : Hs) (b l sc tk : Nat → Int32), HsOk w T hs → CH sv hs b l sc → CT hs tk → hs.length + unt hs T ≤ T → T + 1 < hs.length + n →
      ∃ b' l' sc' tk', f_Hi_find_L35 va_scores (nI T) (nI w) th f_Hi_find_K35_63 n (1 : Int32) (nI hs.length) b l sc tk (nI hs.length) = some (b', l', sc', tk', nI (scanS sv th w T (unt hs T) hs).length) ∧ CH sv (scanS sv th w T (unt hs T) hs) b' l' sc' := by
  intro n
  induction n with
  | zero => intro hs b l sc tk _ _ _ _ h; omega
  | succ n ih =>
    intro hs b l sc tk hok hch hct hlen hn
    rw [f_Hi_find_L35]
    by_cases c1 : T ≤ hs.length
    · rw [if_pos ((nI_leI (by omega) (by omega)).mpr c1)]
      have hu : unt hs T = 0 := by omega
      rw [hu]
      exact ⟨b, l, sc, tk, rfl, hch⟩
    · rw [if_neg (fun h => c1 ((nI_leI (by omega) (by omega)).mp h)), if_neg (by decide)]
      unfold f_Hi_findNext
      rw [nI0]
      obtain ⟨y5, y6, b', l', sc', e1, h1, h2⟩ := c_s6 (th := th) (kk := f_Hi_findNext_K6_110 tk (nI hs.length)) hT hw hok hlen hct hv 1000 0 none (nI 0) b l sc (by omega) (by omega) rfl hch
      rw [e1]
      rw [show T - 0 = T from rfl] at h1
      have hsel : sI sv th (freeB hs) w T T 0 none = sel sv th w T hs := rfl
      rw [hsel] at h1
      unfold f_Hi_findNext_K6_110
      cases hq : sel sv th w T hs with
      | none =>
        rw [hq] at h1
        have hx : y5 = (0 : Int32) := h1
        rw [if_pos hx, hx]
        show ∃ b' l' sc' tk', ob6 (gd (xbool 0) _) _ = _ ∧ _
        have hS : scanS sv th w T (unt hs T) hs = hs := by
          cases hu : unt hs T with
          | zero => rfl
          | succ u => rw [scanS, hq]
        rw [hS, show xbool 0 = true from rfl]
        show ∃ b'_1 l'_1 sc'_1 tk'_1, f_Hi_find_L35 va_scores (nI T) (nI w) th f_Hi_find_K35_63 n (0 : Int32) (nI hs.length + (1 : Int32)) b' l' sc' tk (nI hs.length) = _ ∧ _
        cases n with
        | zero => omega
        | succ n =>
          rw [f_Hi_find_L35]
          refine ⟨b', l', sc', tk, ?_, h2⟩
          rw [if_pos (show (0 : Int32) = 0 from rfl)]
          split <;> rfl
      | some q =>
        rw [hq] at h1
        have hx : y5 = (1 : Int32) ∧ b' hs.length = nI q.1 ∧ l' hs.length = nI q.2 ∧ sc' hs.length = sv q.1 q.2 := h1
        have g1 := sel_ok (hs := hs) q hq
        have g2 : unt (hs ++ [q]) T + 1 ≤ unt hs T := unt_less (hs := hs) (fun h hh => (hok h hh).1) g1.1 g1.2.2.1 g1.2.2.2.1
        have hok' : HsOk w T (hs ++ [q]) := fun h hh => by
          rcases List.mem_append.mp hh with hh | hh
          · exact hok h hh
          · rw [List.mem_singleton.mp hh]; exact ⟨g1.1, g1.2.1, g1.2.2.1⟩
        rw [if_neg (by rw [hx.1]; decide), hx.1]
        unfold f_Hi_takeNoted
        rw [nI0]
        obtain ⟨y, tk', e2, h3⟩ := c_take (kk := f_Hi_takeNoted_K2_38 (nI hs.length)) (hs := hs) (q := q) (b := b') (l := l') (by omega) hx.2.1 hx.2.2.1 (by omega) 1000 0 tk (by omega) (by omega) (fun j hj => by
          rw [hct j hj]
          have : (decide (q.1 ≤ j) && decide (j < q.1 + 0)) = false := by
            by_cases c : q.1 ≤ j
            · simp [show ¬ (j < q.1 + 0) by omega]
            · simp [c]
          rw [this, Bool.or_false])
        rw [e2]
        unfold f_Hi_takeNoted_K2_38
        rw [ob2_some, show xbool 1 = true from rfl]
        show ∃ b'_1 l'_1 sc'_1 tk'_1, f_Hi_find_L35 va_scores (nI T) (nI w) th f_Hi_find_K35_63 n (1 : Int32) (nI hs.length + (1 : Int32)) b' l' sc' tk' (nI hs.length + (1 : Int32)) = _ ∧ _
        have hl' : hs.length + 1 = (hs ++ [q]).length := by simp
        rw [nI1, nI_add, hl']
        have hS : scanS sv th w T (unt hs T) hs = scanS sv th w T (unt (hs ++ [q]) T) (hs ++ [q]) := by
          rw [show unt hs T = (unt hs T - 1) + 1 by omega, scanS, hq]
          exact scanS_stable _ _ _ hok' (by omega) (Nat.le_refl _)
        rw [hS]
        refine ih (hs ++ [q]) b' l' sc' tk' hok' (fun k hk => ?_) h3 (by omega) (by omega)
        by_cases ek : k = hs.length
        · subst ek
          rw [getD_app_eq]
          exact ⟨hx.2.1, hx.2.2.1, hx.2.2.2⟩
        · rw [getD_app_lt (by omega)]
          exact h2 k (by omega)
theorem c_find0 {kk : Int32 → (Nat → Int32) → Option ((Nat → Int32) × (Nat → Int32) × (Nat → Int32) × (Nat → Int32) × Int32)} : ∀ (n x : Nat) (tk : Nat → Int32), x ≤ 24 → 24 < x + n → (∀ j, j < x → tk j = 0) → ∃ tk', f_Hi_find_L8 kk n (nI x) tk = kk (nI 24) tk' ∧ CT [] tk' := by
  intro n
  induction n with
  | zero => intro x tk h1 h2; omega
  | succ n ih =>
    intro x tk h1 h2 h3
    rw [f_Hi_find_L8, nI24]
    by_cases hx : 24 ≤ x
    · have e : x = 24 := by omega
      rw [if_pos ((nI_leI (by omega) (by omega)).mpr hx), e]
      exact ⟨tk, rfl, fun j hj => by rw [h3 j (by omega)]; rfl⟩
    · rw [if_neg (fun h => hx ((nI_leI (by omega) (by omega)).mp h)), gd_in (by omega) (by omega), nI_clamp (by omega), nI1, nI_add]
      refine ih (x + 1) _ (by omega) (by omega) (fun j hj => ?_)
      by_cases e : j = x
      · rw [e, pk_us]; rfl
      · rw [pk_un e]; exact h3 j (by omega)
theorem unt_nil (T : Nat) : unt [] T = T := by
  unfold unt takB
  induction T with
  | zero => rfl
  | succ n ih => rw [cnt, ih]; simp
theorem c_find {b l sc tk : Nat → Int32} {c0 : Int32} (hT : T ≤ 24) (hw : w ≤ 12) (hv : ∀ j e, j + e ≤ T → e ≤ 12 → va_scores (pl 0 j e) = sv j e) :
    ∃ b' l' sc' tk', f_Hi_find va_scores b l sc tk c0 (nI T) (nI w) th = some (b', l', sc', tk', nI (scanS sv th w T T []).length) ∧ CH sv (scanS sv th w T T []) b' l' sc' := by
  unfold f_Hi_find
  rw [nI0]
  obtain ⟨tk', e1, h1⟩ := c_find0 (kk := f_Hi_find_K8_29 va_scores b l sc (nI T) (nI w) th) 1000 0 tk (by omega) (by omega) (fun j hj => by omega)
  rw [e1]
  unfold f_Hi_find_K8_29
  have := c_s35 (th := th) hT hw hv 1000 [] b l sc tk' (fun h hh => by cases hh) (fun k hk => by cases hk) h1 (by rw [unt_nil]; exact Nat.le_of_eq (Nat.zero_add T)) (by show T + 1 < 0 + 1000; omega)
  rw [unt_nil] at this
  exact this
end SCC
