/-! 67.pair: the reference's pairs are the class's -/
theorem dep_bd (mk : Nat → Nat) (x : Nat) : -(x : Int) ≤ dep mk x ∧ dep mk x ≤ x := by
  induction x with
  | zero => exact ⟨Int.le_refl 0, Int.le_refl 0⟩
  | succ x ih =>
    have h : dep mk (x + 1) = dep mk x + dlt (mk x) := rfl
    have h2 : -1 ≤ dlt (mk x) ∧ dlt (mk x) ≤ 1 := by unfold dlt; split <;> (try split) <;> omega
    rw [h]
    push_cast
    omega
theorem i32_1 (z : Int) : i32 z + (1 : Int32) = i32 (z + 1) := i32_add z 1
theorem i32_m1 (z : Int) : i32 z - (1 : Int32) = i32 (z - 1) := i32_sub z 1
theorem nI_p1 (x : Nat) : nI x + (1 : Int32) = nI (x + 1) := nI_add x 1
theorem nIm40 {m : Nat} (h : m = 40 ∨ m = 41 ∨ m = 46) (k : ¬ m = 40) : ¬ nI m = (40 : Int32) := by
  rw [show (40 : Int32) = nI 40 from rfl]; exact nI_ne (by rcases h with q | q | q <;> omega) (by decide) k
theorem nIm41 {m : Nat} (h : m = 40 ∨ m = 41 ∨ m = 46) (k : ¬ m = 41) : ¬ nI m = (41 : Int32) := by
  rw [show (41 : Int32) = nI 41 from rfl]; exact nI_ne (by rcases h with q | q | q <;> omega) (by decide) k
section PM
variable {mk : Nat → Nat} {C : Nat} {marks : Nat → Int32}
theorem m_pair6 (hC : C ≤ 8) (hm : ∀ c, c < C → (mk c = 40 ∨ mk c = 41 ∨ mk c = 46) ∧ marks c = nI (mk c)) {kk : Int32 → Int32 → Int32 → (Nat → Int32) → Option (Int32 × (Nat → Int32))} :
    ∀ (n x : Nat) (ok : Int32) (M : Nat → Int32), x ≤ C → C < x + n → ((ok = 1 ∧ ∀ y, y ≤ x → 0 ≤ dep mk y) ∨ (ok = 0 ∧ ¬ ∀ y, y ≤ x → 0 ≤ dep mk y)) → (∀ c, c < x → M c = (-1 : Int32)) →
      ∃ ok' M', f_Mo_pair_L6 (nI C) marks kk n (i32 (dep mk x)) ok (nI x) M = kk (i32 (dep mk C)) ok' (nI C) M' ∧ ((ok' = 1 ∧ ∀ y, y ≤ C → 0 ≤ dep mk y) ∨ (ok' = 0 ∧ ¬ ∀ y, y ≤ C → 0 ≤ dep mk y)) ∧ (∀ c, c < C → M' c = (-1 : Int32)) := by
  intro n
  induction n with
  | zero => intro x ok M h1 h2; omega
  | succ n ih =>
    intro x ok M h1 h2 hok hM
    rw [f_Mo_pair_L6]
    by_cases c1 : C ≤ x
    · have e : x = C := by omega
      subst e
      rw [if_pos ((nI_leI (by omega) (by omega)).mpr c1)]
      exact ⟨ok, M, rfl, hok, hM⟩
    · have hx : x < C := by omega
      have hmk := hm x hx
      have hbd := dep_bd mk x
      have hd1 : dep mk (x + 1) = dep mk x + dlt (mk x) := rfl
      have hM' : ∀ c, c < x + 1 → upd M x (-1 : Int32) c = (-1 : Int32) := fun c hc => by
        by_cases ec : c = x
        · rw [ec, pk_us]
        · rw [pk_un ec]; exact hM c (by omega)
      rw [if_neg (fun h => c1 ((nI_leI (by omega) (by omega)).mp h)), gd_in (show x < 8 by omega) (by omega), gd_in (show x < 8 by omega) (by omega), gd_in (show x < 8 by omega) (by omega), nI_clamp (show x < 2 ^ 31 by omega), hmk.2, nI_p1]
      by_cases k40 : mk x = 40
      · rw [k40, if_pos (show nI 40 = (40 : Int32) from rfl), i32_1]
        rw [k40] at hd1
        have hd2 : dep mk (x + 1) = dep mk x + 1 := hd1
        rw [← hd2]
        refine ih (x + 1) ok _ (by omega) (by omega) ?_ hM'
        rcases hok with ⟨e, h⟩ | ⟨e, h⟩
        · refine Or.inl ⟨e, fun y hy => ?_⟩
          by_cases ey : y = x + 1
          · rw [ey, hd2]; have := h x (Nat.le_refl _); omega
          · exact h y (by omega)
        · exact Or.inr ⟨e, fun g => h (fun y hy => g y (by omega))⟩
      · rw [if_neg (nIm40 hmk.1 k40)]
        by_cases k41 : mk x = 41
        · rw [k41, if_pos (show nI 41 = (41 : Int32) from rfl), i32_m1]
          rw [k41] at hd1
          have hd2 : dep mk (x + 1) = dep mk x - 1 := hd1
          rw [← hd2]
          rcases hok with ⟨e, h⟩ | ⟨e, h⟩
          · rw [if_neg (by rw [e]; decide)]
            have hb2 := dep_bd mk (x + 1)
            by_cases hneg : dep mk (x + 1) < 0
            · rw [if_pos (show i32 (dep mk (x + 1)) < (0 : Int32) from (i32_lt (b := 0) (by omega) (by omega) (by omega) (by omega)).mpr hneg)]
              exact ih (x + 1) 0 _ (by omega) (by omega) (Or.inr ⟨rfl, fun g => by have := g (x + 1) (by omega); omega⟩) hM'
            · rw [if_neg (show ¬ i32 (dep mk (x + 1)) < (0 : Int32) from fun q => hneg ((i32_lt (b := 0) (by omega) (by omega) (by omega) (by omega)).mp q))]
              refine ih (x + 1) 1 _ (by omega) (by omega) (Or.inl ⟨rfl, fun y hy => ?_⟩) hM'
              by_cases ey : y = x + 1
              · rw [ey]; omega
              · exact h y (by omega)
          · rw [if_pos e]
            exact ih (x + 1) 0 _ (by omega) (by omega) (Or.inr ⟨rfl, fun g => h (fun y hy => g y (by omega))⟩) hM'
        · have k46 : mk x = 46 := by rcases hmk.1 with q | q | q <;> omega
          rw [if_neg (nIm41 hmk.1 k41)]
          rw [k46] at hd1
          have hd2 : dep mk (x + 1) = dep mk x := by rw [hd1]; show _ + 0 = _; omega
          rw [← hd2]
          refine ih (x + 1) ok _ (by omega) (by omega) ?_ hM'
          rcases hok with ⟨e, h⟩ | ⟨e, h⟩
          · refine Or.inl ⟨e, fun y hy => ?_⟩
            by_cases ey : y = x + 1
            · rw [ey, hd2]; exact h x (Nat.le_refl _)
            · exact h y (by omega)
          · exact Or.inr ⟨e, fun g => h (fun y hy => g y (by omega))⟩
theorem m_pair109 (hC : C ≤ 8) (hm : ∀ c, c < C → (mk c = 40 ∨ mk c = 41 ∨ mk c = 46) ∧ marks c = nI (mk c)) {kk : Int32 → Int32 → Option (Int32 × (Nat → Int32))} {x k : Nat} (hk : k < C) (hmt : Mt mk x k) :
    ∀ (n y : Nat), x ≤ y → y ≤ k → k < y + n → f_Mo_pair_L109 marks kk n (i32 (dep mk (y + 1) - dep mk x)) (nI y) = kk (i32 0) (nI k) := by
  intro n
  induction n with
  | zero => intro y h1 h2 h3; omega
  | succ n ih =>
    intro y h1 h2 h3
    rw [f_Mo_pair_L109]
    have b1 := dep_bd mk (y + 1)
    have b2 := dep_bd mk x
    have hmt' := hmt
    obtain ⟨hlt, -, -, he, hgt⟩ := hmt'
    by_cases c1 : y = k
    · subst c1
      rw [if_pos (show i32 (dep mk (y + 1) - dep mk x) ≤ (0 : Int32) by rw [he, show dep mk x - dep mk x = 0 by omega]; decide), he, show dep mk x - dep mk x = 0 by omega]
    · have hg := hgt (y + 1) (by omega) (by omega)
      have hmk := hm (y + 1) (by omega)
      rw [if_neg (show ¬ i32 (dep mk (y + 1) - dep mk x) ≤ (0 : Int32) from fun q => by
        have : ¬ i32 0 < i32 (dep mk (y + 1) - dep mk x) := by
          rw [Int32.lt_iff_toInt_lt]
          rw [Int32.le_iff_toInt_le] at q
          exact fun h => absurd (Int.lt_of_lt_of_le h q) (Int.lt_irrefl _)
        rw [i32_lt (by omega) (by omega) (by omega) (by omega)] at this
        omega), nI_p1, gd_in (show y + 1 < 8 by omega) (by omega), gd_in (show y + 1 < 8 by omega) (by omega), nI_clamp (show y + 1 < 2 ^ 31 by omega), hmk.2]
      have hd1 : dep mk (y + 1 + 1) = dep mk (y + 1) + dlt (mk (y + 1)) := rfl
      have ih2 := ih (y + 1) (by omega) (by omega) (by omega)
      by_cases k40 : mk (y + 1) = 40
      · rw [k40, if_pos (show nI 40 = (40 : Int32) from rfl), i32_1, ← ih2]
        rw [k40] at hd1
        have hd2 : dep mk (y + 1 + 1) = dep mk (y + 1) + 1 := hd1
        rw [hd2, show dep mk (y + 1) - dep mk x + 1 = dep mk (y + 1) + 1 - dep mk x by omega]
      · rw [if_neg (nIm40 hmk.1 k40)]
        by_cases k41 : mk (y + 1) = 41
        · rw [k41, if_pos (show nI 41 = (41 : Int32) from rfl), i32_m1, ← ih2]
          rw [k41] at hd1
          have hd2 : dep mk (y + 1 + 1) = dep mk (y + 1) - 1 := hd1
          rw [hd2, show dep mk (y + 1) - dep mk x - 1 = dep mk (y + 1) - 1 - dep mk x by omega]
        · have k46 : mk (y + 1) = 46 := by rcases hmk.1 with q | q | q <;> omega
          rw [if_neg (nIm41 hmk.1 k41), ← ih2]
          rw [k46] at hd1
          have hd2 : dep mk (y + 1 + 1) = dep mk (y + 1) := by rw [hd1]; show _ + 0 = _; omega
          rw [hd2]
theorem m_pair76 (hC : C ≤ 8) (hm : ∀ c, c < C → (mk c = 40 ∨ mk c = 41 ∨ mk c = 46) ∧ marks c = nI (mk c)) {P : Nat → Int32} (hP : PP mk C P) {kk : Int32 → (Nat → Int32) → Option (Int32 × (Nat → Int32))} :
    ∀ (n x : Nat) (M : Nat → Int32), x ≤ C → C < x + n → (∀ c, c < C → (mk c = 46 → M c = (-1 : Int32)) ∧ (mk c = 40 → c < x → M c = P c) ∧ (mk c = 41 → ∀ p, Mt mk p c → p < x → M c = nI p)) →
      ∃ y M', f_Mo_pair_L76 (nI C) marks 0 1 kk n (nI x) M = kk y M' ∧ ∀ c, c < C → M' c = P c := by
  intro n
  induction n with
  | zero => intro x M h1 h2; omega
  | succ n ih =>
    intro x M h1 h2 hM
    rw [f_Mo_pair_L76]
    by_cases c1 : C ≤ x
    · rw [if_pos ((nI_leI (by omega) (by omega)).mpr c1)]
      refine ⟨_, M, rfl, fun c hc => ?_⟩
      obtain ⟨g1, g2, g3⟩ := hM c hc
      obtain ⟨f1, f2, f3⟩ := hP c hc
      rcases (hm c hc).1 with q | q | q
      · exact g2 q (by omega)
      · obtain ⟨p, hp, hmt, e⟩ := f3 q
        rw [e]; exact g3 q p hmt (by omega)
      · rw [g1 q, f1 q]
    · have hx : x < C := by omega
      have hmk := hm x hx
      rw [if_neg (fun h => c1 ((nI_leI (by omega) (by omega)).mp h)), if_neg (show ¬ (1 : Int32) = 0 by decide), if_pos rfl, gd_in (show x < 8 by omega) (by omega), nI_clamp (show x < 2 ^ 31 by omega), hmk.2]
      by_cases k40 : mk x = 40
      · obtain ⟨k, hk, hmt, ePk⟩ := (hP x hx).2.1 k40
        have hd : dep mk (x + 1) = dep mk x + dlt (mk x) := rfl
        rw [k40] at hd
        have hd2 : dep mk (x + 1) = dep mk x + 1 := hd
        rw [k40, if_pos (show nI 40 = (40 : Int32) from rfl), show (1 : Int32) = i32 (dep mk (x + 1) - dep mk x) by rw [hd2, show dep mk x + 1 - dep mk x = 1 by omega]; rfl]
        rw [m_pair109 hC hm hk hmt 1000 x (Nat.le_refl _) (by have := hmt.1; omega) (by omega)]
        unfold f_Mo_pair_K109_165
        rw [show i32 (dep mk (x + 1) - dep mk x) = (1 : Int32) by rw [hd2, show dep mk x + 1 - dep mk x = 1 by omega]; rfl]
        rw [gd_in (show x < 8 by omega) (by omega), gd_in (show k < 8 by omega) (by omega), nI_clamp (show x < 2 ^ 31 by omega), nI_clamp (show k < 2 ^ 31 by omega), nI_p1]
        refine ih (x + 1) _ (by omega) (by omega) (fun c hc => ?_)
        obtain ⟨g1, g2, g3⟩ := hM c hc
        have k41 := hmt.2.2.1
        refine ⟨fun q => ?_, fun q hcx => ?_, fun q p hp hpx => ?_⟩
        · rw [pk_un (show ¬ c = k from fun h => by rw [h] at q; omega), pk_un (show ¬ c = x from fun h => by rw [h] at q; omega)]
          exact g1 q
        · rw [pk_un (show ¬ c = k from fun h => by rw [h] at q; omega)]
          by_cases ec : c = x
          · rw [ec, pk_us, ePk]
          · rw [pk_un ec]; exact g2 q (by omega)
        · by_cases ec : c = k
          · subst ec
            rw [pk_us, Mt_left hp hmt]
          · rw [pk_un ec, pk_un (show ¬ c = x from fun h => by rw [h] at q; omega)]
            refine g3 q p hp ?_
            by_cases ep : p = x
            · subst ep; exact absurd (Mt_right hp hmt) ec
            · omega
      · rw [if_neg (nIm40 hmk.1 k40), nI_p1]
        refine ih (x + 1) M (by omega) (by omega) (fun c hc => ?_)
        obtain ⟨g1, g2, g3⟩ := hM c hc
        refine ⟨g1, fun q hcx => ?_, fun q p hp hpx => ?_⟩
        · by_cases ec : c = x
          · rw [ec] at q; exact absurd q k40
          · exact g2 q (by omega)
        · by_cases ep : p = x
          · rw [ep] at hp; exact absurd hp.2.1 k40
          · exact g3 q p hp (by omega)
theorem m_pair (hC : C ≤ 8) (hm : ∀ c, c < C → (mk c = 40 ∨ mk c = 41 ∨ mk c = 46) ∧ marks c = nI (mk c)) {P M : Nat → Int32} :
    (Bal mk C → PP mk C P → ∃ M', f_Mo_pair (nI C) marks M = some (1, M') ∧ ∀ c, c < C → M' c = P c) ∧ (¬ Bal mk C → ∃ M', f_Mo_pair (nI C) marks M = some (0, M')) := by
  unfold f_Mo_pair
  obtain ⟨ok, M', he, hok, hM'⟩ := m_pair6 hC hm (kk := f_Mo_pair_K6_74 (nI C) marks) 1000 0 1 M (by omega) (by omega) (Or.inl ⟨rfl, fun y hy => by rw [show y = 0 by omega]; exact Int.le_refl 0⟩) (fun c hc => by omega)
  have he : f_Mo_pair_L6 (nI C) marks (f_Mo_pair_K6_74 (nI C) marks) 1000 0 1 0 M = f_Mo_pair_K6_74 (nI C) marks (i32 (dep mk C)) ok (nI C) M' := he
  rw [he]
  unfold f_Mo_pair_K6_74
  have bC := dep_bd mk C
  refine ⟨fun hb hP => ?_, fun hb => ?_⟩
  · have e1 : ok = 1 := by rcases hok with ⟨e, _⟩ | ⟨_, e⟩; exact e; exact absurd hb.1 e
    rw [e1, hb.2]
    obtain ⟨y, M2, h2, h3⟩ := m_pair76 hC hm hP (kk := f_Mo_pair_K76_187 0 1) 1000 0 M' (by omega) (by omega) (fun c hc => ⟨fun _ => hM' c hc, fun _ h => by omega, fun _ p _ h => by omega⟩)
    refine ⟨M2, ?_, h3⟩
    have h2 : f_Mo_pair_L76 (nI C) marks (i32 0) 1 (f_Mo_pair_K76_187 (i32 0) 1) 1000 0 M' = f_Mo_pair_K76_187 0 1 y M2 := h2
    rw [h2]
    rfl
  · rw [f_Mo_pair_L76]
    have key : ok = 0 ∨ ¬ i32 (dep mk C) = 0 := by
      rcases hok with ⟨e, h⟩ | ⟨e, _⟩
      · refine Or.inr (fun q => hb ⟨h, ?_⟩)
        have q : i32 (dep mk C) = i32 0 := q
        rwa [i32_eq (by omega) (by omega) (by omega) (by omega)] at q
      · exact Or.inl e
    have hK : ∀ y N, f_Mo_pair_K76_187 (i32 (dep mk C)) ok y N = some (0, N) := fun y N => by
      unfold f_Mo_pair_K76_187
      by_cases e : ok = 0
      · rw [if_pos e]
      · rw [if_neg e]
        rcases key with q | q
        · exact absurd q e
        · rw [if_neg q]
    by_cases c1 : nI C ≤ 0
    · rw [if_pos c1, hK]; exact ⟨_, rfl⟩
    · rw [if_neg c1]
      by_cases e : ok = 0
      · rw [if_pos e, hK]; exact ⟨_, rfl⟩
      · rw [if_neg e]
        rcases key with q | q
        · exact absurd q e
        · rw [if_neg q, hK]; exact ⟨_, rfl⟩
end PM
