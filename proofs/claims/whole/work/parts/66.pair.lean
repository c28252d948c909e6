/-! 66.pair: balanced marks and who is paired with whom, for both -/
def dlt (m : Nat) : Int := if m = 40 then 1 else if m = 41 then -1 else 0
def dep (mk : Nat → Nat) : Nat → Int
  | 0 => 0
  | c + 1 => dep mk c + dlt (mk c)
def Mt (mk : Nat → Nat) (p k : Nat) : Prop := p < k ∧ mk p = 40 ∧ mk k = 41 ∧ dep mk (k + 1) = dep mk p ∧ ∀ y, p < y → y ≤ k → dep mk p < dep mk y
def Bal (mk : Nat → Nat) (C : Nat) : Prop := (∀ y, y ≤ C → 0 ≤ dep mk y) ∧ dep mk C = 0
theorem Mt_right {mk : Nat → Nat} {p k k' : Nat} (h : Mt mk p k) (h' : Mt mk p k') : k = k' := by
  rcases Nat.lt_trichotomy k k' with q | q | q
  · have := h'.2.2.2.2 (k + 1) (by have := h.1; omega) (by omega)
    have := h.2.2.2.1
    omega
  · exact q
  · have := h.2.2.2.2 (k' + 1) (by have := h'.1; omega) (by omega)
    have := h'.2.2.2.1
    omega
theorem Mt_left {mk : Nat → Nat} {p p' k : Nat} (h : Mt mk p k) (h' : Mt mk p' k) : p = p' := by
  have e1 := h.2.2.2.1
  have e2 := h'.2.2.2.1
  rcases Nat.lt_trichotomy p p' with q | q | q
  · have := h.2.2.2.2 p' q (by have := h'.1; omega)
    omega
  · exact q
  · have := h'.2.2.2.2 p q (by have := h.1; omega)
    omega
/-- the partners of all columns -/
def PP (mk : Nat → Nat) (C : Nat) (P : Nat → Int32) : Prop := ∀ c, c < C → (mk c = 46 → P c = (-1 : Int32)) ∧ (mk c = 40 → ∃ k, k < C ∧ Mt mk c k ∧ P c = nI k) ∧ (mk c = 41 → ∃ p, p < C ∧ Mt mk p c ∧ P c = nI p)
section PR
variable {mk : Nat → Nat} {C : Nat}
def CP (mk : Nat → Nat) (x : Nat) (P : Nat → Int32) : Prop := ∀ c, c < x → (mk c = 46 → P c = (-1 : Int32)) ∧ (mk c = 40 → (∀ y, c < y → y ≤ x → dep mk c < dep mk y) ∨ (∃ k, k < x ∧ Mt mk c k ∧ P c = nI k)) ∧ (mk c = 41 → ∃ p, p < x ∧ Mt mk p c ∧ P c = nI p)
def CO (mk : Nat → Nat) (x o : Nat) (op : Nat → Int32) : Prop := ∀ t, t < o → ∃ p, op t = nI p ∧ p < x ∧ mk p = 40 ∧ dep mk p = t ∧ ∀ y, p < y → y ≤ x → dep mk p < dep mk y
theorem c_pairL {marks : Nat → Int32} (hC : C ≤ 8) (hm : ∀ c, c < C → (mk c = 40 ∨ mk c = 41 ∨ mk c = 46) ∧ marks c = nI (mk c)) :
    ∀ (n x o : Nat) (P op : Nat → Int32), x ≤ C → C < x + n → o ≤ x → dep mk x = o → (∀ y, y ≤ x → 0 ≤ dep mk y) → CP mk x P → CO mk x o op →
      ∃ P' op', (Bal mk C ∧ f_Co_pairUp_L4 marks (nI C) f_Co_pairUp_K4_93 n (nI o) (nI x) P op = some (1, P', op') ∧ PP mk C P') ∨ (¬ Bal mk C ∧ f_Co_pairUp_L4 marks (nI C) f_Co_pairUp_K4_93 n (nI o) (nI x) P op = some (0, P', op')) := by
  intro n
  induction n with
  | zero => intro x o P op h1 h2; omega
  | succ n ih =>
    intro x o P op h1 h2 ho hdep hgood hP hO
    rw [f_Co_pairUp_L4]
    by_cases c1 : C ≤ x
    · have e : x = C := by omega
      subst e
      rw [if_pos ((nI_leI (by omega) (by omega)).mpr c1)]
      unfold f_Co_pairUp_K4_93
      by_cases h0 : o = 0
      · rw [if_pos (by rw [h0]; rfl)]
        refine ⟨P, op, Or.inl ⟨⟨hgood, by rw [hdep, h0]; rfl⟩, rfl, fun c hc => ⟨(hP c hc).1, fun h40 => ?_, (hP c hc).2.2⟩⟩⟩
        rcases (hP c hc).2.1 h40 with q | q
        · have := q x hc (Nat.le_refl _)
          have := hgood c (by omega)
          omega
        · exact q
      · rw [if_neg (by rw [nI0]; exact nI_ne (by omega) (by omega) h0)]
        refine ⟨P, op, Or.inr ⟨fun hb => ?_, rfl⟩⟩
        have := hb.2
        omega
    · have hx : x < C := by omega
      have hmk := hm x hx
      rw [if_neg (fun h => c1 ((nI_leI (by omega) (by omega)).mp h)), gd_in (by omega) (by omega), gd_in (by omega) (by omega), gd_in (show x < 8 by omega) (by omega), nI_clamp (show x < 2 ^ 31 by omega), hmk.2]
      have hd1 : dep mk (x + 1) = dep mk x + dlt (mk x) := rfl
      by_cases k40 : mk x = 40
      · rw [k40, if_pos (show nI 40 = (40 : Int32) from rfl), gd_in (by omega) (by omega), nI_clamp (show o < 2 ^ 31 by omega), show nI x + (1 : Int32) = nI (x + 1) from nI_add x 1, show nI o + (1 : Int32) = nI (o + 1) from nI_add o 1]
        rw [k40] at hd1
        have hd2 : dep mk (x + 1) = dep mk x + 1 := hd1
        refine ih (x + 1) (o + 1) _ _ (by omega) (by omega) (by omega) (by rw [hd2, hdep]; rfl) (fun y hy => ?_) (fun c hc => ?_) (fun t ht => ?_)
        · by_cases ey : y = x + 1
          · rw [ey, hd2]; have := hgood x (Nat.le_refl _); omega
          · exact hgood y (by omega)
        · by_cases ec : c = x
          · subst ec
            refine ⟨fun h => by omega, fun _ => Or.inl (fun y h1 h2 => ?_), fun h => by omega⟩
            rw [show y = c + 1 by omega, hd2]; omega
          · rw [pk_un ec]
            obtain ⟨g1, g2, g3⟩ := hP c (by omega)
            refine ⟨g1, fun h => ?_, fun h => ?_⟩
            · rcases g2 h with q | ⟨k, hk, q⟩
              · refine Or.inl (fun y h1 h2 => ?_)
                by_cases ey : y = x + 1
                · rw [ey, hd2]; have := q x (by omega) (Nat.le_refl _); omega
                · exact q y h1 (by omega)
              · exact Or.inr ⟨k, by omega, q⟩
            · obtain ⟨p, hp, q⟩ := g3 h
              exact ⟨p, by omega, q⟩
        · by_cases et : t = o
          · subst et
            refine ⟨x, pk_us, by omega, k40, hdep, fun y h1 h2 => ?_⟩
            rw [show y = x + 1 by omega, hd2]; omega
          · rw [pk_un et]
            obtain ⟨p, g1, g2, g3, g4, g5⟩ := hO t (by omega)
            refine ⟨p, g1, by omega, g3, g4, fun y h1 h2 => ?_⟩
            by_cases ey : y = x + 1
            · rw [ey, hd2]; have := g5 x g2 (Nat.le_refl _); omega
            · exact g5 y h1 (by omega)
      · rw [if_neg (show ¬ nI (mk x) = (40 : Int32) by rw [show (40 : Int32) = nI 40 from rfl]; exact nI_ne (show mk x < 2 ^ 31 by rcases hmk.1 with q | q | q <;> omega) (by decide) k40)]
        by_cases k41 : mk x = 41
        · rw [k41, if_pos (show nI 41 = (41 : Int32) from rfl)]
          rw [k41] at hd1
          have hd2 : dep mk (x + 1) = dep mk x + -1 := hd1
          by_cases h0 : o = 0
          · rw [if_pos (by rw [h0]; rfl)]
            refine ⟨_, _, Or.inr ⟨fun hb => ?_, rfl⟩⟩
            have := hb.1 (x + 1) (by omega)
            omega
          · obtain ⟨o', rfl⟩ : ∃ o', o = o' + 1 := ⟨o - 1, by omega⟩
            obtain ⟨p, g1, g2, g3, g4, g5⟩ := hO o' (by omega)
            have hmt : Mt mk p x := ⟨g2, g3, k41, by rw [hd2, hdep, g4]; push_cast; omega, g5⟩
            rw [if_neg (by rw [nI0]; exact nI_ne (by omega) (by omega) h0), sub1, gd_in (show o' < 8 by omega) (by omega), gd_in (show x < 8 by omega) (by omega), gd_in (show o' < 8 by omega) (by omega), nI_clamp (show o' < 2 ^ 31 by omega), g1, gd_in (show p < 8 by omega) (by omega), nI_clamp (show p < 2 ^ 31 by omega), show nI x + (1 : Int32) = nI (x + 1) from nI_add x 1]
            refine ih (x + 1) o' _ _ (by omega) (by omega) (by omega) (by rw [hd2, hdep]; push_cast; omega) (fun y hy => ?_) (fun c hc => ?_) (fun t ht => ?_)
            · by_cases ey : y = x + 1
              · rw [ey, hd2, hdep]; push_cast; omega
              · exact hgood y (by omega)
            · by_cases ecp : c = p
              · subst ecp
                rw [pk_us]
                exact ⟨fun h => by omega, fun _ => Or.inr ⟨x, by omega, hmt, rfl⟩, fun h => by omega⟩
              · rw [pk_un ecp]
                by_cases ec : c = x
                · subst ec
                  rw [pk_us]
                  exact ⟨fun h => by omega, fun h => by omega, fun _ => ⟨p, by omega, hmt, rfl⟩⟩
                · rw [pk_un ec, pk_un ec]
                  obtain ⟨f1, f2, f3⟩ := hP c (by omega)
                  refine ⟨f1, fun h => ?_, fun h => ?_⟩
                  · rcases f2 h with q | ⟨k, hk, q⟩
                    · refine Or.inl (fun y h1 h2 => ?_)
                      by_cases ey : y = x + 1
                      · rw [ey, hd2, hdep]
                        have q1 := q x (by omega) (Nat.le_refl _)
                        rw [hdep] at q1
                        rcases Nat.lt_trichotomy c p with r | r | r
                        · have := q p r (by omega)
                          rw [g4] at this
                          push_cast
                          omega
                        · exact absurd r ecp
                        · have := g5 c r (by omega)
                          rw [g4] at this
                          push_cast at q1
                          omega
                      · exact q y h1 (by omega)
                    · exact Or.inr ⟨k, by omega, q⟩
                  · obtain ⟨p', hp', q⟩ := f3 h
                    exact ⟨p', by omega, q⟩
            · obtain ⟨p', f1, f2, f3, f4, f5⟩ := hO t (by omega)
              refine ⟨p', f1, by omega, f3, f4, fun y h1 h2 => ?_⟩
              by_cases ey : y = x + 1
              · rw [ey, hd2, hdep, f4]; push_cast; omega
              · exact f5 y h1 (by omega)
        · have k46 : mk x = 46 := by rcases hmk.1 with q | q | q <;> omega
          rw [k46] at hd1
          have hd2 : dep mk (x + 1) = dep mk x := by rw [hd1]; show _ + 0 = _; omega
          rw [if_neg (show ¬ nI (mk x) = (41 : Int32) by rw [show (41 : Int32) = nI 41 from rfl]; exact nI_ne (show mk x < 2 ^ 31 by rcases hmk.1 with q | q | q <;> omega) (by decide) k41), show nI x + (1 : Int32) = nI (x + 1) from nI_add x 1]
          refine ih (x + 1) o _ _ (by omega) (by omega) (by omega) (by rw [hd2, hdep]) (fun y hy => ?_) (fun c hc => ?_) (fun t ht => ?_)
          · by_cases ey : y = x + 1
            · rw [ey, hd2]; exact hgood x (Nat.le_refl _)
            · exact hgood y (by omega)
          · by_cases ec : c = x
            · subst ec
              rw [pk_us]
              exact ⟨fun _ => rfl, fun h => by omega, fun h => by omega⟩
            · rw [pk_un ec]
              obtain ⟨f1, f2, f3⟩ := hP c (by omega)
              refine ⟨f1, fun h => ?_, fun h => ?_⟩
              · rcases f2 h with q | ⟨k, hk, q⟩
                · refine Or.inl (fun y h1 h2 => ?_)
                  by_cases ey : y = x + 1
                  · rw [ey, hd2]; exact q x (by omega) (Nat.le_refl _)
                  · exact q y h1 (by omega)
                · exact Or.inr ⟨k, by omega, q⟩
              · obtain ⟨p', hp', q⟩ := f3 h
                exact ⟨p', by omega, q⟩
          · obtain ⟨p', f1, f2, f3, f4, f5⟩ := hO t (by omega)
            refine ⟨p', f1, by omega, f3, f4, fun y h1 h2 => ?_⟩
            by_cases ey : y = x + 1
            · rw [ey, hd2]; exact f5 x f2 (Nat.le_refl _)
            · exact f5 y h1 (by omega)
theorem c_pairUp {marks P op : Nat → Int32} (hC : C ≤ 8) (hm : ∀ c, c < C → (mk c = 40 ∨ mk c = 41 ∨ mk c = 46) ∧ marks c = nI (mk c)) :
    ∃ P' op', (Bal mk C ∧ f_Co_pairUp marks P op (nI C) = some (1, P', op') ∧ PP mk C P') ∨ (¬ Bal mk C ∧ f_Co_pairUp marks P op (nI C) = some (0, P', op')) := by
  unfold f_Co_pairUp
  exact c_pairL hC hm 1000 0 0 P op (by omega) (by omega) (by omega) rfl (fun y hy => by rw [show y = 0 by omega]; exact Int.le_refl 0) (fun c hc => by omega) (fun t ht => by omega)
end PR
