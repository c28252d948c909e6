/-! 69.plant: the reference's tree is the same list -/
section PLANT
variable {mk pr : Nat → Nat} {C : Nat} {P : Nat → Int32}
theorem m_node3 {K F T : Nat → Int32} {b : Nat} {a1 a2 a3 : Int32} (hb : b < 24) : f_Mo_node3 (nI b) K F T a1 a2 a3 = some (nI b, nI (b + 1), upd K b a1, upd F b a2, upd T b a3) := by
  unfold f_Mo_node3
  rw [gd_in hb (by omega), gd_in hb (by omega), gd_in hb (by omega), nI_clamp (by omega), nI_p1, nI_m1, i32_e]
theorem p_push {stk : Nat → Int32} {x : Nat} {a1 a2 a3 : Int32} (hx : x + 2 < 300) : f_Mo_push stk (nI x) a1 a2 a3 = some (nI (x + 3), upd (upd (upd stk x a1) (x + 1) a2) (x + 2) a3) := by
  unfold f_Mo_push
  rw [nI_p1, show nI x + (2 : Int32) = nI (x + 2) from nI_add x 2, show nI x + (3 : Int32) = nI (x + 3) from nI_add x 3, gd_in (show x < 300 by omega) (by omega), gd_in (show x + 1 < 300 by omega) (by omega), gd_in hx (by omega), nI_clamp (by omega), nI_clamp (by omega), nI_clamp (by omega)]
theorem mP {c : Nat} (hC : C ≤ 8) (hP : HPr mk C P pr) (hc : c < C) : (0 : Int32) ≤ P c ↔ ¬ mk c = 46 := by
  obtain ⟨h0, h1, h2, h3⟩ := hP c hc
  rcases h0 with q | q | q
  · have := (h2 q).2.1
    rw [(h2 q).2.2, nI0, nI_leI (by omega) (by omega)]; omega
  · obtain ⟨p, hp, e⟩ := h3 q
    rw [e, nI0, nI_leI (by omega) (by omega)]; omega
  · rw [h1 q]
    exact ⟨fun h => absurd h (by decide), fun h => absurd q h⟩
theorem nI_m3 (x : Nat) : nI (x + 3) - (3 : Int32) = nI x := by
  rw [nI3, pk_sub (by omega)]; rfl
theorem m_grow (hC : C ≤ 8) (hP : HPr mk C P pr) {kk : Int32 → Int32 → (Nat → Int32) → (Nat → Int32) → (Nat → Int32) → (Nat → Int32) → (Nat → Int32) → Option (Int32 × (Nat → Int32) × (Nat → Int32) × (Nat → Int32) × (Nat → Int32) × (Nat → Int32))} : ∀ (f i e b t n : Nat) (K F T O stk : Nat → Int32), Rg mk C i e → e - i < f → t + (e - i) ≤ 20 → b + (TR mk pr f i e b).length ≤ 18 → stk (3 * t) = (-1) → stk (3 * t + 1) = nI i → stk (3 * t + 2) = i32 ((e : Int) - 1) →
    ∃ O' stk', f_Mo_plant_L27 P kk (n + (TR mk pr f i e b).length) (nI (3 * t + 3)) (nI b) K F T O stk = f_Mo_plant_L27 P kk n (nI (3 * t)) (nI (b + (TR mk pr f i e b).length)) (wr K b ((TR mk pr f i e b).map kI)) (wr F b ((TR mk pr f i e b).map fI)) (wr T b ((TR mk pr f i e b).map tI)) O' stk' ∧ (∀ x, x < b → O' x = O x) ∧ Sc O' b (TR mk pr f i e b) ∧ (∀ x, x < 3 * t → stk' x = stk x) := by
  intro f
  induction f with
  | zero => intro i e b t n K F T O stk h1 h2; omega
  | succ f ih =>
    intro i e b t n K F T O stk hR hf ht hN s0 s1 s2
    have hRb := hR.1
    have hRc := hR.2.1
    have hpos : ∀ t, t ≤ 20 → ¬ nI (3 * t + 3) ≤ (0 : Int32) := fun t ht h => by rw [nI0, nI_leI (by omega) (by omega)] at h; omega
    have hp2 : ∀ x, nI x + (2 : Int32) = nI (x + 2) := fun x => nI_add x 2
    by_cases c0 : e ≤ i
    · rw [TR_end c0] at hN ⊢
      have hN : b + 1 ≤ 18 := hN
      show ∃ O' stk', f_Mo_plant_L27 P kk (n + 1) _ _ _ _ _ _ _ = _ ∧ _
      rw [f_Mo_plant_L27, if_neg (hpos t (by omega)), nI_m3, nI_p1, hp2, gd_in (show 3 * t < 300 by omega) (by omega), gd_in (show 3 * t + 1 < 300 by omega) (by omega), gd_in (show 3 * t + 2 < 300 by omega) (by omega), nI_clamp (show 3 * t < 2 ^ 31 by omega), nI_clamp (show 3 * t + 1 < 2 ^ 31 by omega), nI_clamp (show 3 * t + 2 < 2 ^ 31 by omega), s0, s1, s2, if_neg (by decide : ¬ (-1 : Int32) = 5), if_pos (by decide : (-1 : Int32) < 100), if_neg (fun h => by rw [le_e (by omega) (by omega)] at h; omega), m_node3 (by omega), ob5_some]
      exact ⟨O, stk, rfl, fun _ _ => rfl, ⟨nofun, trivial⟩, fun _ _ => rfl⟩
    · obtain ⟨e, rfl⟩ : ∃ e', e = e' + 1 := ⟨e - 1, by omega⟩
      have hi : i ≤ e := by omega
      rw [i32_e] at s2
      have hb18 : ∀ n, b + (n + 1) ≤ 18 → b < 24 := fun n h => by omega
      have hie : nI i ≤ nI e := (nI_leI (by omega) (by omega)).mpr hi
      by_cases k46 : mk i = 46
      · rw [TR_left hi k46] at hN ⊢
        simp only [List.length_cons] at hN
        rw [List.length_cons, ← Nat.add_assoc, f_Mo_plant_L27, if_neg (hpos t (by omega)), nI_m3, nI_p1, hp2, gd_in (show 3 * t < 300 by omega) (by omega), gd_in (show 3 * t + 1 < 300 by omega) (by omega), gd_in (show 3 * t + 2 < 300 by omega) (by omega), nI_clamp (show 3 * t < 2 ^ 31 by omega), nI_clamp (show 3 * t + 1 < 2 ^ 31 by omega), nI_clamp (show 3 * t + 2 < 2 ^ 31 by omega), s0, s1, s2, if_neg (by decide : ¬ (-1 : Int32) = 5), if_pos (by decide : (-1 : Int32) < 100), if_pos hie, gd_in (show i < 8 by omega) (by omega), nI_clamp (show i < 2 ^ 31 by omega), if_neg (fun h => ((mP hC hP (show i < C by omega)).mp h) k46), m_node3 (hb18 _ hN), ob5_some, nI_p1, p_push (x := 3 * t) (by omega), ob2_some]
        obtain ⟨O', stk', h1, h2, h3, h4⟩ := ih (i + 1) (e + 1) (b + 1) t n (upd K b 1) (upd F b (nI i)) (upd T b (nI i)) O (upd (upd (upd stk (3 * t) (-1)) (3 * t + 1) (nI (i + 1))) (3 * t + 2) (nI e)) (rg_left hR hi k46) (by omega) (by omega) (by omega) (by rw [pk_un (by omega), pk_un (by omega), pk_us]) (by rw [pk_un (by omega), pk_us]) (by rw [pk_us, i32_e])
        rw [h1]
        refine ⟨O', stk', ?_, fun x hx => h2 x (by omega), ⟨nofun, h3⟩, fun x hx => ?_⟩
        · rw [show b + ((TR mk pr f (i + 1) (e + 1) (b + 1)).length + 1) = b + 1 + (TR mk pr f (i + 1) (e + 1) (b + 1)).length by omega]
          rfl
        · rw [h4 x hx, pk_un (by omega), pk_un (by omega), pk_un (by omega)]
      · have k40 : mk i = 40 := by rcases rg_i hR hi hP with h | h; exact absurd h k46; exact h
        have hpr := rg_pr hR hi hP k40
        have hPi := (hP i (by omega)).2.2.1 k40
        by_cases e46 : mk e = 46
        · rw [TR_right hi k46 e46] at hN ⊢
          simp only [List.length_cons] at hN
          rw [List.length_cons, ← Nat.add_assoc, f_Mo_plant_L27, if_neg (hpos t (by omega)), nI_m3, nI_p1, hp2, gd_in (show 3 * t < 300 by omega) (by omega), gd_in (show 3 * t + 1 < 300 by omega) (by omega), gd_in (show 3 * t + 2 < 300 by omega) (by omega), nI_clamp (show 3 * t < 2 ^ 31 by omega), nI_clamp (show 3 * t + 1 < 2 ^ 31 by omega), nI_clamp (show 3 * t + 2 < 2 ^ 31 by omega), s0, s1, s2, if_neg (by decide : ¬ (-1 : Int32) = 5), if_pos (by decide : (-1 : Int32) < 100), if_pos hie, gd_in (show i < 8 by omega) (by omega), nI_clamp (show i < 2 ^ 31 by omega), if_pos ((mP hC hP (show i < C by omega)).mpr k46), gd_in (show e < 8 by omega) (by omega), nI_clamp (show e < 2 ^ 31 by omega), if_neg (fun h => ((mP hC hP (show e < C by omega)).mp h) e46), m_node3 (hb18 _ hN), ob5_some, nI_m1, p_push (x := 3 * t) (by omega), ob2_some]
          obtain ⟨O', stk', h1, h2, h3, h4⟩ := ih i e (b + 1) t n (upd K b 2) (upd F b (nI e)) (upd T b (nI e)) O (upd (upd (upd stk (3 * t) (-1)) (3 * t + 1) (nI i)) (3 * t + 2) (i32 ((e : Int) - 1))) (rg_right hR hi e46) (by omega) (by omega) (by omega) (by rw [pk_un (by omega), pk_un (by omega), pk_us]) (by rw [pk_un (by omega), pk_us]) (by rw [pk_us])
          rw [h1]
          refine ⟨O', stk', ?_, fun x hx => h2 x (by omega), ⟨nofun, h3⟩, fun x hx => ?_⟩
          · rw [show b + ((TR mk pr f i e (b + 1)).length + 1) = b + 1 + (TR mk pr f i e (b + 1)).length by omega]
            rfl
          · rw [h4 x hx, pk_un (by omega), pk_un (by omega), pk_un (by omega)]
        · by_cases kp : pr i = e
          · rw [TR_both hi k46 e46 kp] at hN ⊢
            simp only [List.length_cons] at hN
            rw [List.length_cons, ← Nat.add_assoc, f_Mo_plant_L27, if_neg (hpos t (by omega)), nI_m3, nI_p1, hp2, gd_in (show 3 * t < 300 by omega) (by omega), gd_in (show 3 * t + 1 < 300 by omega) (by omega), gd_in (show 3 * t + 2 < 300 by omega) (by omega), nI_clamp (show 3 * t < 2 ^ 31 by omega), nI_clamp (show 3 * t + 1 < 2 ^ 31 by omega), nI_clamp (show 3 * t + 2 < 2 ^ 31 by omega), s0, s1, s2, if_neg (by decide : ¬ (-1 : Int32) = 5), if_pos (by decide : (-1 : Int32) < 100), if_pos hie, gd_in (show i < 8 by omega) (by omega), nI_clamp (show i < 2 ^ 31 by omega), if_pos ((mP hC hP (show i < C by omega)).mpr k46), gd_in (show e < 8 by omega) (by omega), nI_clamp (show e < 2 ^ 31 by omega), if_pos ((mP hC hP (show e < C by omega)).mpr e46), gd_in (show i < 8 by omega) (by omega), if_pos (by rw [hPi.2.2, kp]), m_node3 (hb18 _ hN), ob5_some, nI_p1, nI_m1, p_push (x := 3 * t) (by omega), ob2_some]
            obtain ⟨O', stk', h1, h2, h3, h4⟩ := ih (i + 1) e (b + 1) t n (upd K b 3) (upd F b (nI i)) (upd T b (nI e)) O (upd (upd (upd stk (3 * t) (-1)) (3 * t + 1) (nI (i + 1))) (3 * t + 2) (i32 ((e : Int) - 1))) (rg_both hR hi hP k40 kp) (by omega) (by omega) (by omega) (by rw [pk_un (by omega), pk_un (by omega), pk_us]) (by rw [pk_un (by omega), pk_us]) (by rw [pk_us])
            rw [h1]
            refine ⟨O', stk', ?_, fun x hx => h2 x (by omega), ⟨nofun, h3⟩, fun x hx => ?_⟩
            · rw [show b + ((TR mk pr f (i + 1) e (b + 1)).length + 1) = b + 1 + (TR mk pr f (i + 1) e (b + 1)).length by omega]
              rfl
            · rw [h4 x hx, pk_un (by omega), pk_un (by omega), pk_un (by omega)]
          · obtain ⟨a, ha⟩ : ∃ a, TR mk pr f i (pr i + 1) (b + 2) = a := ⟨_, rfl⟩
            obtain ⟨r, hr⟩ : ∃ r, TR mk pr f (pr i + 1) (e + 1) (b + 3 + a.length) = r := ⟨_, rfl⟩
            rw [TR_fork hi k46 e46 kp ha hr] at hN ⊢
            simp only [List.length_cons, List.length_append] at hN
            have hlen : ((4, 0, 0, b + 2 + a.length, 3 + a.length + r.length) :: (5, 0, 0, 0, 1 + a.length) :: (a ++ (6, 0, 0, 0, 1 + r.length) :: r) : List Nd).length = 3 + a.length + r.length := by simp only [List.length_cons, List.length_append]; omega
            rw [hlen, show n + (3 + a.length + r.length) = n + r.length + 1 + a.length + 1 + 1 by omega]
            rw [f_Mo_plant_L27, if_neg (hpos t (by omega)), nI_m3, nI_p1, hp2, gd_in (show 3 * t < 300 by omega) (by omega), gd_in (show 3 * t + 1 < 300 by omega) (by omega), gd_in (show 3 * t + 2 < 300 by omega) (by omega), nI_clamp (show 3 * t < 2 ^ 31 by omega), nI_clamp (show 3 * t + 1 < 2 ^ 31 by omega), nI_clamp (show 3 * t + 2 < 2 ^ 31 by omega), s0, s1, s2, if_neg (by decide : ¬ (-1 : Int32) = 5), if_pos (by decide : (-1 : Int32) < 100), if_pos hie, gd_in (show i < 8 by omega) (by omega), nI_clamp (show i < 2 ^ 31 by omega), if_pos ((mP hC hP (show i < C by omega)).mpr k46), gd_in (show e < 8 by omega) (by omega), nI_clamp (show e < 2 ^ 31 by omega), if_pos ((mP hC hP (show e < C by omega)).mpr e46), gd_in (show i < 8 by omega) (by omega), if_neg (by rw [hPi.2.2]; exact fun h => kp ((nI_eq (by omega) (by omega)).mp h)), m_node3 (show b < 24 by omega), ob5_some, gd_in (show i < 8 by omega) (by omega), hPi.2.2, nI_p1, nI100, nI_add, p_push (x := 3 * t) (by omega), ob2_some, gd_in (show i < 8 by omega) (by omega), p_push (x := 3 * t + 3) (by omega), ob2_some]
            rw [f_Mo_plant_L27, show nI (3 * t + 3 + 3) = nI (3 * (t + 1) + 3) from rfl, if_neg (hpos (t + 1) (by omega)), nI_m3, nI_p1, hp2, show 3 * (t + 1) = 3 * t + 3 by omega, gd_in (show 3 * t + 3 < 300 by omega) (by omega), gd_in (show 3 * t + 3 + 1 < 300 by omega) (by omega), gd_in (show 3 * t + 3 + 2 < 300 by omega) (by omega), nI_clamp (show 3 * t + 3 < 2 ^ 31 by omega), nI_clamp (show 3 * t + 3 + 1 < 2 ^ 31 by omega), nI_clamp (show 3 * t + 3 + 2 < 2 ^ 31 by omega)]
            obtain ⟨st1, hst⟩ : ∃ st1, upd (upd (upd (upd (upd (upd stk (3 * t) (nI (100 + b))) (3 * t + 1) (nI (pr i + 1))) (3 * t + 2) (nI e)) (3 * t + 3) 5) (3 * t + 3 + 1) (nI i)) (3 * t + 3 + 2) (nI (pr i)) = st1 := ⟨_, rfl⟩
            have u3 : st1 (3 * t + 3) = 5 := by rw [← hst, pk_un (by omega), pk_un (by omega), pk_us]
            have u4 : st1 (3 * t + 3 + 1) = nI i := by rw [← hst, pk_un (by omega), pk_us]
            have u5 : st1 (3 * t + 3 + 2) = nI (pr i) := by rw [← hst, pk_us]
            have u0 : st1 (3 * t) = nI (100 + b) := by rw [← hst, pk_un (by omega), pk_un (by omega), pk_un (by omega), pk_un (by omega), pk_un (by omega), pk_us]
            have u1 : st1 (3 * t + 1) = nI (pr i + 1) := by rw [← hst, pk_un (by omega), pk_un (by omega), pk_un (by omega), pk_un (by omega), pk_us]
            have u2 : st1 (3 * t + 2) = nI e := by rw [← hst, pk_un (by omega), pk_un (by omega), pk_un (by omega), pk_us]
            have ux : ∀ x, x < 3 * t → st1 x = stk x := fun x hx => by rw [← hst, pk_un (by omega), pk_un (by omega), pk_un (by omega), pk_un (by omega), pk_un (by omega), pk_un (by omega)]
            rw [hst, u3, u4, u5, if_pos rfl, m_node3 (show b + 1 < 24 by omega), ob5_some, p_push (x := 3 * t + 3) (by omega), ob2_some]
            obtain ⟨O1, st2, h1, h2, h3, h4⟩ := ih i (pr i + 1) (b + 2) (t + 1) (n + r.length + 1) (upd (upd K b 4) (b + 1) 5) (upd (upd F b 0) (b + 1) 0) (upd (upd T b 0) (b + 1) 0) O (upd (upd (upd st1 (3 * t + 3) (-1)) (3 * t + 3 + 1) (nI i)) (3 * t + 3 + 2) (nI (pr i))) (rg_f1 hR hi hP k40) (by omega) (by omega) (by rw [ha]; omega) (by show upd _ _ _ (3 * t + 3) = _; rw [pk_un (by omega), pk_un (by omega), pk_us]) (by show upd _ _ _ (3 * t + 3 + 1) = _; rw [pk_un (by omega), pk_us]) (by show upd _ _ _ (3 * t + 3 + 2) = _; rw [pk_us, i32_e])
            rw [ha] at h1 h3
            have h1 : f_Mo_plant_L27 P kk (n + r.length + 1 + a.length) (nI (3 * t + 3 + 3)) (nI (b + 1 + 1)) (upd (upd K b 4) (b + 1) 5) (upd (upd F b 0) (b + 1) 0) (upd (upd T b 0) (b + 1) 0) O (upd (upd (upd st1 (3 * t + 3) (-1)) (3 * t + 3 + 1) (nI i)) (3 * t + 3 + 2) (nI (pr i))) = _ := h1
            rw [h1]
            have v0 : st2 (3 * t) = nI (100 + b) := by rw [h4 _ (by omega), pk_un (by omega), pk_un (by omega), pk_un (by omega), u0]
            have v1 : st2 (3 * t + 1) = nI (pr i + 1) := by rw [h4 _ (by omega), pk_un (by omega), pk_un (by omega), pk_un (by omega), u1]
            have v2 : st2 (3 * t + 2) = nI e := by rw [h4 _ (by omega), pk_un (by omega), pk_un (by omega), pk_un (by omega), u2]
            have vx : ∀ x, x < 3 * t → st2 x = stk x := fun x hx => by rw [h4 _ (by omega), pk_un (by omega), pk_un (by omega), pk_un (by omega), ux x hx]
            rw [show nI (3 * (t + 1)) = nI (3 * t + 3) from rfl, f_Mo_plant_L27, if_neg (hpos t (by omega)), nI_m3, nI_p1, hp2, gd_in (show 3 * t < 300 by omega) (by omega), gd_in (show 3 * t + 1 < 300 by omega) (by omega), gd_in (show 3 * t + 2 < 300 by omega) (by omega), nI_clamp (show 3 * t < 2 ^ 31 by omega), nI_clamp (show 3 * t + 1 < 2 ^ 31 by omega), nI_clamp (show 3 * t + 2 < 2 ^ 31 by omega), v0, v1, v2, if_neg (show ¬ nI (100 + b) = (5 : Int32) by rw [nI5]; exact nI_ne (by omega) (by omega) (by omega)), if_neg (show ¬ nI (100 + b) < (100 : Int32) by rw [nI100]; exact fun h => absurd ((nI_ltI (by omega) (by omega)).mp h) (by omega)), m_node3 (show b + 2 + a.length < 24 by omega), ob5_some, nI100, pk_sub (by omega), show 100 + b - 100 = b by omega, gd_in (show b < 24 by omega) (by omega), p_push (x := 3 * t) (by omega), ob2_some, nI_clamp (show b < 2 ^ 31 by omega)]
            obtain ⟨O2, st3, g1, g2, g3, g4⟩ := ih (pr i + 1) (e + 1) (b + 3 + a.length) t n (upd (wr (upd (upd K b 4) (b + 1) 5) (b + 2) (a.map kI)) (b + 2 + a.length) 6) (upd (wr (upd (upd F b 0) (b + 1) 0) (b + 2) (a.map fI)) (b + 2 + a.length) 0) (upd (wr (upd (upd T b 0) (b + 1) 0) (b + 2) (a.map tI)) (b + 2 + a.length) 0) (upd O1 b (nI (b + 2 + a.length))) (upd (upd (upd st2 (3 * t) (-1)) (3 * t + 1) (nI (pr i + 1))) (3 * t + 2) (nI e)) (rg_f2 hR hi hP k40) (by omega) (by omega) (by rw [hr]; omega) (by rw [pk_un (by omega), pk_un (by omega), pk_us]) (by rw [pk_un (by omega), pk_us]) (by rw [pk_us, i32_e])
            rw [hr] at g1 g3
            rw [show b + 2 + a.length + 1 = b + 3 + a.length by omega, g1]
            refine ⟨O2, st3, ?_, fun x hx => ?_, ⟨fun _ => ?_, ?_⟩, fun x hx => ?_⟩
            · have key : ∀ (g : Nd → Int32) (K : Nat → Int32) (x4 x5 x6 : Nd), wr (upd (wr (upd (upd K b (g x4)) (b + 1) (g x5)) (b + 2) (a.map g)) (b + 2 + a.length) (g x6)) (b + 3 + a.length) (r.map g) = wr K b ((x4 :: x5 :: (a ++ x6 :: r)).map g) := by
                intro g K x4 x5 x6
                rw [List.map_cons, List.map_cons, List.map_append, List.map_cons]
                show _ = wr (upd (upd K b (g x4)) (b + 1) (g x5)) (b + 1 + 1) (a.map g ++ g x6 :: r.map g)
                rw [wr_app, List.length_map, show b + 1 + 1 = b + 2 by omega]
                show _ = wr (upd (wr (upd (upd K b (g x4)) (b + 1) (g x5)) (b + 2) (a.map g)) (b + 2 + a.length) (g x6)) (b + 2 + a.length + 1) (r.map g)
                rw [show b + 2 + a.length + 1 = b + 3 + a.length by omega]
              rw [← key kI, ← key fI, ← key tI, show b + (3 + a.length + r.length) = b + 3 + a.length + r.length by omega]
              rfl
            · rw [g2 x (by omega), pk_un (by omega)]; exact h2 x (by omega)
            · rw [g2 b (by omega), pk_us]
            · refine ⟨nofun, ?_⟩
              show Sc O2 (b + 2) _
              rw [Sc_app]
              refine ⟨Sc_congr (fun x x1 x2 => ?_) h3, nofun, ?_⟩
              · rw [g2 x (by omega), pk_un (by omega)]
              · rw [show b + 2 + a.length + 1 = b + 3 + a.length by omega]; exact g3
            · rw [g4 x hx, pk_un (by omega), pk_un (by omega), pk_un (by omega), vx x hx]
end PLANT
