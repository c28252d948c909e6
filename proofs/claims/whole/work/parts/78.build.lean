/-! 78.build: the whole of build, for both -/
theorem ob9_some {a0 a1 a2 a3 a4 a5 a6 a7 a8 γ : Type} (x0 : a0) (x1 : a1) (x2 : a2) (x3 : a3) (x4 : a4) (x5 : a5) (x6 : a6) (x7 : a7) (x8 : a8) (k : a0 → a1 → a2 → a3 → a4 → a5 → a6 → a7 → a8 → Option γ) : ob9 (some (x0, x1, x2, x3, x4, x5, x6, x7, x8)) k = k x0 x1 x2 x3 x4 x5 x6 x7 x8 := rfl
theorem Sg_fs {nl : Nat → Nd} : ∀ (l : List Nd) (b : Nat), Sg nl b l → fs nl (b + l.length) = fs nl b + stc l := by
  intro l
  induction l with
  | nil => intro b _; rfl
  | cons x l ih =>
    intro b h
    have h1 := ih (b + 1) h.2
    have h2 : fs nl (b + 1) = fs nl b + (sk (nl b).1).length := rfl
    rw [List.length_cons, show b + (l.length + 1) = b + 1 + l.length by omega, h1, h2, h.1]
    show _ = fs nl b + ((sk x.1).length + stc l)
    omega
theorem wr_nl (g : Nd → Int32) (K : Nat → Int32) (x : Nd) (l : List Nd) (d : Nd) {n : Nat} (hn : n < 1 + l.length) : wr (upd K 0 (g x)) 1 (l.map g) n = g ((x :: l).getD n d) := by
  have h : wr K 0 ((x :: l).map g) (0 + n) = ((x :: l).map g).getD n 0 := wr_at (by rw [List.length_map, List.length_cons]; omega)
  rw [Nat.zero_add] at h
  have h : wr (upd K 0 (g x)) 1 (l.map g) n = ((x :: l).map g).getD n 0 := h
  rw [h]
  have hl : n < (x :: l).length := by rw [List.length_cons]; omega
  simp only [List.getD_eq_getElem?_getD, List.getElem?_map, List.getElem?_eq_getElem hl, Option.map_some, Option.getD_some]
section BUILD
variable {mk pr : Nat → Nat} {C : Nat} {P : Nat → Int32}
theorem tree_ok (hC : C ≤ 8) (hP : HPr mk C P pr) (hb : Bal mk C) :
    ∃ (nl : Nat → Nd) (N : Nat), NG nl N ∧ (∀ n, n < N → ((nl n).1 = 1 ∨ (nl n).1 = 2 ∨ (nl n).1 = 3 → (nl n).2.1 < C ∧ (nl n).2.2.1 < C) ∧ (nl n).2.1 < 8 ∧ (nl n).2.2.1 < 8) ∧
      (∀ (K L Q S : Nat → Int32) (sz : Int32), ∃ K' L' Q' S', f_Tr_grow P (nI C) K L Q S sz = some (K', L', Q', S', nI N) ∧ CTr nl N C K' L' Q' ∧ ∀ n, n < N → (nl n).1 = 4 → S' n = nI (nl n).2.2.2.1) ∧
      (∀ (M : Nat → Int32), (∀ c, c < C → M c = P c) → ∀ (nn : Int32) (so fr to_ ot stk : Nat → Int32), ∃ so' fr' to' ot' stk', f_Mo_plant (nI C) M nn so fr to_ ot stk = some (nI N, so', fr', to', ot', stk') ∧ (∀ n, n < N → so' n = kI (nl n) ∧ fr' n = fI (nl n) ∧ to' n = tI (nl n)) ∧ ∀ n, n < N → (nl n).1 = 4 → ot' n = nI (nl n).2.2.2.1) := by
  have hR : Rg mk C 0 C := ⟨Nat.zero_le _, Nat.le_refl _, hb.2, fun y _ h2 => hb.1 y h2⟩
  obtain ⟨l, hl⟩ : ∃ l, TR mk pr 12 0 C 1 = l := ⟨_, rfl⟩
  have hbn := TR_bn hP 12 0 C 1 hR (by omega)
  have hnp := np_rg hR
  rw [hl] at hbn
  have hnp0 : np mk 0 = 0 := rfl
  rw [hnp0] at hbn hnp
  have hlen : l.length ≤ 17 ∧ stc l ≤ 40 := by
    obtain ⟨-, g2, g3⟩ := hbn
    by_cases z : np mk C - 0 = 0
    · have := g2 z; omega
    · have := g3 (by omega); omega
  obtain ⟨x0, hx0⟩ : ∃ x0 : Nd, x0 = (0, 0, 0, 0, 1 + l.length) := ⟨_, rfl⟩
  obtain ⟨d, hd⟩ : ∃ d : Nd, d = (7, 0, 0, 0, 1) := ⟨_, rfl⟩
  obtain ⟨nl, hnl⟩ : ∃ nl : Nat → Nd, nl = fun n => (x0 :: l).getD n d := ⟨_, rfl⟩
  have hSg : Sg nl 0 (x0 :: l) := by rw [hnl]; exact Sg_self (x0 :: l) d []
  have hn0 : nl 0 = x0 := hSg.1
  have hok := TR_ok hC hP (nl := nl) 12 0 C 1 hR (by omega) (by rw [hl]; exact hSg.2)
  rw [hl] at hok
  obtain ⟨⟨ho1, ho2⟩, ho3⟩ := hok
  have hfs : fs nl (1 + l.length) = 3 + stc l := by
    have := Sg_fs (x0 :: l) 0 hSg
    rw [Nat.zero_add, List.length_cons] at this
    rw [show 1 + l.length = l.length + 1 by omega, this]
    show 0 + ((sk x0.1).length + stc l) = _
    rw [hx0]
    show 0 + (3 + stc l) = _
    omega
  have hroot : (nl 0).1 = 0 ∧ (nl 0).2.1 = 0 ∧ (nl 0).2.2.1 = 0 ∧ (nl 0).2.2.2.2 = 1 + l.length := by rw [hn0, hx0]; exact ⟨rfl, rfl, rfl, rfl⟩
  have hNQ : ∀ n, 0 < n → n < 1 + l.length → NQ nl C (1 + l.length) n := fun n h1 h2 => ho3 n (by omega) h2
  refine ⟨nl, 1 + l.length, ⟨⟨by omega, by omega, fun n hn => ?_, fun n hn h7 => ?_, fun n hn h4 => ?_⟩, ⟨by omega, hroot.1⟩, fun n hn => ⟨?_, fun h7 h4 => ?_, fun h4 => ?_⟩⟩, fun n hn => ?_, ?_, ?_⟩
  · by_cases e : n = 0
    · rw [e, hroot.1]; decide
    · have := (hNQ n (by omega) hn).1; omega
  · by_cases e : n = 0
    · rw [e]; omega
    · exact (hNQ n (by omega) hn).2.2.2.2.1 h7
  · by_cases e : n = 0
    · rw [e, hroot.1] at h4; exact absurd h4 (by decide)
    · have := (hNQ n (by omega) hn).2.2.2.2.2.2 h4; exact ⟨this.1, this.2.1⟩
  · by_cases e : n = 0
    · rw [e, hroot.2.2.2]; omega
    · have := (hNQ n (by omega) hn).2.1; omega
  · by_cases e : n = 0
    · rw [e, hroot.2.2.2, show 0 + 1 = 1 from rfl, ho1]; omega
    · exact (hNQ n (by omega) hn).2.2.2.2.2.1 h7 h4
  · by_cases e : n = 0
    · rw [e, hroot.1] at h4; exact absurd h4 (by decide)
    · exact ((hNQ n (by omega) hn).2.2.2.2.2.2 h4).2.2
  · by_cases e : n = 0
    · rw [e, hroot.1, hroot.2.1, hroot.2.2.1]; exact ⟨fun h => by omega, by decide, by decide⟩
    · have := hNQ n (by omega) hn
      exact ⟨fun h => this.2.2.2.1 (by omega), this.2.2.1.1, this.2.2.1.2⟩
  · intro K L Q S sz
    unfold f_Tr_grow f_Co_count
    rw [nI0, c_tradd (show 0 < 18 by decide), ob4_some, ob1_some, nI_m1]
    obtain ⟨S', g1, g2, g3⟩ := c_grow hC hP 12 0 C 1 0 (upd K 0 (nI 0)) (upd L 0 (-1)) (upd Q 0 (-1)) S hR (by omega) (by omega) (by rw [hl]; omega)
    rw [hl] at g1 g3
    rw [show nI (0 + 1) = nI 1 from rfl, g1, ob5_some]
    refine ⟨_, _, _, _, rfl, ⟨by omega, fun n hn => ?_⟩, fun n hn h4 => ?_⟩
    · have ek : upd K 0 (nI 0) = upd K 0 (kI x0) := by rw [hx0]; rfl
      have el : upd L 0 (-1) = upd L 0 (lI x0) := by rw [hx0]; rfl
      have er : upd Q 0 (-1) = upd Q 0 (rI x0) := by rw [hx0]; rfl
      rw [ek, el, er, wr_nl kI K x0 l d hn, wr_nl lI L x0 l d hn, wr_nl rI Q x0 l d hn, hnl]
      rw [hnl] at hNQ hroot
      refine ⟨?_, fun h => ?_, rfl, rfl, rfl⟩
      · by_cases e : n = 0
        · rw [e, hroot.1]; decide
        · have := (hNQ n (by omega) hn).1; omega
      · by_cases e : n = 0
        · rw [e, hroot.1] at h; omega
        · exact (hNQ n (by omega) hn).2.2.2.1 (by omega)
    · by_cases e : n = 0
      · rw [e, hroot.1] at h4; exact absurd h4 (by decide)
      · obtain ⟨j, rfl⟩ : ∃ j, n = 1 + j := ⟨n - 1, by omega⟩
        have hj : nl (1 + j) = l.getD j d := by rw [hnl, show 1 + j = j + 1 by omega]; rfl
        rw [hj] at h4 ⊢
        exact Sc_at g3 (by omega) h4
  · intro M hMP nn so fr to_ ot stk
    have hPM : HPr mk C M pr := fun c hc => by
      have := hP c hc
      rw [hMP c hc]
      exact this
    unfold f_Mo_plant
    rw [nI0, m_node3 (show 0 < 24 by decide), ob5_some, p_push (x := 0) (by decide), ob2_some, nI_m1]
    obtain ⟨ot', stk', g1, g2, g3, g4⟩ := m_grow hC hPM (kk := f_Mo_plant_K27_292) 12 0 C 1 0 (1000 - l.length) (upd so 0 (nI 0)) (upd fr 0 (nI 0)) (upd to_ 0 (nI 0)) ot (upd (upd (upd stk 0 (-1)) (0 + 1) (nI 0)) (0 + 2) (i32 ((C : Int) - 1))) hR (by omega) (by omega) (by rw [hl]; omega) (by show upd _ _ _ 0 = _; rw [pk_un (by omega), pk_un (by omega), pk_us]) (by show upd _ _ _ 1 = _; rw [pk_un (by omega), pk_us]) (by show upd _ _ _ 2 = _; rw [pk_us])
    rw [hl] at g1 g3
    rw [show 1000 - l.length + l.length = 1000 by omega] at g1
    have g1 : f_Mo_plant_L27 M f_Mo_plant_K27_292 1000 (nI (0 + 3)) (nI (0 + 1)) (upd so 0 (nI 0)) (upd fr 0 (nI 0)) (upd to_ 0 (nI 0)) ot (upd (upd (upd stk 0 (-1)) (0 + 1) (nI 0)) (0 + 2) (i32 ((C : Int) - 1))) = _ := g1
    rw [g1]
    obtain ⟨m, hm⟩ : ∃ m, 1000 - l.length = m + 1 := ⟨999 - l.length, by omega⟩
    rw [hm, f_Mo_plant_L27, if_pos (show nI (3 * 0) ≤ (0 : Int32) by decide)]
    unfold f_Mo_plant_K27_292
    refine ⟨_, _, _, _, _, rfl, fun n hn => ?_, fun n hn h4 => ?_⟩
    · have ek : upd so 0 (nI 0) = upd so 0 (kI x0) := by rw [hx0]; rfl
      have el : upd fr 0 (nI 0) = upd fr 0 (fI x0) := by rw [hx0]; rfl
      have er : upd to_ 0 (nI 0) = upd to_ 0 (tI x0) := by rw [hx0]; rfl
      rw [ek, el, er, wr_nl kI so x0 l d hn, wr_nl fI fr x0 l d hn, wr_nl tI to_ x0 l d hn, hnl]
      exact ⟨rfl, rfl, rfl⟩
    · by_cases e : n = 0
      · rw [e, hroot.1] at h4; exact absurd h4 (by decide)
      · obtain ⟨j, rfl⟩ : ∃ j, n = 1 + j := ⟨n - 1, by omega⟩
        have hj : nl (1 + j) = l.getD j d := by rw [hnl, show 1 + j = j + 1 by omega]; rfl
        rw [hj] at h4 ⊢
        exact Sc_at g3 (by omega) h4
theorem PP_HPr (hm : ∀ c, c < C → (mk c = 40 ∨ mk c = 41 ∨ mk c = 46)) (hC : C ≤ 8) (h : PP mk C P) : HPr mk C P (fun c => Int32.toNatClampNeg (P c)) := fun c hc => by
  obtain ⟨h1, h2, h3⟩ := h c hc
  refine ⟨hm c hc, h1, fun q => ?_, fun q => ?_⟩
  · obtain ⟨k, hk, hmt, e⟩ := h2 q
    have e2 : Int32.toNatClampNeg (P c) = k := by rw [e]; exact nI_clamp (by omega)
    show Mt mk c (Int32.toNatClampNeg (P c)) ∧ Int32.toNatClampNeg (P c) < C ∧ P c = nI (Int32.toNatClampNeg (P c))
    rw [e2]
    exact ⟨hmt, hk, e⟩
  · obtain ⟨p, hp, -, e⟩ := h3 q
    exact ⟨p, hp, e⟩
end BUILD
