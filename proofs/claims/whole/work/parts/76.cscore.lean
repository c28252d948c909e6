/-! 76.cscore: the class's scores, and the whole of make -/
theorem c_lo9 : ∀ k, k < 9 → f_Fa_lettersOf (nI k) = some (nI (lo k)) := by decide +kernel
theorem sk_123 : ∀ k, k < 8 → (1 ∈ sk k → k = 3) ∧ (2 ∈ sk k → k = 1 ∨ k = 3) ∧ (3 ∈ sk k → k = 2 ∨ k = 3) := by decide +kernel
theorem lo_cases : ∀ k, k < 9 → 0 < lo k → ins k = false → k = 1 ∨ k = 2 ∨ k = 3 := by decide +kernel
section CSC
variable {R C : Nat} {lt : Nat → Nat → Nat} {RS : Nat → Int32} {nl : Nat → Nd} {N : Nat} {tk tl tr : Nat → Int32} {K F B Z : Nat → Int32}
theorem Lz_at (hZ : Lz lt R nl N Z) {v : Nat} (hv : v < fs nl N) : Z v = nI (rset (inS lt nl N v) R) := by
  obtain ⟨n, s, h1, h2, rfl⟩ := st_ex hv
  rw [hZ n h1 s h2]
  congr 1
  refine rset_congr (fun r _ => ?_)
  unfold inS
  rw [ndf_eq h1 h2, kdf_eq h1 h2]
theorem tg_at (hG : NG nl N) {v k : Nat} (hv : v < fs nl N) (hk : k < (tgf nl N v).length) : (tgf nl N v).getD k 0 < fs nl N := (wf_all (R := 0) (lt := fun _ _ => 0) hG).tgt_lt hv hk
theorem tg_len (hG : NG nl N) {v : Nat} (hv : v < fs nl N) : (tgf nl N v).length ≤ 6 := ((wf_all (R := 0) (lt := fun _ _ => 0) hG).2.1 v hv).2.2.2.1
theorem c_stepsL (hR : R ≤ 4) (hG : NG nl N) (hL : Ly nl N K F B) (hZ : Lz lt R nl N Z) {v : Nat} (hv : v < fs nl N) {TC TT TC0 TT0 : Nat → Int32} (hT : Tn v (tgf nl N v) TC TT TC0 TT0) :
    ∀ (m x : Nat) (SS : Nat → Int32), x ≤ (tgf nl N v).length → (tgf nl N v).length < x + m →
      ∃ SS', f_Gr_scoreSteps_L19 K Z TC TT (nI v) (nI (cn (inS lt nl N v) R)) f_Gr_scoreSteps_K19_92 m (nI x) SS = some SS' ∧ (∀ k, x ≤ k → k < (tgf nl N v).length → SS' (6 * v + k) = i32 (stf R lt nl N v k)) ∧ (∀ u, (u < 6 * v + x ∨ 6 * v + 6 ≤ u) → SS' u = SS u) := by
  have hS := hG.1.2.1
  have hl6 := tg_len hG hv
  obtain ⟨a1, a2, a3⟩ := Ly_at hL hv
  have hk8 := kd_le hG.1.2.2.1 hv
  obtain ⟨t1, t2, t3, t4⟩ := hT
  intro m
  induction m with
  | zero => intro x SS h1 h2; omega
  | succ m ih =>
    intro x SS h1 h2
    rw [f_Gr_scoreSteps_L19, gd_in (show v < 43 by omega) (by omega), nI_clamp (show v < 2 ^ 31 by omega), t1]
    by_cases c1 : (tgf nl N v).length ≤ x
    · rw [if_pos ((nI_leI (by omega) (by omega)).mpr c1)]
      exact ⟨SS, rfl, fun k h3 h4 => by omega, fun u _ => rfl⟩
    · have hx : x < (tgf nl N v).length := by omega
      have hw := tg_at hG hv hx
      unfold f_Gr_targetOf
      rw [if_neg (fun h => c1 ((nI_leI (by omega) (by omega)).mp h)), gd_in (show v < 43 by omega) (by omega), nI6, pk_mul, nI_add, gd_in (show v * 6 + x < 258 by omega) (by omega), nI_clamp (show v * 6 + x < 2 ^ 31 by omega), show v * 6 + x = 6 * v + x by omega, t3 x hx, ob1_some, gd_in (show (tgf nl N v).getD x 0 < 43 by omega) (by omega), nI_clamp (show (tgf nl N v).getD x 0 < 2 ^ 31 by omega), Lz_at hZ hv, Lz_at hZ hw, rs_and _ _ hR, c_bits _ hR, ob1_some, gd_in (show v < 43 by omega) (by omega), a1, nI_p1, nI_p1, nI_add, gd_in (show 6 * v + x < 258 by omega) (by omega)]
      have fin : ∀ (z : Int32), z = i32 (stf R lt nl N v x) → ∃ SS', f_Gr_scoreSteps_L19 K Z TC TT (nI v) (nI (cn (inS lt nl N v) R)) f_Gr_scoreSteps_K19_92 m (nI (x + 1)) (upd SS (6 * v + x) z) = some SS' ∧ (∀ k, x ≤ k → k < (tgf nl N v).length → SS' (6 * v + k) = i32 (stf R lt nl N v k)) ∧ (∀ u, (u < 6 * v + x ∨ 6 * v + 6 ≤ u) → SS' u = SS u) := by
        intro z hz
        obtain ⟨SS', g1, g2, g3⟩ := ih (x + 1) (upd SS (6 * v + x) z) (by omega) (by omega)
        refine ⟨SS', g1, fun k h3 h4 => ?_, fun u hu => ?_⟩
        · by_cases e : k = x
          · subst e; rw [g3 _ (by omega), pk_us, hz]
          · exact g2 k (by omega) h4
        · rw [g3 u (by omega), pk_un (by omega)]
      by_cases k7 : kdf nl N v = 7
      · rw [k7, if_pos (show nI 7 = (7 : Int32) from rfl)]
        exact fin 0 (by unfold stf; rw [if_pos k7]; rfl)
      · rw [if_neg (show ¬ nI (kdf nl N v) = (7 : Int32) by rw [nI7]; exact nI_ne (by omega) (by omega) k7)]
        have hc1 := cn_le (fun r => inS lt nl N v r && inS lt nl N ((tgf nl N v).getD x 0) r) R
        have hc2 := cn_le (inS lt nl N v) R
        obtain ⟨d, hd⟩ : ∃ d, cn (inS lt nl N v) R + (tgf nl N v).length = d + 1 := ⟨cn (inS lt nl N v) R + (tgf nl N v).length - 1, by omega⟩
        have hlg := (lg_sp (cn (fun r => inS lt nl N v r && inS lt nl N ((tgf nl N v).getD x 0) r) R) (by omega) d (by omega)).1
        rw [hd, hlg, ob1_some, gd_in (show 6 * v + x < 258 by omega) (by omega)]
        exact fin _ (by unfold stf; rw [if_neg k7, hd])
theorem c_steps (hR : R ≤ 4) (hG : NG nl N) (hL : Ly nl N K F B) (hZ : Lz lt R nl N Z) {v : Nat} (hv : v < fs nl N) {TC TT TC0 TT0 : Nat → Int32} (hT : Tn v (tgf nl N v) TC TT TC0 TT0) (SS : Nat → Int32) :
    ∃ SS', f_Gr_scoreSteps K Z TC TT SS (nI v) = some SS' ∧ (∀ k, k < (tgf nl N v).length → SS' (6 * v + k) = i32 (stf R lt nl N v k)) ∧ (∀ u, (u < 6 * v ∨ 6 * v + 6 ≤ u) → SS' u = SS u) := by
  have hS := hG.1.2.1
  have hl6 := tg_len hG hv
  unfold f_Gr_scoreSteps
  have gv : ∀ {α : Type} (y : Option α), gd (xin (nI v) 43) y = y := fun y => gd_in (show v < 43 by omega) (by omega)
  simp only [gv]
  rw [nI_clamp (show v < 2 ^ 31 by omega), Lz_at hZ hv, c_bits _ hR, ob1_some]
  obtain ⟨SS', g1, g2, g3⟩ := c_stepsL hR hG hL hZ hv hT 1000 0 SS (by omega) (by omega)
  exact ⟨SS', g1, fun k hk => g2 k (by omega) hk, fun u hu => g3 u (by omega)⟩
theorem c_scoreOf (hR : R ≤ 4) (hC : C ≤ 8) (hs : ∀ c, c < C → ∀ a, a < 4 → RS (4 * c + a) = nI (rset (fun r => decide (lt r c = a)) R)) (hT : CTr nl N C tk tl tr) (hG : NG nl N) (hL : Ly nl N K F B) (hZ : Lz lt R nl N Z) {v a b : Nat} (hv : v < fs nl N) (hlo : 0 < lo (kdf nl N v)) (ha : a < 4) (hb : b < 4) : f_Gr_scoreOfLetters RS tl tr K F Z (nI v) (nI a) (nI b) = some (i32 (emf R lt nl N v a b)) := by
  have hS := hG.1.2.1
  obtain ⟨a1, a2, a3⟩ := Ly_at hL hv
  obtain ⟨-, -, -, hmem⟩ := nd_rng hv
  have hk8 := kd_le hG.1.2.2.1 hv
  obtain ⟨hN18, hT⟩ := hT
  obtain ⟨t1, t2, t3, t4, t5⟩ := hT _ a3
  have hsk := sk_123 _ t1
  have gv : ∀ {α : Type} (y : Option α), gd (xin (nI v) 43) y = y := fun y => gd_in (show v < 43 by omega) (by omega)
  unfold f_Gr_scoreOfLetters emf
  rw [gd_in (show v < 43 by omega) (by omega), gd_in (show v < 43 by omega) (by omega), nI_clamp (show v < 2 ^ 31 by omega), a1, (c_isIns _ hk8).1, ob1_some]
  cases hi : ins (kdf nl N v) with
  | true => rfl
  | false =>
    rw [if_neg (by decide : ¬ false = true), if_pos (rfl : (0 : Int32) = 0), if_neg (by decide : ¬ false = true)]
    have h123 := lo_cases _ (show kdf nl N v < 9 by omega) hlo hi
    have hc2 := cn_le (inS lt nl N v) R
    by_cases k1 : kdf nl N v = 1
    · have hn3 := hsk.1 (by rw [← k1]; exact hmem)
      have hcc := t2 (by omega)
      rw [k1, if_pos (show nI 1 = (1 : Int32) from rfl), if_pos rfl]
      unfold f_Gr_scoreOfLetters_J30 f_Gr_rowsWithLetters f_Tr_left f_Tr_right
      simp only [gv]
      rw [nI_clamp (show v < 2 ^ 31 by omega), a1, a2, k1, gd_in (show ndf nl N v < 18 by omega) (by omega), ob1_some, gd_in (show ndf nl N v < 18 by omega) (by omega), ob1_some, nI_clamp (show ndf nl N v < 2 ^ 31 by omega), t4, t5]
      have el : lI (nl (ndf nl N v)) = nI (nl (ndf nl N v)).2.1 := by unfold lI; rw [if_pos (Or.inr hn3)]
      have er : rI (nl (ndf nl N v)) = nI (nl (ndf nl N v)).2.2.1 := by unfold rI; rw [if_pos (Or.inr hn3)]
      rw [el, er, if_pos (show nI 1 = (1 : Int32) from rfl), c_rowsWith hC hs hcc.1 ha, ob1_some, c_rowsWith hC hs hcc.2 hb, ob1_some, ob1_some, Lz_at hZ hv, rs_and _ _ hR, rs_and _ _ hR, c_bits _ hR, ob1_some, c_bits _ hR, ob1_some, nI_p1, nI16, pk_mul, nI_add]
      have hc1 := cn_le (fun r => inS lt nl N v r && (decide (lt r (nl (ndf nl N v)).2.1 = a) && decide (lt r (nl (ndf nl N v)).2.2.1 = b))) R
      rw [(lg_16 _ (show cn (fun r => inS lt nl N v r && (decide (lt r (nl (ndf nl N v)).2.1 = a) && decide (lt r (nl (ndf nl N v)).2.2.1 = b))) R < 5 by omega) _ (show cn (inS lt nl N v) R < 5 by omega)).1, ob1_some]
    · rw [if_neg (show ¬ nI (kdf nl N v) = (1 : Int32) by rw [nI1]; exact nI_ne (by omega) (by omega) k1), if_neg k1]
      unfold f_Gr_scoreOfLetters_J30 f_Gr_rowsWithLetters f_Tr_left f_Tr_right
      simp only [gv]
      rw [nI_clamp (show v < 2 ^ 31 by omega), a1, a2, gd_in (show ndf nl N v < 18 by omega) (by omega), ob1_some, gd_in (show ndf nl N v < 18 by omega) (by omega), ob1_some, nI_clamp (show ndf nl N v < 2 ^ 31 by omega), t4, t5, if_neg (show ¬ nI (kdf nl N v) = (1 : Int32) by rw [nI1]; exact nI_ne (by omega) (by omega) k1)]
      have hc1 := cn_le (fun r => inS lt nl N v r && decide (lt r (lcol nl N v) = a)) R
      have rest : ∀ c, c < C → c = lcol nl N v → (ob1 (some (nI (rset (fun r => decide (lt r c = a)) R))) fun r7 => ob1 (f_Ig_bitCount (Z v &&& r7)) fun r9 => ob1 (f_Ig_bitCount (Z v)) fun r12 => ob1 (f_Fa_log (4 * (r9 + 1)) (r12 + 4)) fun r14 => some r14) = some (i32 (lgc (4 * (cn (fun r => inS lt nl N v r && decide (lt r (lcol nl N v) = a)) R + 1)) (cn (inS lt nl N v) R + 4))) := by
        intro c hc hce
        rw [hce, ob1_some, Lz_at hZ hv, rs_and _ _ hR, c_bits _ hR, ob1_some, c_bits _ hR, ob1_some, nI_p1, nI4, pk_mul, nI_add]
        rw [(lg_4 _ (show cn (fun r => inS lt nl N v r && decide (lt r (lcol nl N v) = a)) R < 5 by omega) _ (show cn (inS lt nl N v) R < 5 by omega)).1, ob1_some]
      by_cases k2 : kdf nl N v = 2
      · have hn := hsk.2.1 (by rw [← k2]; exact hmem)
        have hcc := t2 (by omega)
        have el : lI (nl (ndf nl N v)) = nI (nl (ndf nl N v)).2.1 := by unfold lI; rw [if_pos hn]
        rw [if_pos (show nI (kdf nl N v) = (2 : Int32) by rw [k2]; rfl), el, c_rowsWith hC hs hcc.1 ha, ob1_some]
        exact rest _ hcc.1 (by unfold lcol; rw [if_neg (by omega)])
      · have k3 : kdf nl N v = 3 := by omega
        have hn := hsk.2.2 (by rw [← k3]; exact hmem)
        have hcc := t2 (by omega)
        have er : rI (nl (ndf nl N v)) = nI (nl (ndf nl N v)).2.2.1 := by unfold rI; rw [if_pos hn]
        rw [if_neg (show ¬ nI (kdf nl N v) = (2 : Int32) by rw [nI2]; exact nI_ne (by omega) (by omega) k2), er, c_rowsWith hC hs hcc.2 ha, ob1_some]
        exact rest _ hcc.2 (by unfold lcol; rw [if_pos k3])
theorem c_let39 {v a lb : Nat} (hv : v < 43) (ha : a < 4) (hlb : lb < 4) {em : Nat → Int} (hem : ∀ b, b ≤ lb → f_Gr_scoreOfLetters RS tl tr K F Z (nI v) (nI a) (nI b) = some (i32 (em b))) {kk : Int32 → (Nat → Int32) → Option (Nat → Int32)} :
    ∀ (m y : Nat) (LS : Nat → Int32), y ≤ lb + 1 → lb + 1 < y + m → ∃ z LS', f_Gr_scoreLetters_L39 RS tl tr K F Z (nI v) (nI lb) (nI a) kk m (nI y) LS = kk z LS' ∧ (∀ b, y ≤ b → b ≤ lb → LS' (16 * v + 4 * a + b) = i32 (em b)) ∧ (∀ u, (u < 16 * v + 4 * a + y ∨ 16 * v + 4 * a + 4 ≤ u) → LS' u = LS u) := by
  intro m
  induction m with
  | zero => intro y LS h1 h2; omega
  | succ m ih =>
    intro y LS h1 h2
    rw [f_Gr_scoreLetters_L39]
    by_cases c1 : lb < y
    · rw [if_pos ((nI_ltI (by omega) (by omega)).mpr c1)]
      exact ⟨_, LS, rfl, fun b h3 h4 => by omega, fun u _ => rfl⟩
    · rw [if_neg (fun h => c1 ((nI_ltI (by omega) (by omega)).mp h)), hem y (by omega), ob1_some, nI16, nI4, pk_mul, pk_mul, nI_add, nI_add, gd_in (show v * 16 + a * 4 + y < 688 by omega) (by omega), nI_clamp (show v * 16 + a * 4 + y < 2 ^ 31 by omega), nI_p1, show v * 16 + a * 4 + y = 16 * v + 4 * a + y by omega]
      obtain ⟨z, LS', g1, g2, g3⟩ := ih (y + 1) (upd LS (16 * v + 4 * a + y) (i32 (em y))) (by omega) (by omega)
      refine ⟨z, LS', g1, fun b h3 h4 => ?_, fun u hu => ?_⟩
      · by_cases e : b = y
        · subst e; rw [g3 _ (by omega), pk_us]
        · exact g2 b (by omega) h4
      · rw [g3 u (by omega), pk_un (by omega)]
theorem c_let31 {v lb : Nat} (hv : v < 43) (hlb : lb < 4) {em : Nat → Nat → Int} (hem : ∀ a, a < 4 → ∀ b, b ≤ lb → f_Gr_scoreOfLetters RS tl tr K F Z (nI v) (nI a) (nI b) = some (i32 (em a b))) :
    ∀ (m x : Nat) (LS : Nat → Int32), x ≤ 4 → 4 < x + m → ∃ LS', f_Gr_scoreLetters_L31 RS tl tr K F Z (nI v) (nI lb) f_Gr_scoreLetters_K31_81 m (nI x) LS = some LS' ∧ (∀ a, x ≤ a → a < 4 → ∀ b, b ≤ lb → LS' (16 * v + 4 * a + b) = i32 (em a b)) ∧ (∀ u, (u < 16 * v + 4 * x ∨ 16 * v + 16 ≤ u) → LS' u = LS u) := by
  intro m
  induction m with
  | zero => intro x LS h1 h2; omega
  | succ m ih =>
    intro x LS h1 h2
    rw [f_Gr_scoreLetters_L31, nI4]
    by_cases c1 : 4 ≤ x
    · rw [if_pos ((nI_leI (by omega) (by omega)).mpr c1)]
      exact ⟨LS, rfl, fun a h3 h4 => by omega, fun u _ => rfl⟩
    · rw [if_neg (fun h => c1 ((nI_leI (by omega) (by omega)).mp h))]
      obtain ⟨z, LS1, g1, g2, g3⟩ := c_let39 hv (show x < 4 by omega) hlb (hem x (by omega)) (kk := f_Gr_scoreLetters_K39_75 (nI x) (f_Gr_scoreLetters_L31 RS tl tr K F Z (nI v) (nI lb) f_Gr_scoreLetters_K31_81 m)) 1000 0 LS (by omega) (by omega)
      have g1 : f_Gr_scoreLetters_L39 RS tl tr K F Z (nI v) (nI lb) (nI x) (f_Gr_scoreLetters_K39_75 (nI x) (f_Gr_scoreLetters_L31 RS tl tr K F Z (nI v) (nI lb) f_Gr_scoreLetters_K31_81 m)) 1000 0 LS = _ := g1
      rw [g1]
      unfold f_Gr_scoreLetters_K39_75
      rw [nI_p1]
      obtain ⟨LS', j1, j2, j3⟩ := ih (x + 1) LS1 (by omega) (by omega)
      refine ⟨LS', j1, fun a h3 h4 b hb => ?_, fun u hu => ?_⟩
      · by_cases e : a = x
        · subst e; rw [j3 _ (by omega)]; exact g2 b (by omega) hb
        · exact j2 a (by omega) h4 b hb
      · rw [j3 u (by omega)]; exact g3 u (by omega)
theorem c_letters (hR : R ≤ 4) (hC : C ≤ 8) (hs : ∀ c, c < C → ∀ a, a < 4 → RS (4 * c + a) = nI (rset (fun r => decide (lt r c = a)) R)) (hT : CTr nl N C tk tl tr) (hG : NG nl N) (hL : Ly nl N K F B) (hZ : Lz lt R nl N Z) {v : Nat} (hv : v < fs nl N) (LS : Nat → Int32) :
    ∃ LS', f_Gr_scoreLetters RS tl tr K F Z LS (nI v) = some LS' ∧ (∀ a b, a < 4 → b < 4 → 0 < lo (kdf nl N v) → (kdf nl N v = 1 ∨ b = 0) → LS' (16 * v + 4 * a + b) = i32 (emf R lt nl N v a b)) ∧ (∀ u, (u < 16 * v ∨ 16 * v + 16 ≤ u) → LS' u = LS u) := by
  have hS := hG.1.2.1
  obtain ⟨a1, a2, a3⟩ := Ly_at hL hv
  have hk8 := kd_le hG.1.2.2.1 hv
  unfold f_Gr_scoreLetters f_Gr_scoreLetters_J28
  rw [gd_in (show v < 43 by omega) (by omega), gd_in (show v < 43 by omega) (by omega), nI_clamp (show v < 2 ^ 31 by omega), a1, c_lo9 _ (by omega), ob1_some]
  have hlo2 : lo (kdf nl N v) ≤ 2 := by have := lb_le (kdf nl N v); have := lh_le (kdf nl N v); unfold lo; omega
  by_cases h0 : lo (kdf nl N v) = 0
  · rw [if_pos (by rw [h0]; rfl)]
    exact ⟨LS, rfl, fun a b _ _ h => by omega, fun u _ => rfl⟩
  · rw [if_neg (show ¬ nI (lo (kdf nl N v)) = (0 : Int32) by rw [nI0]; exact nI_ne (by omega) (by omega) h0)]
    by_cases k1 : kdf nl N v = 1
    · rw [if_pos (show nI (kdf nl N v) = (1 : Int32) by rw [k1]; rfl)]
      obtain ⟨LS', g1, g2, g3⟩ := c_let31 (show v < 43 by omega) (show 3 < 4 by decide) (em := emf R lt nl N v) (fun a ha b hb => c_scoreOf hR hC hs hT hG hL hZ hv (by omega) ha (by omega)) 1000 0 LS (by omega) (by omega)
      exact ⟨LS', g1, fun a b ha hb _ _ => g2 a (by omega) ha b (by omega), fun u hu => g3 u (by omega)⟩
    · rw [if_neg (show ¬ nI (kdf nl N v) = (1 : Int32) by rw [nI1]; exact nI_ne (by omega) (by omega) k1)]
      obtain ⟨LS', g1, g2, g3⟩ := c_let31 (show v < 43 by omega) (show 0 < 4 by decide) (em := emf R lt nl N v) (fun a ha b hb => c_scoreOf hR hC hs hT hG hL hZ hv (by omega) ha (by omega)) 1000 0 LS (by omega) (by omega)
      exact ⟨LS', g1, fun a b ha hb _ h => g2 a (by omega) ha b (by rcases h with q | q <;> omega), fun u hu => g3 u (by omega)⟩
/-- what is made of the first x states -/
def Mk (R : Nat) (lt : Nat → Nat → Nat) (nl : Nat → Nd) (N x : Nat) (TC TT SS LS : Nat → Int32) : Prop := ∀ v, v < x → TC v = nI (tgf nl N v).length ∧ (∀ k, k < (tgf nl N v).length → TT (6 * v + k) = nI ((tgf nl N v).getD k 0) ∧ SS (6 * v + k) = i32 (stf R lt nl N v k)) ∧ (∀ a b, a < 4 → b < 4 → 0 < lo (kdf nl N v) → (kdf nl N v = 1 ∨ b = 0) → LS (16 * v + 4 * a + b) = i32 (emf R lt nl N v a b))
theorem c_make6 {sec : Nat → Int32} (hR : R ≤ 4) (hC : C ≤ 8) (hs : ∀ c, c < C → ∀ a, a < 4 → RS (4 * c + a) = nI (rset (fun r => decide (lt r c = a)) R)) (hT : CTr nl N C tk tl tr) (hG : NG nl N) (hL : Ly nl N K F B) (hBN : B N = nI (fs nl N)) (hZ : Lz lt R nl N Z) (hsec : ∀ n, n < N → (nl n).1 = 4 → sec n = nI (nl n).2.2.2.1) :
    ∀ (m x : Nat) (TC TT SS LS : Nat → Int32), x ≤ fs nl N → fs nl N < x + m → Mk R lt nl N x TC TT SS LS →
      ∃ TC' TT' SS' LS', f_Gr_make_L6 RS tl tr sec K F Z B (nI (fs nl N)) (f_Gr_make_K6_42 K F Z B (nI (fs nl N))) m (nI x) TC TT SS LS = some (K, F, Z, B, TC', TT', SS', LS', nI (fs nl N)) ∧ Mk R lt nl N (fs nl N) TC' TT' SS' LS' := by
  have hS := hG.1.2.1
  intro m
  induction m with
  | zero => intro x TC TT SS LS h1 h2; omega
  | succ m ih =>
    intro x TC TT SS LS h1 h2 hM
    rw [f_Gr_make_L6]
    by_cases c1 : fs nl N ≤ x
    · rw [if_pos ((nI_leI (by omega) (by omega)).mpr c1)]
      have e : x = fs nl N := by omega
      rw [e] at hM
      exact ⟨TC, TT, SS, LS, rfl, hM⟩
    · have hx : x < fs nl N := by omega
      have hl6 := tg_len hG hx
      rw [if_neg (fun h => c1 ((nI_leI (by omega) (by omega)).mp h)), gd_in (show x < 43 by omega) (by omega), nI_clamp (show x < 2 ^ 31 by omega)]
      obtain ⟨TC1, TT1, g1, g2⟩ := c_addTargets hG.1 hL hBN hsec hx (TC := upd TC x 0) (TT := TT) (TC0 := TC) (TT0 := TT) ⟨pk_us, fun u hu => pk_un hu, fun j hj => absurd hj (Nat.not_lt_zero _), fun u _ => rfl⟩
      rw [g1, ob2_some]
      obtain ⟨SS1, j1, j2, j3⟩ := c_steps hR hG hL hZ hx g2 SS
      rw [j1, ob1_some]
      obtain ⟨LS1, k1, k2, k3⟩ := c_letters hR hC hs hT hG hL hZ hx LS
      rw [k1, ob1_some, nI_p1]
      refine ih (x + 1) TC1 TT1 SS1 LS1 (by omega) (by omega) (fun v hv => ?_)
      by_cases e : v = x
      · subst e
        exact ⟨g2.1, fun k hk => ⟨g2.2.2.1 k hk, j2 k hk⟩, k2⟩
      · have hl6' := tg_len hG (show v < fs nl N by omega)
        obtain ⟨p1, p2, p3⟩ := hM v (by omega)
        refine ⟨by rw [g2.2.1 v e]; exact p1, fun k hk => ?_, fun a b ha hb h1 h2 => ?_⟩
        · rw [g2.2.2.2 _ (by omega), j3 _ (by omega)]; exact p2 k hk
        · rw [k3 _ (by omega)]; exact p3 a b ha hb h1 h2
theorem c_make {sec : Nat → Int32} (hR : R ≤ 4) (hC : C ≤ 8) (hs : ∀ c, c < C → ∀ a, a < 4 → RS (4 * c + a) = nI (rset (fun r => decide (lt r c = a)) R)) (hT : CTr nl N C tk tl tr) (hG : NG nl N) (hsec : ∀ n, n < N → (nl n).1 = 4 → sec n = nI (nl n).2.2.2.1) (K F Z B TC TT SS LS : Nat → Int32) (sz : Int32) :
    ∃ K' F' Z' B' TC' TT' SS' LS', f_Gr_make (nI R) RS tk tl tr sec (nI N) K F Z B TC TT SS LS sz = some (K', F', Z', B', TC', TT', SS', LS', nI (fs nl N)) ∧ CR (fs nl N) (kdf nl N) (ndf nl N) (tgf nl N) (stf R lt nl N) (emf R lt nl N) K' F' TC' TT' SS' LS' := by
  unfold f_Gr_make
  obtain ⟨K', F', Z', B', g1, g2, g3, g4⟩ := c_lay hR hC hs hT hG.1.2.1 K F Z B sz
  rw [g1, ob5_some]
  obtain ⟨TC', TT', SS', LS', j1, j2⟩ := c_make6 hR hC hs hT hG g2 g3 g4 hsec 1000 0 TC TT SS LS (by omega) (by have := hG.1.2.1; omega) (fun v hv => by omega)
  refine ⟨K', F', Z', B', TC', TT', SS', LS', j1, fun v hv => ?_⟩
  obtain ⟨a1, a2, -⟩ := Ly_at g2 hv
  obtain ⟨p1, p2, p3⟩ := j2 v hv
  exact ⟨a1, a2, p1, p2, p3⟩
end CSC
