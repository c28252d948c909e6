/-! 77.mscore: the reference's scores -/
section MSC
variable {R C : Nat} {lt : Nat → Nat → Nat} {nl : Nat → Nd} {N : Nat} {LT so fr to_ : Nat → Int32} {K F B O : Nat → Int32}
theorem neg_nI {w : Nat} (h : w < 2 ^ 31) : ¬ nI w < (0 : Int32) := nI_pos h
theorem m_steps2 (hG : NG nl N) (hL : Ly nl N K F B) (hBN : B N = nI (fs nl N)) (hsec : ∀ n, n < N → (nl n).1 = 4 → O n = nI (nl n).2.2.2.1) {v : Nat} (hv : v < fs nl N) {kk : Int32 → Option (Nat → Int32)} :
    ∀ (m x : Nat), x ≤ (tgf nl N v).length → (tgf nl N v).length < x + m → f_Mo_scoreSteps_L2 B O K F (nI v) kk m (nI x) = kk (nI (tgf nl N v).length) := by
  have hl6 := tg_len hG hv
  have hS := hG.1.2.1
  intro m
  induction m with
  | zero => intro x h1 h2; omega
  | succ m ih =>
    intro x h1 h2
    rw [f_Mo_scoreSteps_L2, (m_targetOf hG.1 hL hBN hsec hv).1 x (by omega), ob1_some]
    by_cases c : x < (tgf nl N v).length
    · have := tg_at hG hv c
      rw [if_pos c, if_neg (neg_nI (by omega)), nI_p1]
      exact ih (x + 1) (by omega) (by omega)
    · rw [if_neg c, if_pos (by decide), show x = (tgf nl N v).length by omega]
theorem m_steps20 (hM : MT R C lt nl N LT so fr to_) (hG : NG nl N) (hL : Ly nl N K F B) (hBN : B N = nI (fs nl N)) (hsec : ∀ n, n < N → (nl n).1 = 4 → O n = nI (nl n).2.2.2.1) {v : Nat} (hv : v < fs nl N) :
    ∀ (m x : Nat) (ST : Nat → Int32), x ≤ (tgf nl N v).length → (tgf nl N v).length < x + m →
      ∃ ST', f_Mo_scoreSteps_L20 (nI R) LT so fr to_ B O K F (nI v) (nI (tgf nl N v).length) f_Mo_scoreSteps_K20_117 m (nI x) ST = some ST' ∧ (∀ k, x ≤ k → k < (tgf nl N v).length → ST' (8 * v + k) = i32 (stf R lt nl N v k)) ∧ (∀ u, (u < 8 * v + x ∨ 8 * v + 8 ≤ u) → ST' u = ST u) := by
  have hl6 := tg_len hG hv
  have hS := hG.1.2.1
  have hR := hM.1
  obtain ⟨a1, a2, a3⟩ := Ly_at hL hv
  have hk8 := kd_le hG.1.2.2.1 hv
  intro m
  induction m with
  | zero => intro x ST h1 h2; omega
  | succ m ih =>
    intro x ST h1 h2
    rw [f_Mo_scoreSteps_L20]
    by_cases c1 : (tgf nl N v).length ≤ x
    · rw [if_pos ((nI_leI (by omega) (by omega)).mpr c1)]
      exact ⟨ST, rfl, fun k h3 h4 => by omega, fun u _ => rfl⟩
    · have hx : x < (tgf nl N v).length := by omega
      have hw := tg_at hG hv hx
      obtain ⟨w, hwe⟩ : ∃ w, (tgf nl N v).getD x 0 = w := ⟨_, rfl⟩
      have hst : stf R lt nl N v x = if kdf nl N v = 7 then 0 else lgc (cn (fun r => inS lt nl N v r && inS lt nl N w r) R + 1) (cn (inS lt nl N v) R + (tgf nl N v).length) := by unfold stf; rw [hwe]
      rw [hwe] at hw
      obtain ⟨b1, b2, b3⟩ := Ly_at hL hw
      have hw8 := kd_le hG.1.2.2.1 hw
      rw [if_neg (fun h => c1 ((nI_leI (by omega) (by omega)).mp h)), (m_targetOf hG.1 hL hBN hsec hv).1 x (by omega), ob1_some, if_pos hx, hwe, gd_in (show v < 48 by omega) (by omega), nI_clamp (show v < 2 ^ 31 by omega), a1, (c_isIns _ hk8).2, ob1_some]
      have fin : ∀ (z : Int32), z = i32 (stf R lt nl N v x) → ∃ ST', f_Mo_scoreSteps_L20 (nI R) LT so fr to_ B O K F (nI v) (nI (tgf nl N v).length) f_Mo_scoreSteps_K20_117 m (nI (x + 1)) (upd ST (8 * v + x) z) = some ST' ∧ (∀ k, x ≤ k → k < (tgf nl N v).length → ST' (8 * v + k) = i32 (stf R lt nl N v k)) ∧ (∀ u, (u < 8 * v + x ∨ 8 * v + 8 ≤ u) → ST' u = ST u) := by
        intro z hz
        obtain ⟨ST', g1, g2, g3⟩ := ih (x + 1) (upd ST (8 * v + x) z) (by omega) (by omega)
        refine ⟨ST', g1, fun k h3 h4 => ?_, fun u hu => ?_⟩
        · by_cases e : k = x
          · subst e; rw [g3 _ (by omega), pk_us, hz]
          · exact g2 k (by omega) h4
        · rw [g3 u (by omega), pk_un (by omega)]
      have j69 : ∀ c, c = cn (fun r => inS lt nl N v r && inS lt nl N w r) R → ∃ ST', f_Mo_scoreSteps_J69 (nI R) LT so fr to_ K F (nI v) (nI (tgf nl N v).length) (nI x) ST (f_Mo_scoreSteps_L20 (nI R) LT so fr to_ B O K F (nI v) (nI (tgf nl N v).length) f_Mo_scoreSteps_K20_117 m) (nI c) = some ST' ∧ (∀ k, x ≤ k → k < (tgf nl N v).length → ST' (8 * v + k) = i32 (stf R lt nl N v k)) ∧ (∀ u, (u < 8 * v + x ∨ 8 * v + 8 ≤ u) → ST' u = ST u) := by
        intro c hc
        unfold f_Mo_scoreSteps_J69
        rw [gd_in (show v < 48 by omega) (by omega), nI_clamp (show v < 2 ^ 31 by omega), a1, nI8, pk_mul, nI_add, gd_in (show 8 * v + x < 384 by omega) (by omega), nI_clamp (show 8 * v + x < 2 ^ 31 by omega), nI_p1]
        by_cases k7 : kdf nl N v = 7
        · rw [if_pos (show nI (kdf nl N v) = (7 : Int32) by rw [k7]; rfl)]
          exact fin 0 (by rw [hst, if_pos k7]; rfl)
        · rw [if_neg (show ¬ nI (kdf nl N v) = (7 : Int32) by rw [nI7]; exact nI_ne (by omega) (by omega) k7), m_rowsIn hM hL hS hv, ob1_some, nI_p1, nI_add]
          have hc1 := cn_le (fun r => inS lt nl N v r && inS lt nl N w r) R
          have hc2 := cn_le (inS lt nl N v) R
          obtain ⟨d, hd⟩ : ∃ d, cn (inS lt nl N v) R + (tgf nl N v).length = d + 1 := ⟨cn (inS lt nl N v) R + (tgf nl N v).length - 1, by omega⟩
          rw [hd, (lg_sp c (by omega) d (by omega)).2, ob1_some, gd_in (show 8 * v + x < 384 by omega) (by omega)]
          exact fin _ (by rw [hst, if_neg k7, hd, hc])
      cases hi : ins (kdf nl N v) with
      | true =>
        rw [if_pos (rfl : true = true), if_neg (by decide : ¬ (1 : Int32) = 0)]
        unfold f_Mo_scoreSteps_J58
        exact j69 0 (by rw [cn_none (fun r _ => by rw [inS_ins hi]; rfl)])
      | false =>
        rw [if_neg (by decide : ¬ false = true), if_pos (rfl : (0 : Int32) = 0), gd_in (show w < 48 by omega) (by omega), nI_clamp (show w < 2 ^ 31 by omega), b1, (c_isIns _ hw8).2, ob1_some]
        cases hj : ins (kdf nl N w) with
        | true =>
          rw [if_pos (rfl : true = true), if_neg (by decide : ¬ (1 : Int32) = 0)]
          unfold f_Mo_scoreSteps_J58
          exact j69 0 (by rw [cn_none (fun r _ => by rw [inS_ins hj, Bool.and_false])])
        | false =>
          rw [if_neg (by decide : ¬ false = true), if_pos (rfl : (0 : Int32) = 0), m_rowsFrom hM hL hS hv hw, ob1_some]
          exact j69 _ rfl
theorem m_steps (hM : MT R C lt nl N LT so fr to_) (hG : NG nl N) (hL : Ly nl N K F B) (hBN : B N = nI (fs nl N)) (hsec : ∀ n, n < N → (nl n).1 = 4 → O n = nI (nl n).2.2.2.1) {v : Nat} (hv : v < fs nl N) (ST : Nat → Int32) :
    ∃ ST', f_Mo_scoreSteps (nI R) LT so fr to_ B O K F ST (nI v) = some ST' ∧ (∀ k, k < (tgf nl N v).length → ST' (8 * v + k) = i32 (stf R lt nl N v k)) ∧ (∀ u, (u < 8 * v ∨ 8 * v + 8 ≤ u) → ST' u = ST u) := by
  have hl6 := tg_len hG hv
  unfold f_Mo_scoreSteps
  have h2 := m_steps2 hG hL hBN hsec hv (kk := f_Mo_scoreSteps_K2_18 (nI R) LT so fr to_ B O K F ST (nI v)) 1000 0 (by omega) (by omega)
  have h2 : f_Mo_scoreSteps_L2 B O K F (nI v) (f_Mo_scoreSteps_K2_18 (nI R) LT so fr to_ B O K F ST (nI v)) 1000 0 = _ := h2
  rw [h2]
  unfold f_Mo_scoreSteps_K2_18
  obtain ⟨ST', g1, g2, g3⟩ := m_steps20 hM hG hL hBN hsec hv 1000 0 ST (by omega) (by omega)
  exact ⟨ST', g1, fun k hk => g2 k (by omega) hk, fun u hu => g3 u (by omega)⟩
/-- whether row r counts at letters a and b of state v, as the reference looks at it -/
def fitM (LT : Nat → Int32) (nl : Nat → Nd) (N v a b r : Nat) : Bool := decide (LT (8 * r + lcol nl N v) = nI a) && (decide (kdf nl N v ≠ 1) || decide (LT (8 * r + (nl (ndf nl N v)).2.2.1) = nI b))
theorem m_let38 (hM : MT R C lt nl N LT so fr to_) (hG : NG nl N) (hL : Ly nl N K F B) {v a b : Nat} (hv : v < fs nl N) {kk : Int32 → Int32 → Option (Nat → Int32)} :
    ∀ (m x : Nat), x ≤ R → R < x + m → f_Mo_scoreLetters_L38 (nI R) LT so fr to_ K F (nI v) (nI a) (nI b) kk m (nI (cn (fun r => fitM LT nl N v a b r && inS lt nl N v r) x)) (nI x) = kk (nI (cn (fun r => fitM LT nl N v a b r && inS lt nl N v r) R)) (nI R) := by
  have hS := hG.1.2.1
  have hM' := hM
  obtain ⟨hR, hC, hN, hlt, hnd⟩ := hM'
  obtain ⟨a1, a2, a3⟩ := Ly_at hL hv
  have hk8 := kd_le hG.1.2.2.1 hv
  obtain ⟨h8, hcol, hs, hf, ht, l8, r8⟩ := hnd _ a3
  have hf : fr (ndf nl N v) = nI (nl (ndf nl N v)).2.1 := hf
  have ht : to_ (ndf nl N v) = nI (nl (ndf nl N v)).2.2.1 := ht
  have hlc8 : lcol nl N v < 8 := by unfold lcol; split <;> assumption
  intro m
  induction m with
  | zero => intro x h1 h2; omega
  | succ m ih =>
    intro x h1 h2
    rw [f_Mo_scoreLetters_L38]
    by_cases c1 : R ≤ x
    · rw [if_pos ((nI_leI (by omega) (by omega)).mpr c1), show x = R by omega]
    · have hx : x < R := by omega
      have hkr := (kr_lt lt (nl (ndf nl N v)) x).1
      rw [if_neg (fun h => c1 ((nI_leI (by omega) (by omega)).mp h)), nI_clamp (show v < 2 ^ 31 by omega), a1, a2, nI_clamp (show ndf nl N v < 2 ^ 31 by omega), hf, ht, gd_in (show ndf nl N v < 24 by omega) (by omega), gd_in (show ndf nl N v < 24 by omega) (by omega)]
      have hih := ih (x + 1) (by omega) (by omega)
      rw [cn] at hih
      have j132F : fitM LT nl N v a b x = false → f_Mo_scoreLetters_J132 LT so fr to_ K F (nI v) (nI (cn (fun r => fitM LT nl N v a b r && inS lt nl N v r) x)) (nI x) (f_Mo_scoreLetters_L38 (nI R) LT so fr to_ K F (nI v) (nI a) (nI b) kk m) 0 = kk (nI (cn (fun r => fitM LT nl N v a b r && inS lt nl N v r) R)) (nI R) := by
        intro hfm
        unfold f_Mo_scoreLetters_J132
        rw [if_pos rfl, nI_p1]
        rw [hfm, Bool.false_and, if_neg (by decide)] at hih
        exact hih
      have j132T : fitM LT nl N v a b x = true → f_Mo_scoreLetters_J132 LT so fr to_ K F (nI v) (nI (cn (fun r => fitM LT nl N v a b r && inS lt nl N v r) x)) (nI x) (f_Mo_scoreLetters_L38 (nI R) LT so fr to_ K F (nI v) (nI a) (nI b) kk m) 1 = kk (nI (cn (fun r => fitM LT nl N v a b r && inS lt nl N v r) R)) (nI R) := by
        intro hfm
        unfold f_Mo_scoreLetters_J132
        rw [if_neg (by decide : ¬ (1 : Int32) = 0), nI_p1, nI_p1, nI_clamp (show v < 2 ^ 31 by omega), a1, a2, m_kindAt hM hx a3, ob1_some]
        rw [hfm, Bool.true_and] at hih
        by_cases c : kr lt (nl (ndf nl N v)) x = kdf nl N v
        · have e : inS lt nl N v x = true := decide_eq_true c
          rw [e, if_pos rfl] at hih
          rw [if_pos (by rw [c])]; exact hih
        · have e : inS lt nl N v x = false := decide_eq_false c
          rw [e, if_neg (by decide)] at hih
          rw [if_neg (fun q => c ((nI_eq (by omega) (by omega)).mp q))]; exact hih
      have j76 : ∀ c, c = lcol nl N v → f_Mo_scoreLetters_J76 LT so fr to_ K F (nI v) (nI a) (nI b) (nI (cn (fun r => fitM LT nl N v a b r && inS lt nl N v r) x)) (nI x) (f_Mo_scoreLetters_L38 (nI R) LT so fr to_ K F (nI v) (nI a) (nI b) kk m) (nI c) = kk (nI (cn (fun r => fitM LT nl N v a b r && inS lt nl N v r) R)) (nI R) := by
        intro c hc
        subst hc
        unfold f_Mo_scoreLetters_J76
        rw [nI8, pk_mul, nI_add, gd_in (show 8 * x + lcol nl N v < 32 by omega) (by omega), nI_clamp (show 8 * x + lcol nl N v < 2 ^ 31 by omega)]
        unfold f_Mo_scoreLetters_J88 f_Mo_scoreLetters_J126
        rw [nI_clamp (show v < 2 ^ 31 by omega), a1, a2, nI_clamp (show ndf nl N v < 2 ^ 31 by omega), ht, nI8, pk_mul, nI_add, gd_in (show ndf nl N v < 24 by omega) (by omega), gd_in (show 8 * x + (nl (ndf nl N v)).2.2.1 < 32 by omega) (by omega), nI_clamp (show 8 * x + (nl (ndf nl N v)).2.2.1 < 2 ^ 31 by omega)]
        by_cases e1 : LT (8 * x + lcol nl N v) = nI a
        · rw [if_pos e1]
          by_cases k1 : kdf nl N v = 1
          · rw [if_pos (show nI (kdf nl N v) = (1 : Int32) by rw [k1]; rfl), if_neg (by decide : ¬ (1 : Int32) = 0)]
            by_cases e2 : LT (8 * x + (nl (ndf nl N v)).2.2.1) = nI b
            · rw [if_pos e2]; exact j132T (by unfold fitM; simp [e1, e2])
            · rw [if_neg e2]; exact j132F (by unfold fitM; simp [k1, e2])
          · rw [if_neg (show ¬ nI (kdf nl N v) = (1 : Int32) by rw [nI1]; exact nI_ne (by omega) (by omega) k1)]
            exact j132T (by unfold fitM; simp [e1, k1])
        · rw [if_neg e1]
          by_cases k1 : kdf nl N v = 1
          · rw [if_pos (show nI (kdf nl N v) = (1 : Int32) by rw [k1]; rfl), if_pos (rfl : (0 : Int32) = 0)]
            exact j132F (by unfold fitM; simp [e1])
          · rw [if_neg (show ¬ nI (kdf nl N v) = (1 : Int32) by rw [nI1]; exact nI_ne (by omega) (by omega) k1)]
            exact j132F (by unfold fitM; simp [e1])
      by_cases k3 : kdf nl N v = 3
      · rw [if_pos (show nI (kdf nl N v) = (3 : Int32) by rw [k3]; rfl)]
        exact j76 _ (by unfold lcol; rw [if_pos k3])
      · rw [if_neg (show ¬ nI (kdf nl N v) = (3 : Int32) by rw [nI3]; exact nI_ne (by omega) (by omega) k3)]
        exact j76 _ (by unfold lcol; rw [if_neg k3])
theorem fit_at (hM : MT R C lt nl N LT so fr to_) (hG : NG nl N) {v a b r : Nat} (hv : v < fs nl N) (hr : r < R) (ha : a < 4) (hb : b < 4) (h123 : kdf nl N v = 1 ∨ kdf nl N v = 2 ∨ kdf nl N v = 3) :
    fitM LT nl N v a b r = (decide (lt r (lcol nl N v) = a) && (decide (kdf nl N v ≠ 1) || decide (lt r (nl (ndf nl N v)).2.2.1 = b))) := by
  obtain ⟨hR, hC, hN, hlt, hnd⟩ := hM
  obtain ⟨a3, -, -, hmem⟩ := nd_rng hv
  obtain ⟨h8, hcol, -⟩ := hnd _ a3
  have hsk := sk_123 _ h8
  have hk : (nl (ndf nl N v)).1 = 1 ∨ (nl (ndf nl N v)).1 = 2 ∨ (nl (ndf nl N v)).1 = 3 := by
    rcases h123 with q | q | q
    · have := hsk.1 (by rw [← q]; exact hmem); omega
    · have := hsk.2.1 (by rw [← q]; exact hmem); omega
    · have := hsk.2.2 (by rw [← q]; exact hmem); omega
  have hc := hcol hk
  have hlc : lcol nl N v < C := by unfold lcol; split; exact hc.2; exact hc.1
  have e1 := hlt r hr _ hlc
  have e2 := hlt r hr _ hc.2
  unfold fitM
  rw [e1.2, e2.2]
  have d1 : decide (nI (lt r (lcol nl N v)) = nI a) = decide (lt r (lcol nl N v) = a) := decide_eq_decide.mpr (nI_eq (by omega) (by omega))
  have d2 : decide (nI (lt r (nl (ndf nl N v)).2.2.1) = nI b) = decide (lt r (nl (ndf nl N v)).2.2.1 = b) := decide_eq_decide.mpr (nI_eq (by omega) (by omega))
  rw [d1, d2]
theorem m_K38 (hM : MT R C lt nl N LT so fr to_) (hG : NG nl N) (hL : Ly nl N K F B) {v a b : Nat} (hv : v < fs nl N) (hlo : 0 < lo (kdf nl N v)) (ha : a < 4) (hb : b < 4) {rec26 : Int32 → (Nat → Int32) → Option (Nat → Int32)} (EM : Nat → Int32) (y : Int32) :
    f_Mo_scoreLetters_K38_167 (nI R) LT so fr to_ K F (nI v) (nI a) (nI b) EM rec26 (nI (cn (fun r => fitM LT nl N v a b r && inS lt nl N v r) R)) y = rec26 (nI (b + 1)) (upd EM (16 * v + 4 * a + b) (i32 (emf R lt nl N v a b))) := by
  have hS := hG.1.2.1
  have hR := hM.1
  obtain ⟨a1, a2, a3⟩ := Ly_at hL hv
  have hk8 := kd_le hG.1.2.2.1 hv
  unfold f_Mo_scoreLetters_K38_167
  rw [nI_clamp (show v < 2 ^ 31 by omega), a1, (c_isIns _ hk8).2, ob1_some]
  have hg : ∀ {α : Type} (y : Option α), gd (xin ((16 : Int32) * nI v + (4 : Int32) * nI a + nI b) 768) y = y := fun y => by rw [nI16, nI4, pk_mul, pk_mul, nI_add, nI_add]; exact gd_in (by omega) (by omega)
  have hidx : Int32.toNatClampNeg ((16 : Int32) * nI v + (4 : Int32) * nI a + nI b) = 16 * v + 4 * a + b := by rw [nI16, nI4, pk_mul, pk_mul, nI_add, nI_add]; exact nI_clamp (by omega)
  simp only [hg, hidx]
  rw [nI_p1]
  unfold emf
  cases hi : ins (kdf nl N v) with
  | true =>
    rw [if_pos (rfl : true = true), if_neg (by decide : ¬ (1 : Int32) = 0), nI_p1]
    rfl
  | false =>
    rw [if_neg (by decide : ¬ false = true), if_pos (rfl : (0 : Int32) = 0), if_neg (by decide : ¬ false = true)]
    have h123 := lo_cases _ (show kdf nl N v < 9 by omega) hlo hi
    have hc2 := cn_le (inS lt nl N v) R
    have hc1 := cn_le (fun r => fitM LT nl N v a b r && inS lt nl N v r) R
    by_cases k1 : kdf nl N v = 1
    · have e : cn (fun r => inS lt nl N v r && (decide (lt r (nl (ndf nl N v)).2.1 = a) && decide (lt r (nl (ndf nl N v)).2.2.1 = b))) R = cn (fun r => fitM LT nl N v a b r && inS lt nl N v r) R := cn_congr (fun r hr => by
        rw [fit_at hM hG hv hr ha hb h123, Bool.and_comm]
        have : lcol nl N v = (nl (ndf nl N v)).2.1 := by unfold lcol; rw [if_neg (by omega)]
        rw [this]
        simp [k1])
      rw [if_pos (show nI (kdf nl N v) = (1 : Int32) by rw [k1]; rfl), if_pos k1, m_rowsIn hM hL hS hv, ob1_some, e, nI_p1, nI16, pk_mul, nI_add]
      rw [(lg_16 _ (show cn (fun r => fitM LT nl N v a b r && inS lt nl N v r) R < 5 by omega) _ (show cn (inS lt nl N v) R < 5 by omega)).2, ob1_some]
    · have e : cn (fun r => inS lt nl N v r && decide (lt r (lcol nl N v) = a)) R = cn (fun r => fitM LT nl N v a b r && inS lt nl N v r) R := cn_congr (fun r hr => by
        rw [fit_at hM hG hv hr ha hb h123, Bool.and_comm]
        simp [k1])
      rw [if_neg (show ¬ nI (kdf nl N v) = (1 : Int32) by rw [nI1]; exact nI_ne (by omega) (by omega) k1), if_neg k1, m_rowsIn hM hL hS hv, ob1_some, e, nI_p1, nI4, pk_mul, nI_add]
      rw [(lg_4 _ (show cn (fun r => fitM LT nl N v a b r && inS lt nl N v r) R < 5 by omega) _ (show cn (inS lt nl N v) R < 5 by omega)).2, ob1_some]
theorem m_let26 (hM : MT R C lt nl N LT so fr to_) (hG : NG nl N) (hL : Ly nl N K F B) {v a : Nat} (hv : v < fs nl N) (hlo : 0 < lo (kdf nl N v)) (ha : a < 4) {kk : Int32 → (Nat → Int32) → Option (Nat → Int32)} :
    ∀ (m y : Nat) (EM : Nat → Int32), y ≤ 4 → 4 < y + m → ∃ z EM', f_Mo_scoreLetters_L26 (nI R) LT so fr to_ K F (nI v) (nI a) kk m (nI y) EM = kk z EM' ∧ (∀ b, y ≤ b → b < 4 → EM' (16 * v + 4 * a + b) = i32 (emf R lt nl N v a b)) ∧ (∀ u, (u < 16 * v + 4 * a + y ∨ 16 * v + 4 * a + 4 ≤ u) → EM' u = EM u) := by
  intro m
  induction m with
  | zero => intro y EM h1 h2; omega
  | succ m ih =>
    intro y EM h1 h2
    rw [f_Mo_scoreLetters_L26, nI4]
    by_cases c1 : 4 ≤ y
    · rw [if_pos ((nI_leI (by omega) (by omega)).mpr c1)]
      exact ⟨_, EM, rfl, fun b h3 h4 => by omega, fun u _ => rfl⟩
    · rw [if_neg (fun h => c1 ((nI_leI (by omega) (by omega)).mp h))]
      have hR := hM.1
      have h38 := m_let38 hM hG hL (a := a) (b := y) hv (kk := f_Mo_scoreLetters_K38_167 (nI R) LT so fr to_ K F (nI v) (nI a) (nI y) EM (f_Mo_scoreLetters_L26 (nI R) LT so fr to_ K F (nI v) (nI a) kk m)) 1000 0 (by omega) (by omega)
      have h38 : f_Mo_scoreLetters_L38 (nI R) LT so fr to_ K F (nI v) (nI a) (nI y) (f_Mo_scoreLetters_K38_167 (nI R) LT so fr to_ K F (nI v) (nI a) (nI y) EM (f_Mo_scoreLetters_L26 (nI R) LT so fr to_ K F (nI v) (nI a) kk m)) 1000 0 0 = _ := h38
      rw [h38, m_K38 hM hG hL hv hlo ha (show y < 4 by omega)]
      obtain ⟨z, EM', g1, g2, g3⟩ := ih (y + 1) (upd EM (16 * v + 4 * a + y) (i32 (emf R lt nl N v a y))) (by omega) (by omega)
      refine ⟨z, EM', g1, fun b h3 h4 => ?_, fun u hu => ?_⟩
      · by_cases e : b = y
        · subst e; rw [g3 _ (by omega), pk_us]
        · exact g2 b (by omega) h4
      · rw [g3 u (by omega), pk_un (by omega)]
theorem m_let17 (hM : MT R C lt nl N LT so fr to_) (hG : NG nl N) (hL : Ly nl N K F B) {v : Nat} (hv : v < fs nl N) (hlo : 0 < lo (kdf nl N v)) :
    ∀ (m x : Nat) (EM : Nat → Int32), x ≤ 4 → 4 < x + m → ∃ EM', f_Mo_scoreLetters_L17 (nI R) LT so fr to_ K F (nI v) f_Mo_scoreLetters_K17_249 m (nI x) EM = some EM' ∧ (∀ a, x ≤ a → a < 4 → ∀ b, b < 4 → EM' (16 * v + 4 * a + b) = i32 (emf R lt nl N v a b)) ∧ (∀ u, (u < 16 * v + 4 * x ∨ 16 * v + 16 ≤ u) → EM' u = EM u) := by
  intro m
  induction m with
  | zero => intro x EM h1 h2; omega
  | succ m ih =>
    intro x EM h1 h2
    rw [f_Mo_scoreLetters_L17, nI4]
    by_cases c1 : 4 ≤ x
    · rw [if_pos ((nI_leI (by omega) (by omega)).mpr c1)]
      exact ⟨EM, rfl, fun a h3 h4 => by omega, fun u _ => rfl⟩
    · rw [if_neg (fun h => c1 ((nI_leI (by omega) (by omega)).mp h))]
      obtain ⟨z, EM1, g1, g2, g3⟩ := m_let26 hM hG hL hv hlo (show x < 4 by omega) (kk := f_Mo_scoreLetters_K26_243 (nI x) (f_Mo_scoreLetters_L17 (nI R) LT so fr to_ K F (nI v) f_Mo_scoreLetters_K17_249 m)) 1000 0 EM (by omega) (by omega)
      have g1 : f_Mo_scoreLetters_L26 (nI R) LT so fr to_ K F (nI v) (nI x) (f_Mo_scoreLetters_K26_243 (nI x) (f_Mo_scoreLetters_L17 (nI R) LT so fr to_ K F (nI v) f_Mo_scoreLetters_K17_249 m)) 1000 0 EM = _ := g1
      rw [g1]
      unfold f_Mo_scoreLetters_K26_243
      rw [nI_p1]
      obtain ⟨EM', j1, j2, j3⟩ := ih (x + 1) EM1 (by omega) (by omega)
      refine ⟨EM', j1, fun a h3 h4 b hb => ?_, fun u hu => ?_⟩
      · by_cases e : a = x
        · subst e; rw [j3 _ (by omega)]; exact g2 b (by omega) hb
        · exact j2 a (by omega) h4 b hb
      · rw [j3 u (by omega)]; exact g3 u (by omega)
theorem m_letters (hM : MT R C lt nl N LT so fr to_) (hG : NG nl N) (hL : Ly nl N K F B) {v : Nat} (hv : v < fs nl N) (hlo : 0 < lo (kdf nl N v)) (EM : Nat → Int32) :
    ∃ EM', f_Mo_scoreLetters (nI R) LT so fr to_ K F EM (nI v) = some EM' ∧ (∀ a b, a < 4 → b < 4 → EM' (16 * v + 4 * a + b) = i32 (emf R lt nl N v a b)) ∧ (∀ u, (u < 16 * v ∨ 16 * v + 16 ≤ u) → EM' u = EM u) := by
  have hS := hG.1.2.1
  unfold f_Mo_scoreLetters
  rw [gd_in (show v < 48 by omega) (by omega), gd_in (show v < 48 by omega) (by omega)]
  obtain ⟨EM', g1, g2, g3⟩ := m_let17 hM hG hL hv hlo 1000 0 EM (by omega) (by omega)
  exact ⟨EM', g1, fun a b ha hb => g2 a (by omega) ha b hb, fun u hu => g3 u (by omega)⟩
theorem lo_kA : ∀ k, k < 9 → (decide (k = 0) || decide (k = 4) || decide (k = 7) || decide (k = 8)) = true → lo k = 0 := by decide +kernel
theorem lo_kB : ∀ k, k < 9 → (decide (k = 0) || decide (k = 4) || decide (k = 7) || decide (k = 8)) = false → 0 < lo k := by decide +kernel
theorem lo_kinds (k : Nat) (hk : k < 9) : (k = 0 ∨ k = 4 ∨ k = 7 ∨ k = 8 → lo k = 0) ∧ (¬ k = 0 → ¬ k = 4 → ¬ k = 7 → ¬ k = 8 → 0 < lo k) :=
  ⟨fun h => lo_kA k hk (by rcases h with h | h | h | h <;> subst h <;> rfl), fun h0 h4 h7 h8 => lo_kB k hk (by simp [h0, h4, h7, h8])⟩
def Mn (R : Nat) (lt : Nat → Nat → Nat) (nl : Nat → Nd) (N x : Nat) (ST EM : Nat → Int32) : Prop := ∀ v, v < x → (∀ k, k < (tgf nl N v).length → ST (8 * v + k) = i32 (stf R lt nl N v k)) ∧ (∀ a b, a < 4 → b < 4 → 0 < lo (kdf nl N v) → (kdf nl N v = 1 ∨ b = 0) → EM (16 * v + 4 * a + b) = i32 (emf R lt nl N v a b))
theorem m_build20 (hM : MT R C lt nl N LT so fr to_) (hG : NG nl N) (hL : Ly nl N K F B) (hBN : B N = nI (fs nl N)) (hsec : ∀ n, n < N → (nl n).1 = 4 → O n = nI (nl n).2.2.2.1) {kk : Int32 → (Nat → Int32) → (Nat → Int32) → Option (Int32 × (Nat → Int32) × Int32 × Int32 × (Nat → Int32) × (Nat → Int32) × (Nat → Int32) × (Nat → Int32) × (Nat → Int32) × Int32 × (Nat → Int32) × (Nat → Int32) × (Nat → Int32) × (Nat → Int32) × Int32 × Int32 × (Nat → Int32))} :
    ∀ (m x : Nat) (ST EM : Nat → Int32), x ≤ fs nl N → fs nl N < x + m → Mn R lt nl N x ST EM →
      ∃ y ST' EM', f_Mo_build_L20 (nI R) LT so fr to_ O B (nI (fs nl N)) K F kk m (nI x) ST EM = kk y ST' EM' ∧ Mn R lt nl N (fs nl N) ST' EM' := by
  have hS := hG.1.2.1
  intro m
  induction m with
  | zero => intro x ST EM h1 h2; omega
  | succ m ih =>
    intro x ST EM h1 h2 hMn
    rw [f_Mo_build_L20]
    by_cases c1 : fs nl N ≤ x
    · rw [if_pos ((nI_leI (by omega) (by omega)).mpr c1)]
      have e : x = fs nl N := by omega
      rw [e] at hMn
      exact ⟨_, ST, EM, rfl, hMn⟩
    · have hx : x < fs nl N := by omega
      have hl6 := tg_len hG hx
      obtain ⟨a1, a2, a3⟩ := Ly_at hL hx
      have hk8 := kd_le hG.1.2.2.1 hx
      have hlk := lo_kinds _ (show kdf nl N x < 9 by omega)
      rw [if_neg (fun h => c1 ((nI_leI (by omega) (by omega)).mp h))]
      obtain ⟨ST1, j1, j2, j3⟩ := m_steps hM hG hL hBN hsec hx ST
      have gv : ∀ {α : Type} (y : Option α), gd (xin (nI x) 48) y = y := fun y => gd_in (show x < 48 by omega) (by omega)
      rw [j1, ob1_some]
      simp only [gv]
      rw [nI_clamp (show x < 2 ^ 31 by omega), a1, nI_p1]
      have skip : lo (kdf nl N x) = 0 → ∃ y ST' EM', f_Mo_build_L20 (nI R) LT so fr to_ O B (nI (fs nl N)) K F kk m (nI (x + 1)) ST1 EM = kk y ST' EM' ∧ Mn R lt nl N (fs nl N) ST' EM' := by
        intro h0
        refine ih (x + 1) ST1 EM (by omega) (by omega) (fun v hv => ?_)
        by_cases e : v = x
        · subst e
          exact ⟨j2, fun a b _ _ h => by omega⟩
        · have hl6' := tg_len hG (show v < fs nl N by omega)
          obtain ⟨p1, p2⟩ := hMn v (by omega)
          exact ⟨fun k hk => by rw [j3 _ (by omega)]; exact p1 k hk, p2⟩
      by_cases q0 : kdf nl N x = 0
      · rw [if_pos (show nI (kdf nl N x) = (0 : Int32) by rw [q0]; rfl)]; exact skip (hlk.1 (by omega))
      · rw [if_neg (show ¬ nI (kdf nl N x) = (0 : Int32) by rw [nI0]; exact nI_ne (by omega) (by omega) q0)]
        by_cases q4 : kdf nl N x = 4
        · rw [if_pos (show nI (kdf nl N x) = (4 : Int32) by rw [q4]; rfl)]; exact skip (hlk.1 (by omega))
        · rw [if_neg (show ¬ nI (kdf nl N x) = (4 : Int32) by rw [nI4]; exact nI_ne (by omega) (by omega) q4)]
          by_cases q7 : kdf nl N x = 7
          · rw [if_pos (show nI (kdf nl N x) = (7 : Int32) by rw [q7]; rfl)]; exact skip (hlk.1 (by omega))
          · rw [if_neg (show ¬ nI (kdf nl N x) = (7 : Int32) by rw [nI7]; exact nI_ne (by omega) (by omega) q7)]
            by_cases q8 : kdf nl N x = 8
            · rw [if_pos (show nI (kdf nl N x) = (8 : Int32) by rw [q8]; rfl)]; exact skip (hlk.1 (by omega))
            · rw [if_neg (show ¬ nI (kdf nl N x) = (8 : Int32) by rw [nI8]; exact nI_ne (by omega) (by omega) q8)]
              obtain ⟨EM1, k1, k2, k3⟩ := m_letters hM hG hL hx (hlk.2 q0 q4 q7 q8) EM
              rw [k1, ob1_some]
              refine ih (x + 1) ST1 EM1 (by omega) (by omega) (fun v hv => ?_)
              by_cases e : v = x
              · subst e
                exact ⟨j2, fun a b ha hb _ _ => k2 a b ha hb⟩
              · have hl6' := tg_len hG (show v < fs nl N by omega)
                obtain ⟨p1, p2⟩ := hMn v (by omega)
                exact ⟨fun k hk => by rw [j3 _ (by omega)]; exact p1 k hk, fun a b ha hb h1 h2 => by rw [k3 _ (by omega)]; exact p2 a b ha hb h1 h2⟩
end MSC
