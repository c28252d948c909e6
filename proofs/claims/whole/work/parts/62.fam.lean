/-! 62.fam: bits of a word; the family's columns; column -/
theorem toI (x : Int32) : x.toInt = if 2 * x.toBitVec.toNat < 4294967296 then (x.toBitVec.toNat : Int) else (x.toBitVec.toNat : Int) - 4294967296 := by
  have := BitVec.toInt_eq_toNat_cond x.toBitVec
  simpa using this
theorem shr_nat (a s : Int32) (k : Nat) (hs : (s.toBitVec.smod 32).toNat = k) : (a >>> s).toInt = a.toInt / (2 : Int) ^ k := by
  rw [pk_shr a s k hs, Int.shiftRight_eq_div_pow]
  norm_cast
def bits2 (a : Int32) (x : Nat) : Nat := a.toBitVec.toNat / 2 ^ (2 * x) % 4
def bits3 (a : Int32) (x : Nat) : Nat := a.toBitVec.toNat / 2 ^ (3 * x) % 8
theorem ush2 (a : Int32) : ∀ x, x < 12 → ushr32 a ((2 : Int32) * nI x) &&& (3 : Int32) = nI (bits2 a x) := by
  intro x hx
  have h0 : ∀ x, x < 12 → ((((2 : Int32) * nI x).toUInt32 &&& Int32.toUInt32 31).toBitVec % 32).toNat = 2 * x := by decide
  rw [pk_and (ushr32 a ((2 : Int32) * nI x)) (m := 3) 2 rfl]
  unfold ushr32 bits2
  rw [pk_ushr a ((2 : Int32) * nI x) (2 * x) (h0 x hx)]
theorem ush3 (a : Int32) : ∀ x, x < 4 → ushr32 a ((3 : Int32) * nI x) &&& (7 : Int32) = nI (bits3 a x) := by
  intro x hx
  have h0 : ∀ x, x < 4 → ((((3 : Int32) * nI x).toUInt32 &&& Int32.toUInt32 31).toBitVec % 32).toNat = 3 * x := by decide
  rw [pk_and (ushr32 a ((3 : Int32) * nI x)) (m := 7) 3 rfl]
  unfold ushr32 bits3
  rw [pk_ushr a ((3 : Int32) * nI x) (3 * x) (h0 x hx)]
theorem shr2 (a : Int32) : ∀ x, x < 12 → (a >>> (((2 : Int32) * nI x) &&& 31)) &&& (3 : Int32) = nI (bits2 a x) := by
  intro x hx
  have h0 : ∀ x, x < 12 → ((((2 : Int32) * nI x) &&& 31).toBitVec.smod 32).toNat = 2 * x := by decide
  rw [pk_and (a >>> (((2 : Int32) * nI x) &&& 31)) (m := 3) 2 rfl]
  have h1 := shr_nat a (((2 : Int32) * nI x) &&& 31) (2 * x) (h0 x hx)
  rw [toI, toI a] at h1
  unfold bits2
  have ha := a.toBitVec.isLt
  have hr := (a >>> (((2 : Int32) * nI x) &&& 31)).toBitVec.isLt
  generalize (a >>> (((2 : Int32) * nI x) &&& 31)).toBitVec.toNat = r at h1 hr ⊢
  generalize a.toBitVec.toNat = n at h1 ha ⊢
  congr 1
  rcases (show x = 0 ∨ x = 1 ∨ x = 2 ∨ x = 3 ∨ x = 4 ∨ x = 5 ∨ x = 6 ∨ x = 7 ∨ x = 8 ∨ x = 9 ∨ x = 10 ∨ x = 11 by omega) with rfl | rfl | rfl | rfl | rfl | rfl | rfl | rfl | rfl | rfl | rfl | rfl <;> (simp only [Nat.reduceMul, Nat.reducePow, Int.reducePow] at h1 ⊢; split at h1 <;> split at h1 <;> omega)
theorem shr3 (a : Int32) : ∀ x, x < 4 → (a >>> (((3 : Int32) * nI x) &&& 31)) &&& (7 : Int32) = nI (bits3 a x) := by
  intro x hx
  have h0 : ∀ x, x < 4 → ((((3 : Int32) * nI x) &&& 31).toBitVec.smod 32).toNat = 3 * x := by decide
  rw [pk_and (a >>> (((3 : Int32) * nI x) &&& 31)) (m := 7) 3 rfl]
  have h1 := shr_nat a (((3 : Int32) * nI x) &&& 31) (3 * x) (h0 x hx)
  rw [toI, toI a] at h1
  unfold bits3
  have ha := a.toBitVec.isLt
  have hr := (a >>> (((3 : Int32) * nI x) &&& 31)).toBitVec.isLt
  generalize (a >>> (((3 : Int32) * nI x) &&& 31)).toBitVec.toNat = r at h1 hr ⊢
  generalize a.toBitVec.toNat = n at h1 ha ⊢
  congr 1
  rcases (show x = 0 ∨ x = 1 ∨ x = 2 ∨ x = 3 by omega) with rfl | rfl | rfl | rfl <;> (simp only [Nat.reduceMul, Nat.reducePow, Int.reducePow] at h1 ⊢; split at h1 <;> split at h1 <;> omega)
/-- a set of rows as a number -/
def rset (P : Nat → Bool) : Nat → Nat
  | 0 => 0
  | n + 1 => rset P n + (if P n then 2 ^ n else 0)
theorem rset_lt (P : Nat → Bool) (n : Nat) : rset P n < 2 ^ n := by
  induction n with
  | zero => exact Nat.one_pos
  | succ n ih => rw [rset, Nat.pow_succ]; split <;> omega
theorem rset_congr {P Q : Nat → Bool} {n : Nat} (h : ∀ r, r < n → P r = Q r) : rset P n = rset Q n := by
  induction n with
  | zero => rfl
  | succ n ih => rw [rset, rset, ih (fun r hr => h r (by omega)), h n (by omega)]
theorem or_bit : ∀ x, x < 4 → ∀ s, s < 2 ^ x → nI s ||| ((1 : Int32) <<< (nI x &&& 31)) = nI (s + 2 ^ x) := by decide
def FamR (R C : Nat) (mk : Nat → Nat) (lt : Nat → Nat → Nat) (co_rows : Int32) (co_marks co_rowSets : Nat → Int32) (co_count mo_rows mo_columns : Int32) (mo_marks mo_letters : Nat → Int32) : Prop :=
  (1 ≤ R ∧ R ≤ 4 ∧ C ≤ 8) ∧ (co_rows = nI R ∧ mo_rows = nI R ∧ co_count = nI C ∧ mo_columns = nI C) ∧
  (∀ c, c < C → (mk c = 40 ∨ mk c = 41 ∨ mk c = 46) ∧ co_marks c = nI (mk c) ∧ mo_marks c = nI (mk c)) ∧
  (∀ c, c < C → ∀ r, r < 4 → lt r c ≤ 4 ∧ mo_letters (8 * r + c) = nI (lt r c)) ∧
  (∀ c, c < C → ∀ a, a < 4 → co_rowSets (4 * c + a) = nI (rset (fun r => decide (lt r c = a)) R))
theorem c_isLetter (y : Nat) (hy : y < 8) : f_Fa_isLetter (nI y) = some (if y < 4 then 1 else 0) := by
  have : ∀ y, y < 8 → f_Fa_isLetter (nI y) = some (if y < 4 then 1 else 0) := by decide
  exact this y hy
theorem c_add39 {R C : Nat} (hR : R ≤ 4) (hC : C < 8) {a2 : Int32} {rs0 : Nat → Int32} {kk : Int32 → (Nat → Int32) → Option ((Nat → Int32) × (Nat → Int32) × Int32)} :
    ∀ (n x : Nat) (rs : Nat → Int32), x ≤ R → R < x + n → (∀ a, a < 4 → rs (4 * C + a) = nI (rset (fun r => decide (bits3 a2 r = a)) x)) → (∀ q, q < 4 * C → rs q = rs0 q) →
      ∃ y rs', f_Co_add_L39 (nI R) (nI C) a2 kk n (nI x) rs = kk y rs' ∧ (∀ a, a < 4 → rs' (4 * C + a) = nI (rset (fun r => decide (bits3 a2 r = a)) R)) ∧ (∀ q, q < 4 * C → rs' q = rs0 q) := by
  intro n
  induction n with
  | zero => intro x rs h1 h2; omega
  | succ n ih =>
    intro x rs h1 h2 h3 h4
    rw [f_Co_add_L39]
    by_cases c1 : R ≤ x
    · have e : x = R := by omega
      rw [if_pos ((nI_leI (by omega) (by omega)).mpr c1)]
      exact ⟨_, rs, rfl, by rw [← e]; exact h3, h4⟩
    · have hy : bits3 a2 x < 8 := Nat.mod_lt _ (by omega)
      rw [if_neg (fun h => c1 ((nI_leI (by omega) (by omega)).mp h)), ush3 a2 x (by omega), c_isLetter _ hy, ob1_some]
      by_cases c2 : bits3 a2 x < 4
      · rw [if_pos c2, if_neg (by decide), nI4, pk_mul, nI_add, gd_in (by omega) (by omega), gd_in (by omega) (by omega), nI_clamp (by omega), Nat.mul_comm C 4, h3 _ c2, nI1, nI_add]
        rw [show nI 1 = (1 : Int32) from rfl, or_bit x (by omega) _ (rset_lt _ x)]
        refine ih (x + 1) _ (by omega) (by omega) (fun a ha => ?_) (fun q hq => ?_)
        · by_cases ea : a = bits3 a2 x
          · subst ea
            rw [pk_us, rset]
            simp
          · rw [pk_un (by omega), h3 a ha, rset]
            have : ¬ bits3 a2 x = a := fun h => ea h.symm
            simp [this]
        · rw [pk_un (by omega)]; exact h4 q hq
      · rw [if_neg c2, if_pos rfl, nI1, nI_add]
        refine ih (x + 1) rs (by omega) (by omega) (fun a ha => ?_) h4
        rw [h3 a ha, rset]
        have : ¬ bits3 a2 x = a := fun h => by omega
        simp [this]
theorem c_add12 {C : Nat} (hC : C < 8) {rs0 : Nat → Int32} {kk : Int32 → (Nat → Int32) → Option ((Nat → Int32) × (Nat → Int32) × Int32)} :
    ∀ (n x : Nat) (rs : Nat → Int32), x ≤ 4 → 4 < x + n → (∀ a, a < x → rs (4 * C + a) = nI 0) → (∀ q, q < 4 * C → rs q = rs0 q) →
      ∃ y rs', f_Co_add_L12 (nI C) kk n (nI x) rs = kk y rs' ∧ (∀ a, a < 4 → rs' (4 * C + a) = nI 0) ∧ (∀ q, q < 4 * C → rs' q = rs0 q) := by
  intro n
  induction n with
  | zero => intro x rs h1 h2; omega
  | succ n ih =>
    intro x rs h1 h2 h3 h4
    rw [f_Co_add_L12, nI4]
    by_cases c1 : 4 ≤ x
    · have e : x = 4 := by omega
      rw [if_pos ((nI_leI (by omega) (by omega)).mpr c1)]
      exact ⟨_, rs, rfl, fun a ha => h3 a (by omega), h4⟩
    · rw [if_neg (fun h => c1 ((nI_leI (by omega) (by omega)).mp h)), pk_mul, nI_add, gd_in (by omega) (by omega), nI_clamp (by omega), nI1, nI_add, Nat.mul_comm C 4]
      refine ih (x + 1) _ (by omega) (by omega) (fun a ha => ?_) (fun q hq => ?_)
      · by_cases ea : a = x
        · rw [ea, pk_us]; rfl
        · rw [pk_un (by omega)]; exact h3 a (by omega)
      · rw [pk_un (by omega)]; exact h4 q hq
theorem c_add {R C : Nat} (hR : R ≤ 4) (hC : C < 8) {a1 a2 : Int32} {marks rs : Nat → Int32} : ∃ rs', f_Co_add (nI R) marks rs (nI C) a1 a2 = some (upd marks C (vp_nar .char a1), rs', nI (C + 1)) ∧ (∀ a, a < 4 → rs' (4 * C + a) = nI (rset (fun r => decide (bits3 a2 r = a)) R)) ∧ (∀ q, q < 4 * C → rs' q = rs q) := by
  unfold f_Co_add
  rw [gd_in hC (by omega), nI0]
  obtain ⟨y, rs1, e1, h1, h2⟩ := c_add12 (kk := f_Co_add_K12_37 (nI R) marks (nI C) a1 a2) hC 1000 0 rs (by omega) (by omega) (fun a ha => by omega) (fun q hq => rfl)
  rw [e1]
  unfold f_Co_add_K12_37
  rw [nI0]
  obtain ⟨y2, rs2, e2, h3, h4⟩ := c_add39 (a2 := a2) (kk := f_Co_add_K39_91 marks (nI C) a1) hR hC 1000 0 rs1 (by omega) (by omega) h1 h2
  rw [e2]
  unfold f_Co_add_K39_91
  rw [nI_clamp (by omega), nI1, nI_add]
  exact ⟨rs2, rfl, h3, h4⟩
theorem m_col41 {C : Nat} (hC : C < 8) {a2 : Int32} {lt0 : Nat → Int32} {kk : Int32 → (Nat → Int32) → Option (Int32 × Int32 × (Nat → Int32) × (Nat → Int32) × Int32 × Int32)} :
    ∀ (n x : Nat) (lt : Nat → Int32), x ≤ 4 → 4 < x + n → (∀ r, r < x → lt (8 * r + C) = nI (if bits3 a2 r ≤ 3 then bits3 a2 r else 4)) → (∀ r c, r < 4 → c < C → lt (8 * r + c) = lt0 (8 * r + c)) →
      ∃ y lt', f_Mo_column_L41 (nI C) a2 kk n (nI x) lt = kk y lt' ∧ (∀ r, r < 4 → lt' (8 * r + C) = nI (if bits3 a2 r ≤ 3 then bits3 a2 r else 4)) ∧ (∀ r c, r < 4 → c < C → lt' (8 * r + c) = lt0 (8 * r + c)) := by
  intro n
  induction n with
  | zero => intro x lt h1 h2; omega
  | succ n ih =>
    intro x lt h1 h2 h3 h4
    rw [f_Mo_column_L41, nI4]
    by_cases c1 : 4 ≤ x
    · rw [if_pos ((nI_leI (by omega) (by omega)).mpr c1)]
      exact ⟨_, lt, rfl, fun r hr => h3 r (by omega), h4⟩
    · have hy : bits3 a2 x < 8 := Nat.mod_lt _ (by omega)
      rw [if_neg (fun h => c1 ((nI_leI (by omega) (by omega)).mp h)), shr3 a2 x (by omega), nI8, pk_mul, nI_add, gd_in (by omega) (by omega), gd_in (by omega) (by omega), nI_clamp (by omega), nI1, nI_add]
      have hstep : ∀ z, z = (if bits3 a2 x ≤ 3 then bits3 a2 x else 4) → ∃ y lt', f_Mo_column_L41 (nI C) a2 kk n (nI (x + 1)) (upd lt (8 * x + C) (nI z)) = kk y lt' ∧ (∀ r, r < 4 → lt' (8 * r + C) = nI (if bits3 a2 r ≤ 3 then bits3 a2 r else 4)) ∧ (∀ r c, r < 4 → c < C → lt' (8 * r + c) = lt0 (8 * r + c)) := by
        intro z hz
        refine ih (x + 1) _ (by omega) (by omega) (fun r hr => ?_) (fun r c hr hc => ?_)
        · by_cases er : r = x
          · rw [er, pk_us, hz]
          · rw [pk_un (by omega)]; exact h3 r (by omega)
        · rw [pk_un (by omega)]; exact h4 r c hr hc
      by_cases c2 : bits3 a2 x ≤ 3
      · rw [if_pos (by rw [nI3]; exact (nI_leI (by omega) (by omega)).mpr c2)]
        exact hstep _ (by rw [if_pos c2])
      · rw [if_neg (by rw [nI3]; exact fun h => c2 ((nI_leI (by omega) (by omega)).mp h))]
        exact hstep 4 (by rw [if_neg c2])
