/-! 73.targets: kinds, nodes and targets of the states; both sides' targets -/
def ndf (nl : Nat → Nd) : Nat → Nat → Nat
  | 0, _ => 0
  | n + 1, v => if fs nl n ≤ v then n else ndf nl n v
def kdf (nl : Nat → Nd) (N v : Nat) : Nat := (sk (nl (ndf nl N v)).1).getD (v - fs nl (ndf nl N v)) 0
def ins (k : Nat) : Bool := decide (k = 5) || decide (k = 6)
def slc (p : Nat → Bool) : Nat → Nat → List Nat
  | _, 0 => []
  | s, m + 1 => if p s then s :: slc p (s + 1) m else slc p (s + 1) m
def own (nl : Nat → Nd) (N v w : Nat) : Bool := ins (kdf nl N w) && (decide (kdf nl N v ≠ 6) || decide (w = v))
def non (nl : Nat → Nd) (N w : Nat) : Bool := !ins (kdf nl N w)
def tgf (nl : Nat → Nd) (N v : Nat) : List Nat :=
  if kdf nl N v = 8 then [] else if kdf nl N v = 7 then [fs nl (ndf nl N v + 1), fs nl (nl (ndf nl N v)).2.2.2.1]
  else slc (own nl N v) (fs nl (ndf nl N v)) (sk (nl (ndf nl N v)).1).length ++ slc (non nl N) (fs nl (ndf nl N v + 1)) (sk (nl (ndf nl N v + 1)).1).length
theorem slc_app (p : Nat → Bool) (s a b : Nat) : slc p s (a + b) = slc p s a ++ slc p (s + a) b := by
  induction a generalizing s with
  | zero => rw [Nat.zero_add]; rfl
  | succ a ih =>
    rw [show a + 1 + b = (a + b) + 1 by omega, slc, slc, ih, show s + 1 + a = s + (a + 1) by omega]
    split <;> rfl
theorem slc_congr {p q : Nat → Bool} {s m : Nat} (h : ∀ w, s ≤ w → w < s + m → p w = q w) : slc p s m = slc q s m := by
  induction m generalizing s with
  | zero => rfl
  | succ m ih => rw [slc, slc, h s (Nat.le_refl _) (by omega), ih (fun w h1 h2 => h w (by omega) (by omega))]
theorem slc_mem {p : Nat → Bool} {s m w : Nat} (h : w ∈ slc p s m) : s ≤ w ∧ w < s + m ∧ p w = true := by
  induction m generalizing s with
  | zero => exact absurd h List.not_mem_nil
  | succ m ih =>
    rw [slc] at h
    split at h
    · rename_i hp
      rcases List.mem_cons.mp h with e | h
      · rw [e]; exact ⟨Nat.le_refl _, by omega, hp⟩
      · have := ih h; exact ⟨by omega, by omega, this.2.2⟩
    · have := ih h; exact ⟨by omega, by omega, this.2.2⟩
theorem slc_shift {p q : Nat → Bool} {s m : Nat} (h : ∀ j, j < m → p (s + j) = q j) : (slc p s m).length = (slc q 0 m).length := by
  have : ∀ (t : Nat), (∀ j, j < m → p (s + t + j) = q (t + j)) → (slc p (s + t) m).length = (slc q t m).length := by
    clear h
    induction m with
    | zero => intro t _; rfl
    | succ m ih =>
      intro t h
      have h00 := h 0 (by omega)
      rw [Nat.add_zero, Nat.add_zero] at h00
      rw [slc, slc, h00]
      have := ih (t + 1) (fun j hj => by rw [show s + (t + 1) + j = s + t + (j + 1) by omega, h (j + 1) (by omega), show t + (j + 1) = t + 1 + j by omega])
      rw [show s + (t + 1) = s + t + 1 by omega] at this
      split
      · rw [List.length_cons, List.length_cons, this]
      · exact this
  exact this 0 (fun j hj => by rw [Nat.add_zero, Nat.zero_add]; exact h j hj)
theorem slc_nil {p : Nat → Bool} {s m : Nat} (h : ∀ w, s ≤ w → w < s + m → p w = false) : slc p s m = [] := by
  induction m generalizing s with
  | zero => rfl
  | succ m ih => rw [slc, h s (Nat.le_refl _) (by omega), ih (fun w h1 h2 => h w (by omega) (by omega))]; rfl
theorem slc_one {p : Nat → Bool} {s m v : Nat} (h : ∀ w, s ≤ w → w < s + m → p w = decide (w = v)) (h1 : s ≤ v) (h2 : v < s + m) : slc p s m = [v] := by
  induction m generalizing s with
  | zero => omega
  | succ m ih =>
    rw [slc, h s (Nat.le_refl _) (by omega)]
    by_cases e : s = v
    · subst e
      rw [decide_eq_true rfl, if_pos rfl, slc_nil (fun w w1 w2 => by rw [h w (by omega) (by omega)]; exact decide_eq_false (by omega))]
    · rw [decide_eq_false e, if_neg (by decide)]
      exact ih (fun w w1 w2 => h w (by omega) (by omega)) (by omega) (by omega)
section TARG
variable {nl : Nat → Nd} {N : Nat}
theorem ndf_eq {n s : Nat} (hn : n < N) (hs : s < (sk (nl n).1).length) : ndf nl N (fs nl n + s) = n := by
  induction N with
  | zero => omega
  | succ m ih =>
    rw [ndf]
    by_cases e : n = m
    · subst e; rw [if_pos (by omega)]
    · rw [if_neg (by have := fs_lt nl (show n < m by omega) hs; omega)]
      exact ih (by omega)
theorem kdf_eq {n s : Nat} (hn : n < N) (hs : s < (sk (nl n).1).length) : kdf nl N (fs nl n + s) = (sk (nl n).1).getD s 0 := by
  unfold kdf
  rw [ndf_eq hn hs, show fs nl n + s - fs nl n = s by omega]
theorem st_ex {v : Nat} (hv : v < fs nl N) : ∃ n s, n < N ∧ s < (sk (nl n).1).length ∧ v = fs nl n + s := by
  induction N with
  | zero => exact absurd hv (Nat.not_lt_zero _)
  | succ m ih =>
    by_cases c : v < fs nl m
    · obtain ⟨n, s, h1, h2, h3⟩ := ih c
      exact ⟨n, s, by omega, h2, h3⟩
    · have hv : v < fs nl m + (sk (nl m).1).length := hv
      exact ⟨m, v - fs nl m, by omega, by omega, by omega⟩
/-- what both sides hold of the states -/
theorem Ly_at {K F B : Nat → Int32} (hL : Ly nl N K F B) {v : Nat} (hv : v < fs nl N) : K v = nI (kdf nl N v) ∧ F v = nI (ndf nl N v) ∧ ndf nl N v < N := by
  obtain ⟨n, s, h1, h2, rfl⟩ := st_ex hv
  rw [kdf_eq h1 h2, ndf_eq h1 h2]
  exact ⟨((hL n h1).2 s h2).1, ((hL n h1).2 s h2).2, h1⟩
theorem nd_rng {v : Nat} (hv : v < fs nl N) : ndf nl N v < N ∧ fs nl (ndf nl N v) ≤ v ∧ v < fs nl (ndf nl N v) + (sk (nl (ndf nl N v)).1).length ∧ kdf nl N v ∈ sk (nl (ndf nl N v)).1 := by
  obtain ⟨n, s, h1, h2, rfl⟩ := st_ex hv
  rw [kdf_eq h1 h2, ndf_eq h1 h2]
  refine ⟨h1, by omega, by omega, ?_⟩
  rw [List.getD_eq_getElem?_getD, List.getElem?_eq_getElem h2]
  exact List.getElem_mem h2
theorem kd_le {v : Nat} (hk : ∀ n, n < N → (nl n).1 < 8) (hv : v < fs nl N) : kdf nl N v ≤ 8 := by
  obtain ⟨h1, -, -, h4⟩ := nd_rng hv
  have := sk_lt _ (hk _ h1) _ h4
  omega
theorem sk_e : ∀ k, k < 8 → (8 ∈ sk k → k = 7) ∧ (7 ∈ sk k → k = 4) ∧ (k = 7 → ∀ x ∈ sk k, x = 8) ∧ (k = 4 → ∀ x ∈ sk k, x = 7) := by decide +kernel
theorem c_isIns (k : Nat) (hk : k ≤ 8) : f_Fa_isInsert (nI k) = some (if ins k then 1 else 0) ∧ f_Mo_inserts (nI k) = some (if ins k then 1 else 0) := by
  have : ∀ k, k < 9 → f_Fa_isInsert (nI k) = some (if ins k then 1 else 0) ∧ f_Mo_inserts (nI k) = some (if ins k then 1 else 0) := by decide +kernel
  exact this k (by omega)
/-- the targets that the class has noted for a state -/
def Tn (v : Nat) (l : List Nat) (TC TT TC0 TT0 : Nat → Int32) : Prop := TC v = nI l.length ∧ (∀ u, u ≠ v → TC u = TC0 u) ∧ (∀ j, j < l.length → TT (6 * v + j) = nI (l.getD j 0)) ∧ (∀ u, (u < 6 * v ∨ 6 * v + 6 ≤ u) → TT u = TT0 u)
theorem c_addTarget {v w : Nat} {l : List Nat} {TC TT TC0 TT0 : Nat → Int32} (hv : v < 43) (hl : l.length < 6) (h : Tn v l TC TT TC0 TT0) : ∃ TC' TT', f_Gr_addTarget TC TT (nI v) (nI w) = some (TC', TT') ∧ Tn v (l ++ [w]) TC' TT' TC0 TT0 := by
  obtain ⟨h1, h2, h3, h4⟩ := h
  unfold f_Gr_addTarget
  rw [gd_in hv (by omega), nI_clamp (show v < 2 ^ 31 by omega), h1, nI6, pk_mul, nI_add, gd_in (show v * 6 + l.length < 258 by omega) (by omega), gd_in hv (by omega), gd_in hv (by omega), nI_p1, nI_clamp (show v * 6 + l.length < 2 ^ 31 by omega)]
  refine ⟨_, _, rfl, ?_, fun u hu => ?_, fun j hj => ?_, fun u hu => ?_⟩
  · rw [pk_us, List.length_append]; rfl
  · rw [pk_un hu]; exact h2 u hu
  · rw [List.length_append] at hj
    have hj : j < l.length + 1 := hj
    by_cases e : j = l.length
    · subst e
      rw [show 6 * v + l.length = v * 6 + l.length by omega, pk_us]
      simp
    · rw [pk_un (by omega), h3 j (by omega)]
      simp only [List.getD_eq_getElem?_getD, List.getElem?_append_left (show j < l.length by omega)]
  · rw [pk_un (by omega)]; exact h4 u hu
theorem c_addL8 {K F B : Nat → Int32} (hL : Ly nl N K F B) (hkk : ∀ n, n < N → (nl n).1 < 8) (hN : N ≤ 18) (hS : fs nl N ≤ 43) {v n e : Nat} {fl : Bool} (hv : v < 43) (hn : n < N) (he : e ≤ fs nl N) (hB : B (n + 1) = nI e) {p : Nat → Bool} (hp : ∀ w, w < e → p w = (ins (kdf nl N w) == fl)) {kk : Int32 → (Nat → Int32) → (Nat → Int32) → Option ((Nat → Int32) × (Nat → Int32))} {TC0 TT0 : Nat → Int32} :
    ∀ (m w : Nat) (l : List Nat) (TC TT : Nat → Int32), w ≤ e → e < w + m → l.length + (slc p w (e - w)).length ≤ 6 → Tn v l TC TT TC0 TT0 →
      ∃ y TC' TT', f_Gr_addStates_L8 K B (nI v) (nI n) (if fl then 1 else 0) kk m (nI w) TC TT = kk y TC' TT' ∧ Tn v (l ++ slc p w (e - w)) TC' TT' TC0 TT0 := by
  intro m
  induction m with
  | zero => intro w l TC TT h1 h2; omega
  | succ m ih =>
    intro w l TC TT h1 h2 h3 h4
    rw [f_Gr_addStates_L8, nI_p1, gd_in (show n + 1 < 19 by omega) (by omega), nI_clamp (show n + 1 < 2 ^ 31 by omega), hB]
    by_cases c1 : e ≤ w
    · rw [if_pos ((nI_leI (by omega) (by omega)).mpr c1)]
      refine ⟨_, TC, TT, rfl, ?_⟩
      rw [show e - w = 0 by omega]
      show Tn v (l ++ []) _ _ _ _
      rw [List.append_nil]; exact h4
    · obtain ⟨d, hd⟩ : ∃ d, e - w = d + 1 := ⟨e - w - 1, by omega⟩
      have hlo := Ly_at hL (show w < fs nl N by omega)
      rw [if_neg (fun h => c1 ((nI_leI (by omega) (by omega)).mp h)), gd_in (show w < 43 by omega) (by omega), nI_clamp (show w < 2 ^ 31 by omega), hlo.1, (c_isIns _ (kd_le hkk (show w < fs nl N by omega))).1, ob1_some, nI_p1]
      rw [hd, slc] at h3 ⊢
      have hpw := hp w (by omega)
      have hde : d = e - (w + 1) := by omega
      by_cases c2 : ins (kdf nl N w) = fl
      · have hpt : p w = true := by rw [hpw, c2]; simp
        rw [hpt, if_pos rfl] at h3 ⊢
        rw [if_pos (by rw [c2])]
        rw [List.length_cons] at h3
        obtain ⟨TC1, TT1, g1, g2⟩ := c_addTarget (w := w) hv (show l.length < 6 by omega) h4
        rw [g1, ob2_some, hde]
        have := ih (w + 1) (l ++ [w]) TC1 TT1 (by omega) (by omega) (by rw [List.length_append, ← hde]; show l.length + 1 + _ ≤ 6; omega) g2
        rw [List.append_assoc] at this
        exact this
      · have hpf : p w = false := by rw [hpw]; exact beq_false_of_ne c2
        rw [hpf, if_neg (by decide : ¬ false = true)] at h3 ⊢
        rw [if_neg ((by decide : ∀ a b : Bool, ¬ a = b → ¬ (if a = true then (1 : Int32) else 0) = (if b = true then 1 else 0)) _ _ c2), hde]
        exact ih (w + 1) l TC TT (by omega) (by omega) (by rw [← hde]; exact h3) h4
theorem c_addStates {K F B : Nat → Int32} (hL : Ly nl N K F B) (hBN : B N = nI (fs nl N)) (hkk : ∀ n, n < N → (nl n).1 < 8) (hN : N ≤ 18) (hS : fs nl N ≤ 43) {v n : Nat} {fl : Bool} (hv : v < 43) (hn : n < N) {p : Nat → Bool} (hp : ∀ w, fs nl n ≤ w → w < fs nl (n + 1) → p w = (ins (kdf nl N w) == fl)) {l : List Nat} {TC TT TC0 TT0 : Nat → Int32} (h6 : l.length + (slc p (fs nl n) (sk (nl n).1).length).length ≤ 6) (hT : Tn v l TC TT TC0 TT0) :
    ∃ TC' TT', f_Gr_addStates K B TC TT (nI v) (nI n) (if fl then 1 else 0) = some (TC', TT') ∧ Tn v (l ++ slc p (fs nl n) (sk (nl n).1).length) TC' TT' TC0 TT0 := by
  unfold f_Gr_addStates
  have hf1 : fs nl (n + 1) = fs nl n + (sk (nl n).1).length := rfl
  have hfm := fs_mono nl (show n + 1 ≤ N by omega)
  have hB1 : B (n + 1) = nI (fs nl (n + 1)) := by
    by_cases e : n + 1 = N
    · rw [e]; exact hBN
    · exact (hL (n + 1) (by omega)).1
  rw [gd_in (show n < 19 by omega) (by omega), nI_clamp (show n < 2 ^ 31 by omega), (hL n hn).1]
  have e1 : slc p (fs nl n) (sk (nl n).1).length = slc (fun w => ins (kdf nl N w) == fl) (fs nl n) (fs nl (n + 1) - fs nl n) := by
    rw [show fs nl (n + 1) - fs nl n = (sk (nl n).1).length by omega]
    exact slc_congr (fun w h1 h2 => hp w h1 (by omega))
  rw [e1] at h6 ⊢
  obtain ⟨y, TC', TT', g1, g2⟩ := c_addL8 hL hkk hN hS hv hn (e := fs nl (n + 1)) hfm hB1 (p := fun w => ins (kdf nl N w) == fl) (fun w _ => rfl) (kk := f_Gr_addStates_K8_48) 1000 (fs nl n) l TC TT (by omega) (by omega) h6 hT
  rw [g1]
  exact ⟨TC', TT', rfl, g2⟩
/-- what a row of nodes must keep -/
def Nk (nl : Nat → Nd) (N : Nat) : Prop := N ≤ 18 ∧ fs nl N ≤ 43 ∧ (∀ n, n < N → (nl n).1 < 8) ∧ (∀ n, n < N → (nl n).1 ≠ 7 → n + 1 < N) ∧ (∀ n, n < N → (nl n).1 = 4 → n + 1 < (nl n).2.2.2.1 ∧ (nl n).2.2.2.1 < N)
theorem sk_own : ∀ k, k < 8 → (slc (fun j => ins ((sk k).getD j 0)) 0 (sk k).length).length ≤ 2 := by decide +kernel
theorem sk_non : ∀ k, k < 8 → (slc (fun j => !ins ((sk k).getD j 0)) 0 (sk k).length).length ≤ 4 := by decide +kernel
theorem len_ins {n : Nat} (hN : Nk nl N) (hn : n < N) : (slc (fun w => ins (kdf nl N w)) (fs nl n) (sk (nl n).1).length).length ≤ 2 := by
  rw [slc_shift (q := fun j => ins ((sk (nl n).1).getD j 0)) (fun j hj => by rw [kdf_eq hn hj])]
  exact sk_own _ (hN.2.2.1 n hn)
theorem len_non {n : Nat} (hN : Nk nl N) (hn : n < N) : (slc (non nl N) (fs nl n) (sk (nl n).1).length).length ≤ 4 := by
  rw [slc_shift (q := fun j => !ins ((sk (nl n).1).getD j 0)) (fun j hj => by unfold non; rw [kdf_eq hn hj])]
  exact sk_non _ (hN.2.2.1 n hn)
theorem own6 {v : Nat} (hv : v < fs nl N) (h6 : kdf nl N v = 6) : slc (own nl N v) (fs nl (ndf nl N v)) (sk (nl (ndf nl N v)).1).length = [v] := by
  obtain ⟨h1, h2, h3, h4⟩ := nd_rng hv
  refine slc_one (fun w w1 w2 => ?_) h2 h3
  unfold own
  rw [h6]
  by_cases e : w = v
  · subst e; rw [h6]; rfl
  · simp [e]
theorem own_ne {v : Nat} (h6 : ¬ kdf nl N v = 6) (s m : Nat) : slc (own nl N v) s m = slc (fun w => ins (kdf nl N w)) s m := by
  refine slc_congr (fun w _ _ => ?_)
  unfold own
  simp [h6]
theorem own_len {v : Nat} (hN : Nk nl N) (hv : v < fs nl N) : (slc (own nl N v) (fs nl (ndf nl N v)) (sk (nl (ndf nl N v)).1).length).length ≤ 2 := by
  by_cases h6 : kdf nl N v = 6
  · rw [own6 hv h6]; show 1 ≤ 2; decide
  · rw [own_ne h6]; exact len_ins hN (nd_rng hv).1
theorem c_addTargets {K F B sec : Nat → Int32} (hN : Nk nl N) (hL : Ly nl N K F B) (hBN : B N = nI (fs nl N)) (hsec : ∀ n, n < N → (nl n).1 = 4 → sec n = nI (nl n).2.2.2.1) {v : Nat} (hv : v < fs nl N) {TC TT TC0 TT0 : Nat → Int32} (hT : Tn v [] TC TT TC0 TT0) :
    ∃ TC' TT', f_Gr_addTargets sec K F B TC TT (nI v) = some (TC', TT') ∧ Tn v (tgf nl N v) TC' TT' TC0 TT0 := by
  obtain ⟨n18, s43, hkk, hchild, hfork⟩ := hN
  obtain ⟨h1, h2, h3, h4⟩ := nd_rng hv
  obtain ⟨a1, a2, -⟩ := Ly_at hL hv
  have hk8 := kd_le hkk hv
  have hske := sk_e _ (hkk _ h1)
  unfold f_Gr_addTargets tgf
  rw [gd_in (show v < 43 by omega) (by omega), gd_in (show v < 43 by omega) (by omega), nI_clamp (show v < 2 ^ 31 by omega), a1, a2, nI_p1]
  have hBn : ∀ n, n ≤ N → B n = nI (fs nl n) := fun n hn => by
    by_cases e : n = N
    · rw [e]; exact hBN
    · exact (hL n (by omega)).1
  by_cases k6 : kdf nl N v = 6
  · have hn7 : (nl (ndf nl N v)).1 ≠ 7 := fun q => by have := hske.2.2.1 q _ h4; omega
    have hc := hchild _ h1 hn7
    rw [k6, if_pos (show nI 6 = (6 : Int32) from rfl), if_neg (by decide), if_neg (by decide), own6 hv k6]
    obtain ⟨TC1, TT1, g1, g2⟩ := c_addTarget (w := v) (show v < 43 by omega) (show ([] : List Nat).length < 6 by decide) hT
    rw [g1, ob2_some]
    obtain ⟨TC2, TT2, g3, g4⟩ := c_addStates hL hBN hkk n18 s43 (fl := false) (show v < 43 by omega) hc (p := non nl N) (fun w _ _ => by unfold non; cases ins (kdf nl N w) <;> rfl) (by have := len_non (nl := nl) (N := N) ⟨n18, s43, hkk, hchild, hfork⟩ hc; show 1 + _ ≤ 6; omega) g2
    have g3 : f_Gr_addStates K B TC1 TT1 (nI v) (nI (ndf nl N v + 1)) 0 = _ := g3
    rw [g3, ob2_some]
    exact ⟨TC2, TT2, rfl, g4⟩
  · rw [if_neg (show ¬ nI (kdf nl N v) = (6 : Int32) by rw [nI6]; exact nI_ne (by omega) (by omega) k6)]
    by_cases k7 : kdf nl N v = 7
    · have hf4 : (nl (ndf nl N v)).1 = 4 := hske.2.1 (by rw [← k7]; exact h4)
      have hc := hchild _ h1 (by omega)
      have hfk := hfork _ h1 hf4
      rw [k7, if_pos (show nI 7 = (7 : Int32) from rfl), if_neg (by decide), if_pos rfl, gd_in (show ndf nl N v + 1 < 19 by omega) (by omega), nI_clamp (show ndf nl N v + 1 < 2 ^ 31 by omega), hBn _ (by omega)]
      obtain ⟨TC1, TT1, g1, g2⟩ := c_addTarget (w := fs nl (ndf nl N v + 1)) (show v < 43 by omega) (show ([] : List Nat).length < 6 by decide) hT
      rw [g1, ob2_some]
      unfold f_Tr_second
      rw [gd_in (show ndf nl N v < 18 by omega) (by omega), nI_clamp (show ndf nl N v < 2 ^ 31 by omega), ob1_some, hsec _ h1 hf4, gd_in (show (nl (ndf nl N v)).2.2.2.1 < 19 by omega) (by omega), nI_clamp (by omega), hBn _ (by omega)]
      obtain ⟨TC2, TT2, g3, g4⟩ := c_addTarget (w := fs nl (nl (ndf nl N v)).2.2.2.1) (show v < 43 by omega) (show ([] ++ [fs nl (ndf nl N v + 1)] : List Nat).length < 6 by show 1 < 6; decide) g2
      rw [g3, ob2_some]
      exact ⟨TC2, TT2, rfl, g4⟩
    · rw [if_neg (show ¬ nI (kdf nl N v) = (7 : Int32) by rw [nI7]; exact nI_ne (by omega) (by omega) k7)]
      by_cases k8 : kdf nl N v = 8
      · rw [k8, if_pos (show nI 8 = (8 : Int32) from rfl), if_pos rfl]
        exact ⟨TC, TT, rfl, hT⟩
      · have hn7 : (nl (ndf nl N v)).1 ≠ 7 := fun q => by have := hske.2.2.1 q _ h4; omega
        have hc := hchild _ h1 hn7
        rw [if_neg (show ¬ nI (kdf nl N v) = (8 : Int32) by rw [nI8]; exact nI_ne (by omega) (by omega) k8), if_neg k8, if_neg k7]
        have hl2 := own_len (nl := nl) (N := N) ⟨n18, s43, hkk, hchild, hfork⟩ hv
        have hl4 := len_non (nl := nl) (N := N) ⟨n18, s43, hkk, hchild, hfork⟩ hc
        obtain ⟨TC1, TT1, g1, g2⟩ := c_addStates hL hBN hkk n18 s43 (fl := true) (show v < 43 by omega) h1 (p := own nl N v) (fun w _ _ => by unfold own; simp [k6]) (by show 0 + _ ≤ 6; omega) hT
        have g1 : f_Gr_addStates K B TC TT (nI v) (nI (ndf nl N v)) 1 = _ := g1
        rw [g1, ob2_some]
        rw [List.nil_append] at g2
        obtain ⟨TC2, TT2, g3, g4⟩ := c_addStates hL hBN hkk n18 s43 (fl := false) (show v < 43 by omega) hc (p := non nl N) (fun w _ _ => by unfold non; cases ins (kdf nl N w) <;> rfl) (by omega) g2
        have g3 : f_Gr_addStates K B TC1 TT1 (nI v) (nI (ndf nl N v + 1)) 0 = _ := g3
        rw [g3, ob2_some]
        exact ⟨TC2, TT2, rfl, g4⟩
theorem m_tg82 {K F B : Nat → Int32} (hN : Nk nl N) (hL : Ly nl N K F B) (hBN : B N = nI (fs nl N)) {v : Nat} (hv : v < fs nl N) (hn : ndf nl N v + 1 < N) {p : Nat → Bool} (hp : ∀ w, p w = (if w < fs nl (ndf nl N v + 1) then own nl N v w else non nl N w)) :
    ∀ (m w k : Nat), k < 2 ^ 31 → w ≤ fs nl (ndf nl N v + 2) → fs nl (ndf nl N v + 2) < w + m → f_Mo_targetOf_L82 B K F (nI v) f_Mo_targetOf_K82_209 m (nI k) (nI w) = some (if k < (slc p w (fs nl (ndf nl N v + 2) - w)).length then nI ((slc p w (fs nl (ndf nl N v + 2) - w)).getD k 0) else (-1)) := by
  obtain ⟨n18, s43, hkk, hchild, hfork⟩ := hN
  have hfm := fs_mono nl (show ndf nl N v + 2 ≤ N by omega)
  obtain ⟨a1, a2, -⟩ := Ly_at hL hv
  have hk8 := kd_le hkk hv
  have hBn : ∀ n, n ≤ N → B n = nI (fs nl n) := fun n hn => by
    by_cases e : n = N
    · rw [e]; exact hBN
    · exact (hL n (by omega)).1
  intro m
  induction m with
  | zero => intro w k h0 h1 h2; omega
  | succ m ih =>
    intro w k h0 h1 h2
    have hf12 := fs_mono nl (show ndf nl N v + 1 ≤ ndf nl N v + 2 by omega)
    rw [f_Mo_targetOf_L82, nI_clamp (show v < 2 ^ 31 by omega), a2, show nI (ndf nl N v) + (2 : Int32) = nI (ndf nl N v + 2) from nI_add _ 2, nI_p1, gd_in (show ndf nl N v + 2 < 25 by omega) (by omega), nI_clamp (show ndf nl N v + 2 < 2 ^ 31 by omega), hBn _ (show ndf nl N v + 2 ≤ N by omega)]
    by_cases c1 : fs nl (ndf nl N v + 2) ≤ w
    · rw [if_pos ((nI_leI (by omega) (by omega)).mpr c1), show fs nl (ndf nl N v + 2) - w = 0 by omega]
      rfl
    · obtain ⟨d, hd⟩ : ∃ d, fs nl (ndf nl N v + 2) - w = d + 1 := ⟨fs nl (ndf nl N v + 2) - w - 1, by omega⟩
      have hde : d = fs nl (ndf nl N v + 2) - (w + 1) := by omega
      have hwS : w < fs nl N := by omega
      obtain ⟨b1, -, -⟩ := Ly_at hL hwS
      have hiw := (c_isIns _ (kd_le hkk hwS)).2
      rw [if_neg (fun h => c1 ((nI_leI (by omega) (by omega)).mp h)), gd_in (show ndf nl N v + 1 < 25 by omega) (by omega), nI_clamp (show ndf nl N v + 1 < 2 ^ 31 by omega), hBn _ (show ndf nl N v + 1 ≤ N by omega)]
      -- what the step does when the state counts, and when it doesn't
      have stepF : p w = false → f_Mo_targetOf_J172 (nI k) (nI w) (f_Mo_targetOf_L82 B K F (nI v) f_Mo_targetOf_K82_209 m) 0 = some (if k < (slc p w (fs nl (ndf nl N v + 2) - w)).length then nI ((slc p w (fs nl (ndf nl N v + 2) - w)).getD k 0) else (-1)) := by
        intro hf
        unfold f_Mo_targetOf_J172 f_Mo_targetOf_J187
        rw [if_pos rfl, if_pos rfl, nI_p1, ih (w + 1) k h0 (by omega) (by omega), hd, slc, hf, if_neg (by decide : ¬ false = true), ← hde]
      have stepT : p w = true → f_Mo_targetOf_J172 (nI k) (nI w) (f_Mo_targetOf_L82 B K F (nI v) f_Mo_targetOf_K82_209 m) 1 = some (if k < (slc p w (fs nl (ndf nl N v + 2) - w)).length then nI ((slc p w (fs nl (ndf nl N v + 2) - w)).getD k 0) else (-1)) := by
        intro hf
        unfold f_Mo_targetOf_J172 f_Mo_targetOf_J187
        rw [if_neg (by decide : ¬ (1 : Int32) = 0), if_neg (by decide : ¬ (1 : Int32) = 0), hd, slc, hf, if_pos rfl]
        cases k with
        | zero =>
          rw [if_pos (show nI 0 = (0 : Int32) from rfl), if_pos (by rw [List.length_cons]; omega)]
          rfl
        | succ k =>
          rw [if_neg (by rw [nI0]; exact nI_ne (by omega) (by omega) (by omega)), nI_m1, i32_e, nI_p1, ih (w + 1) k (by omega) (by omega) (by omega), ← hde, List.length_cons]
          by_cases c : k < (slc p (w + 1) d).length
          · rw [if_pos c, if_pos (by omega)]; rfl
          · rw [if_neg c, if_neg (by omega)]
      have hpw := hp w
      by_cases c2 : fs nl (ndf nl N v + 1) ≤ w
      · rw [if_neg (by omega)] at hpw
        rw [if_pos ((nI_leI (by omega) (by omega)).mpr c2)]
        unfold f_Mo_targetOf_J113
        rw [if_pos rfl, gd_in (show w < 48 by omega) (by omega), nI_clamp (show w < 2 ^ 31 by omega), b1, hiw, ob1_some]
        unfold non at hpw
        cases hi : ins (kdf nl N w) with
        | true => rw [hi] at hpw; rw [if_pos (rfl : true = true), if_neg (by decide : ¬ (1 : Int32) = 0)]; exact stepF hpw
        | false => rw [hi] at hpw; rw [if_neg (by decide : ¬ false = true), if_pos (rfl : (0 : Int32) = 0)]; exact stepT hpw
      · rw [if_pos (by omega)] at hpw
        rw [if_neg (fun h => c2 ((nI_leI (by omega) (by omega)).mp h))]
        unfold f_Mo_targetOf_J113
        rw [if_neg (by decide : ¬ (1 : Int32) = 0), gd_in (show w < 48 by omega) (by omega), nI_clamp (show w < 2 ^ 31 by omega), b1, hiw, ob1_some, nI_clamp (show v < 2 ^ 31 by omega), a1]
        unfold f_Mo_targetOf_J150 f_Mo_targetOf_J146
        unfold own at hpw
        cases hi : ins (kdf nl N w) with
        | false => rw [hi] at hpw; rw [if_neg (by decide : ¬ false = true), if_pos (rfl : (0 : Int32) = 0)]; exact stepF hpw
        | true =>
          rw [hi, Bool.true_and] at hpw
          rw [if_pos (rfl : true = true), if_neg (by decide : ¬ (1 : Int32) = 0)]
          by_cases k6 : kdf nl N v = 6
          · rw [k6] at hpw ⊢
            rw [if_pos (show nI 6 = (6 : Int32) from rfl)]
            by_cases ev : w = v
            · rw [if_pos (by rw [ev])]
              exact stepT (by rw [hpw, ev]; simp)
            · rw [if_neg (fun h => ev ((nI_eq (by omega) (by omega)).mp h))]
              exact stepF (by rw [hpw]; simp [ev])
          · rw [if_neg (show ¬ nI (kdf nl N v) = (6 : Int32) by rw [nI6]; exact nI_ne (by omega) (by omega) k6)]
            exact stepT (by rw [hpw]; simp [k6])
theorem m_targetOf {K F B O : Nat → Int32} (hN : Nk nl N) (hL : Ly nl N K F B) (hBN : B N = nI (fs nl N)) (hsec : ∀ n, n < N → (nl n).1 = 4 → O n = nI (nl n).2.2.2.1) {v : Nat} (hv : v < fs nl N) :
    (∀ k : Nat, k < 2 ^ 31 → f_Mo_targetOf B O K F (nI v) (nI k) = some (if k < (tgf nl N v).length then nI ((tgf nl N v).getD k 0) else (-1))) ∧ (∀ x : Int32, x < 0 → f_Mo_targetOf B O K F (nI v) x = some (-1)) := by
  have hN' := hN
  obtain ⟨n18, s43, hkk, hchild, hfork⟩ := hN'
  obtain ⟨h1, h2, h3, h4⟩ := nd_rng hv
  obtain ⟨a1, a2, -⟩ := Ly_at hL hv
  have hk8 := kd_le hkk hv
  have hske := sk_e _ (hkk _ h1)
  have hBn : ∀ n, n ≤ N → B n = nI (fs nl n) := fun n hn => by
    by_cases e : n = N
    · rw [e]; exact hBN
    · exact (hL n (by omega)).1
  constructor
  · intro k hk
    unfold f_Mo_targetOf tgf
    rw [gd_in (show v < 48 by omega) (by omega), gd_in (show v < 48 by omega) (by omega), nI_clamp (show v < 2 ^ 31 by omega), a1, a2]
    by_cases k8 : kdf nl N v = 8
    · rw [k8, if_pos (show nI 8 = (8 : Int32) from rfl), if_pos rfl]
      rfl
    · rw [if_neg (show ¬ nI (kdf nl N v) = (8 : Int32) by rw [nI8]; exact nI_ne (by omega) (by omega) k8), if_neg k8, if_pos (show (0 : Int32) ≤ nI k by rw [nI0]; exact (nI_leI (by omega) hk).mpr (by omega))]
      have hn7 : (nl (ndf nl N v)).1 ≠ 7 := fun q => by have := hske.2.2.1 q _ h4; omega
      have hc := hchild _ h1 hn7
      by_cases k7 : kdf nl N v = 7
      · have hf4 : (nl (ndf nl N v)).1 = 4 := hske.2.1 (by rw [← k7]; exact h4)
        have hfk := hfork _ h1 hf4
        rw [k7, if_pos (show nI 7 = (7 : Int32) from rfl), if_pos rfl, nI_p1]
        match k, hk with
        | 0, _ =>
          rw [if_pos (show nI 0 = (0 : Int32) from rfl), gd_in (show ndf nl N v + 1 < 25 by omega) (by omega), nI_clamp (show ndf nl N v + 1 < 2 ^ 31 by omega), hBn _ (by omega)]
          rfl
        | 1, _ =>
          rw [if_neg (show ¬ nI 1 = (0 : Int32) by decide), if_pos (show nI 1 = (1 : Int32) from rfl), gd_in (show ndf nl N v < 24 by omega) (by omega), nI_clamp (show ndf nl N v < 2 ^ 31 by omega), hsec _ h1 hf4, gd_in (show (nl (ndf nl N v)).2.2.2.1 < 25 by omega) (by omega), nI_clamp (by omega), hBn _ (by omega)]
          rfl
        | k + 2, hk =>
          rw [if_neg (by rw [nI0]; exact nI_ne hk (by omega) (by omega)), if_neg (by rw [nI1]; exact nI_ne hk (by omega) (by omega)), if_neg (by show ¬ k + 2 < 2; omega)]
      · rw [if_neg (show ¬ nI (kdf nl N v) = (7 : Int32) by rw [nI7]; exact nI_ne (by omega) (by omega) k7), if_neg k7, gd_in (show ndf nl N v < 25 by omega) (by omega), nI_clamp (show ndf nl N v < 2 ^ 31 by omega), (hL _ h1).1]
        have hfA : fs nl (ndf nl N v + 1) = fs nl (ndf nl N v) + (sk (nl (ndf nl N v)).1).length := rfl
        have hfB : fs nl (ndf nl N v + 2) = fs nl (ndf nl N v + 1) + (sk (nl (ndf nl N v + 1)).1).length := rfl
        have hfm := fs_mono nl (show ndf nl N v + 2 ≤ N by omega)
        have key := m_tg82 hN hL hBN hv hc (p := fun w => if w < fs nl (ndf nl N v + 1) then own nl N v w else non nl N w) (fun w => rfl) 1000 (fs nl (ndf nl N v)) k hk (by omega) (by omega)
        rw [key]
        have e1 : slc (fun w => if w < fs nl (ndf nl N v + 1) then own nl N v w else non nl N w) (fs nl (ndf nl N v)) (fs nl (ndf nl N v + 2) - fs nl (ndf nl N v)) = slc (own nl N v) (fs nl (ndf nl N v)) (sk (nl (ndf nl N v)).1).length ++ slc (non nl N) (fs nl (ndf nl N v + 1)) (sk (nl (ndf nl N v + 1)).1).length := by
          rw [show fs nl (ndf nl N v + 2) - fs nl (ndf nl N v) = (sk (nl (ndf nl N v)).1).length + (sk (nl (ndf nl N v + 1)).1).length by omega, slc_app, ← hfA]
          rw [slc_congr (q := own nl N v) (fun w w1 w2 => by rw [if_pos (by omega)]), slc_congr (s := fs nl (ndf nl N v + 1)) (q := non nl N) (fun w w1 w2 => by rw [if_neg (by omega)])]
        rw [e1]
  · intro x hx
    unfold f_Mo_targetOf
    rw [gd_in (show v < 48 by omega) (by omega), gd_in (show v < 48 by omega) (by omega)]
    have hn : ¬ (0 : Int32) ≤ x := fun h => by
      rw [Int32.le_iff_toInt_le] at h
      rw [Int32.lt_iff_toInt_lt] at hx
      exact absurd hx (Int.not_lt.mpr h)
    rw [if_neg hn]
    split <;> rfl
end TARG
