/-! 72.lay: the states of all nodes, for both -/
def fs (nl : Nat → Nd) : Nat → Nat
  | 0 => 0
  | n + 1 => fs nl n + (sk (nl n).1).length
theorem fs_mono (nl : Nat → Nd) {a b : Nat} (h : a ≤ b) : fs nl a ≤ fs nl b := by
  induction b with
  | zero => rw [show a = 0 by omega]; exact Nat.le_refl _
  | succ b ih =>
    by_cases e : a = b + 1
    · rw [e]; exact Nat.le_refl _
    · have := ih (by omega)
      show _ ≤ fs nl b + _
      omega
theorem fs_lt (nl : Nat → Nd) {n N s : Nat} (h : n < N) (hs : s < (sk (nl n).1).length) : fs nl n + s < fs nl N := by
  have h1 : fs nl (n + 1) = fs nl n + (sk (nl n).1).length := rfl
  have := fs_mono nl (show n + 1 ≤ N by omega)
  omega
theorem st_sk : ∀ k, k < 8 → stL k = (sk k).length ∧ ∀ s, s < (sk k).length → stV k s = nI ((sk k).getD s 0) := by decide +kernel
theorem c_statesOf : ∀ k, k < 8 → f_Fa_statesOf (nI k) = some k := by decide +kernel
theorem sk_len : ∀ k, k < 8 → 1 ≤ (sk k).length ∧ (sk k).length ≤ 6 := by decide +kernel
section LAY
variable {R C : Nat} {lt : Nat → Nat → Nat} {RS : Nat → Int32} {nl : Nat → Nd} {N : Nat} {tk tl tr : Nat → Int32}
theorem c_lay42 (hR : R ≤ 4) (hC : C ≤ 8) (hs : ∀ c, c < C → ∀ a, a < 4 → RS (4 * c + a) = nI (rset (fun r => decide (lt r c = a)) R)) (hT : CTr nl N C tk tl tr) {x a : Nat} (hx : x < N) (ha : a + (sk (nl x).1).length ≤ 43) {kk : Int32 → (Nat → Int32) → (Nat → Int32) → (Nat → Int32) → Int32 → Option ((Nat → Int32) × (Nat → Int32) × (Nat → Int32) × (Nat → Int32) × Int32)} :
    ∀ (m s : Nat) (K F Z : Nat → Int32), s ≤ (sk (nl x).1).length → (sk (nl x).1).length < s + m →
      ∃ y K' F' Z', f_Gr_layStates_L42 (nI R) RS tl tr (nI x) (nl x).1 kk m (nI s) K F Z (nI (a + s)) = kk y K' F' Z' (nI (a + (sk (nl x).1).length)) ∧ (∀ w, w < a + s → K' w = K w ∧ F' w = F w ∧ Z' w = Z w) ∧ ∀ s', s ≤ s' → s' < (sk (nl x).1).length → K' (a + s') = nI ((sk (nl x).1).getD s' 0) ∧ F' (a + s') = nI x ∧ Z' (a + s') = nI (rset (fun r => decide (kr lt (nl x) r = (sk (nl x).1).getD s' 0)) R) := by
  have t1 := (hT.2 x hx).1
  have hst := st_sk _ t1
  have hle := sk_len _ t1
  intro m
  induction m with
  | zero => intro s K F Z h1 h2; omega
  | succ m ih =>
    intro s K F Z h1 h2
    rw [f_Gr_layStates_L42, show Int32.ofNat (stL (nl x).1) = nI (stL (nl x).1) from rfl, hst.1]
    by_cases c1 : (sk (nl x).1).length ≤ s
    · rw [if_pos ((nI_leI (by omega) (by omega)).mpr c1)]
      have e : s = (sk (nl x).1).length := by omega
      rw [e]
      exact ⟨_, K, F, Z, rfl, fun _ _ => ⟨rfl, rfl, rfl⟩, fun s' h1 h2 => by omega⟩
    · have hsl : s < (sk (nl x).1).length := by omega
      have hmem : (sk (nl x).1).getD s 0 ∈ sk (nl x).1 := by
        rw [List.getD_eq_getElem?_getD, List.getElem?_eq_getElem hsl]
        exact List.getElem_mem hsl
      rw [if_neg (fun h => c1 ((nI_leI (by omega) (by omega)).mp h)), gd_in hsl (by omega), gd_in (show a + s < 43 by omega) (by omega), gd_in (show a + s < 43 by omega) (by omega), gd_in hsl (by omega), nI_clamp (show s < 2 ^ 31 by omega), hst.2 s hsl, c_rowsIn hR hC hs hT hx hmem, ob1_some, gd_in (show a + s < 43 by omega) (by omega), nI_clamp (show a + s < 2 ^ 31 by omega), nI_p1, nI_p1]
      obtain ⟨y, K', F', Z', g1, g2, g3⟩ := ih (s + 1) (upd K (a + s) (nI ((sk (nl x).1).getD s 0))) (upd F (a + s) (nI x)) (upd Z (a + s) (nI (rset (fun r => decide (kr lt (nl x) r = (sk (nl x).1).getD s 0)) R))) (by omega) (by omega)
      refine ⟨y, K', F', Z', g1, fun w hw => ?_, fun s' h3 h4 => ?_⟩
      · have := g2 w (by omega)
        rw [pk_un (by omega), pk_un (by omega), pk_un (by omega)] at this
        exact this
      · by_cases es : s' = s
        · subst es
          have := g2 (a + s') (by omega)
          rw [pk_us, pk_us, pk_us] at this
          exact this
        · exact g3 s' (by omega) h4
/-- what is laid of the first x nodes -/
def Ly (nl : Nat → Nd) (x : Nat) (K F B : Nat → Int32) : Prop := ∀ n, n < x → B n = nI (fs nl n) ∧ ∀ s, s < (sk (nl n).1).length → K (fs nl n + s) = nI ((sk (nl n).1).getD s 0) ∧ F (fs nl n + s) = nI n
def Lz (lt : Nat → Nat → Nat) (R : Nat) (nl : Nat → Nd) (x : Nat) (Z : Nat → Int32) : Prop := ∀ n, n < x → ∀ s, s < (sk (nl n).1).length → Z (fs nl n + s) = nI (rset (fun r => decide (kr lt (nl n) r = (sk (nl n).1).getD s 0)) R)
theorem c_lay7 (hR : R ≤ 4) (hC : C ≤ 8) (hs : ∀ c, c < C → ∀ a, a < 4 → RS (4 * c + a) = nI (rset (fun r => decide (lt r c = a)) R)) (hT : CTr nl N C tk tl tr) (hS : fs nl N ≤ 43) {kk : Int32 → (Nat → Int32) → (Nat → Int32) → (Nat → Int32) → (Nat → Int32) → Int32 → Option ((Nat → Int32) × (Nat → Int32) × (Nat → Int32) × (Nat → Int32) × Int32)} :
    ∀ (m x : Nat) (K F Z B : Nat → Int32), x ≤ N → N < x + m → Ly nl x K F B → Lz lt R nl x Z →
      ∃ y K' F' Z' B', f_Gr_layStates_L7 (nI R) RS tk tl tr (nI N) kk m (nI x) K F Z B (nI (fs nl x)) = kk y K' F' Z' B' (nI (fs nl N)) ∧ Ly nl N K' F' B' ∧ Lz lt R nl N Z' := by
  have hN := hT.1
  intro m
  induction m with
  | zero => intro x K F Z B h1 h2; omega
  | succ m ih =>
    intro x K F Z B h1 h2 hL hZ
    rw [f_Gr_layStates_L7]
    unfold f_Tr_size
    rw [ob1_some]
    by_cases c1 : N ≤ x
    · have e : x = N := by omega
      rw [if_pos ((nI_leI (by omega) (by omega)).mpr c1), e]
      rw [e] at hL hZ
      exact ⟨_, K, F, Z, B, rfl, hL, hZ⟩
    · have hx : x < N := by omega
      obtain ⟨t1, t2, t3, t4, t5⟩ := hT.2 x hx
      have hle := sk_len _ t1
      have hkind : f_Tr_kindOf tk (nI x) = some (nI (nl x).1) := by
        unfold f_Tr_kindOf
        rw [gd_in (show x < 18 by omega) (by omega), nI_clamp (by omega), t3]; rfl
      rw [if_neg (fun h => c1 ((nI_leI (by omega) (by omega)).mp h)), gd_in (show x < 19 by omega) (by omega), hkind, ob1_some, c_statesOf _ t1, ob1_some]
      have hf1 : fs nl (x + 1) = fs nl x + (sk (nl x).1).length := rfl
      have hfm := fs_mono nl (show x + 1 ≤ N by omega)
      obtain ⟨y, K', F', Z', g1, g2, g3⟩ := c_lay42 hR hC hs hT hx (a := fs nl x) (by omega) (kk := f_Gr_layStates_K42_103 (nI x) B (nI (fs nl x)) (f_Gr_layStates_L7 (nI R) RS tk tl tr (nI N) kk m)) 1000 0 K F Z (by omega) (by omega)
      have g1 : f_Gr_layStates_L42 (nI R) RS tl tr (nI x) (nl x).1 (f_Gr_layStates_K42_103 (nI x) B (nI (fs nl x)) (f_Gr_layStates_L7 (nI R) RS tk tl tr (nI N) kk m)) 1000 0 K F Z (nI (fs nl x)) = _ := g1
      rw [g1]
      unfold f_Gr_layStates_K42_103
      rw [nI_p1, nI_clamp (show x < 2 ^ 31 by omega), ← hf1]
      refine ih (x + 1) K' F' Z' (upd B x (nI (fs nl x))) (by omega) (by omega) (fun n hn => ?_) (fun n hn s hsn => ?_)
      · by_cases en : n = x
        · subst en
          exact ⟨pk_us, fun s hsn => ⟨(g3 s (by omega) hsn).1, (g3 s (by omega) hsn).2.1⟩⟩
        · refine ⟨by rw [pk_un en]; exact (hL n (by omega)).1, fun s hsn => ?_⟩
          have hlt := fs_lt nl (show n < x by omega) hsn
          have := g2 (fs nl n + s) (by omega)
          rw [this.1, this.2.1]
          exact (hL n (by omega)).2 s hsn
      · by_cases en : n = x
        · subst en
          exact (g3 s (by omega) hsn).2.2
        · have hlt := fs_lt nl (show n < x by omega) hsn
          have := g2 (fs nl n + s) (by omega)
          rw [this.2.2]
          exact hZ n (by omega) s hsn
theorem c_lay (hR : R ≤ 4) (hC : C ≤ 8) (hs : ∀ c, c < C → ∀ a, a < 4 → RS (4 * c + a) = nI (rset (fun r => decide (lt r c = a)) R)) (hT : CTr nl N C tk tl tr) (hS : fs nl N ≤ 43) (K F Z B : Nat → Int32) (sz : Int32) :
    ∃ K' F' Z' B', f_Gr_layStates (nI R) RS tk tl tr (nI N) K F Z B sz = some (K', F', Z', B', nI (fs nl N)) ∧ Ly nl N K' F' B' ∧ B' N = nI (fs nl N) ∧ Lz lt R nl N Z' := by
  unfold f_Gr_layStates
  have hN := hT.1
  obtain ⟨y, K', F', Z', B', g1, g2, g3⟩ := c_lay7 hR hC hs hT hS (kk := f_Gr_layStates_K7_109 (nI N)) 1000 0 K F Z B (by omega) (by omega) (fun n hn => by omega) (fun n hn => by omega)
  have g1 : f_Gr_layStates_L7 (nI R) RS tk tl tr (nI N) (f_Gr_layStates_K7_109 (nI N)) 1000 0 K F Z B 0 = _ := g1
  rw [g1]
  unfold f_Gr_layStates_K7_109 f_Tr_size
  rw [ob1_some, gd_in (show N < 19 by omega) (by omega), nI_clamp (show N < 2 ^ 31 by omega)]
  refine ⟨K', F', Z', upd B' N (nI (fs nl N)), rfl, fun n hn => ⟨?_, (g2 n hn).2⟩, pk_us, g3⟩
  rw [pk_un (by omega)]; exact (g2 n hn).1
theorem p_state {K F : Nat → Int32} {s : Nat} {a k : Int32} (hs : s < 48) : f_Mo_state (nI s) K F a k = some (nI (s + 1), upd K s k, upd F s a) := by
  unfold f_Mo_state
  rw [gd_in hs (by omega), gd_in hs (by omega), nI_p1, nI_clamp (by omega)]
theorem m_set1 {sort : Nat → Int32} {x s k : Nat} (hx : x < N) (hN : N ≤ 18) (hk : k < 8) (hso : sort x = nI k) (hsl : s + (sk k).length ≤ 43) {kk : Int32 → (Nat → Int32) → Int32 → (Nat → Int32) → (Nat → Int32) → Option ((Nat → Int32) × Int32 × (Nat → Int32) × (Nat → Int32))} (m : Nat) (B K F : Nat → Int32) :
    f_Mo_settle_L7 (nI N) sort kk (m + 1) (nI x) B (nI s) K F = f_Mo_settle_L7 (nI N) sort kk m (nI (x + 1)) (upd B x (nI s)) (nI (s + (sk k).length)) (wr K s ((sk k).map nI)) (wr F s ((sk k).map (fun _ => nI x))) := by
  rw [f_Mo_settle_L7, if_neg (fun h => by rw [nI_leI (by omega) (by omega)] at h; omega), gd_in (show x < 24 by omega) (by omega), gd_in (show x < 25 by omega) (by omega)]
  have hle := sk_len k hk
  rcases (show k = 0 ∨ k = 1 ∨ k = 2 ∨ k = 3 ∨ k = 4 ∨ k = 5 ∨ k = 6 ∨ k = 7 by omega) with rfl | rfl | rfl | rfl | rfl | rfl | rfl | rfl
  all_goals simp only [sk, List.length_cons, List.length_nil] at hsl
  all_goals unfold f_Mo_settle_J47 f_Mo_settle_J53 f_Mo_settle_J64 f_Mo_settle_J74 f_Mo_settle_J80 f_Mo_settle_J90 f_Mo_settle_J96 f_Mo_settle_J111 f_Mo_settle_J117 f_Mo_settle_J137 f_Mo_settle_J143 f_Mo_settle_J157 f_Mo_settle_J164 f_Mo_settle_J175
  all_goals rw [nI_clamp (show x < 2 ^ 31 by omega), hso, nI_p1]
  · rw [if_pos (by decide), p_state (show s < 48 by omega), ob3_some, if_neg (by decide), if_neg (by decide), if_neg (by decide), if_neg (by decide), if_neg (by decide), if_neg (by decide), if_neg (by decide), if_neg (by decide), if_pos (by decide), p_state (show s + 1 < 48 by omega), ob3_some, if_pos (by decide), p_state (show s + 2 < 48 by omega), ob3_some, if_neg (by decide), if_neg (by decide)]
    rfl
  · rw [if_neg (by decide), if_neg (by decide), if_neg (by decide), if_neg (by decide), if_pos (by decide), p_state (show s < 48 by omega), ob3_some, if_neg (by decide), if_neg (by decide), if_pos (by decide), p_state (show s + 1 < 48 by omega), ob3_some, if_neg (by decide), if_pos (by decide), p_state (show s + 2 < 48 by omega), ob3_some, if_neg (by decide), if_neg (by decide), if_neg (by decide), if_neg (by decide), if_neg (by decide)]
    rfl
  · rw [if_neg (by decide), if_neg (by decide), if_neg (by decide), if_neg (by decide), if_neg (by decide), if_neg (by decide), if_pos (by decide), p_state (show s < 48 by omega), ob3_some, if_neg (by decide), if_pos (by decide), p_state (show s + 1 < 48 by omega), ob3_some, if_neg (by decide), if_neg (by decide), if_neg (by decide), if_neg (by decide), if_neg (by decide), if_pos (by decide), p_state (show s + 2 < 48 by omega), ob3_some, if_neg (by decide), if_neg (by decide)]
    rfl
  · rw [if_neg (by decide), if_neg (by decide), if_neg (by decide), if_pos (by decide), p_state (show s < 48 by omega), ob3_some, if_neg (by decide), if_pos (by decide), p_state (show s + 1 < 48 by omega), ob3_some, if_neg (by decide), if_pos (by decide), p_state (show s + 2 < 48 by omega), ob3_some, if_neg (by decide), if_neg (by decide), if_pos (by decide), p_state (show s + 3 < 48 by omega), ob3_some, if_neg (by decide), if_neg (by decide), if_pos (by decide), p_state (show s + 4 < 48 by omega), ob3_some, if_neg (by decide), if_neg (by decide), if_pos (by decide), p_state (show s + 5 < 48 by omega), ob3_some, if_neg (by decide), if_neg (by decide)]
    rfl
  · rw [if_neg (by decide), if_neg (by decide), if_neg (by decide), if_neg (by decide), if_neg (by decide), if_neg (by decide), if_neg (by decide), if_neg (by decide), if_neg (by decide), if_neg (by decide), if_neg (by decide), if_neg (by decide), if_neg (by decide), if_neg (by decide), if_neg (by decide), if_neg (by decide), if_neg (by decide), if_neg (by decide), if_pos (by decide), if_pos (by decide), p_state (show s < 48 by omega), ob3_some]
    rfl
  · rw [if_neg (by decide), if_pos (by decide), p_state (show s < 48 by omega), ob3_some, if_neg (by decide), if_neg (by decide), if_neg (by decide), if_neg (by decide), if_neg (by decide), if_neg (by decide), if_neg (by decide), if_neg (by decide), if_neg (by decide), if_neg (by decide), if_neg (by decide), if_neg (by decide), if_neg (by decide), if_neg (by decide), if_neg (by decide), if_neg (by decide), if_neg (by decide)]
    rfl
  · rw [if_neg (by decide), if_neg (by decide), if_pos (by decide), p_state (show s < 48 by omega), ob3_some, if_neg (by decide), if_neg (by decide), if_neg (by decide), if_neg (by decide), if_neg (by decide), if_neg (by decide), if_neg (by decide), if_neg (by decide), if_neg (by decide), if_neg (by decide), if_neg (by decide), if_pos (by decide), p_state (show s + 1 < 48 by omega), ob3_some, if_neg (by decide), if_neg (by decide), if_neg (by decide), if_neg (by decide), if_neg (by decide)]
    rfl
  · rw [if_neg (by decide), if_neg (by decide), if_neg (by decide), if_neg (by decide), if_neg (by decide), if_neg (by decide), if_neg (by decide), if_neg (by decide), if_neg (by decide), if_neg (by decide), if_neg (by decide), if_neg (by decide), if_neg (by decide), if_neg (by decide), if_neg (by decide), if_neg (by decide), if_neg (by decide), if_neg (by decide), if_neg (by decide), if_pos (by decide), if_neg (by decide), p_state (show s < 48 by omega), ob3_some]
    rfl
theorem m_set7 {sort : Nat → Int32} (hN : N ≤ 18) (hk : ∀ n, n < N → (nl n).1 < 8 ∧ sort n = kI (nl n)) (hS : fs nl N ≤ 43) {kk : Int32 → (Nat → Int32) → Int32 → (Nat → Int32) → (Nat → Int32) → Option ((Nat → Int32) × Int32 × (Nat → Int32) × (Nat → Int32))} :
    ∀ (m x : Nat) (B K F : Nat → Int32), x ≤ N → N < x + m → Ly nl x K F B →
      ∃ y B' K' F', f_Mo_settle_L7 (nI N) sort kk m (nI x) B (nI (fs nl x)) K F = kk y B' (nI (fs nl N)) K' F' ∧ Ly nl N K' F' B' := by
  intro m
  induction m with
  | zero => intro x B K F h1 h2; omega
  | succ m ih =>
    intro x B K F h1 h2 hL
    by_cases c1 : N ≤ x
    · have e : x = N := by omega
      rw [f_Mo_settle_L7, if_pos ((nI_leI (by omega) (by omega)).mpr c1), e]
      rw [e] at hL
      exact ⟨_, B, K, F, rfl, hL⟩
    · have hx : x < N := by omega
      have hf1 : fs nl (x + 1) = fs nl x + (sk (nl x).1).length := rfl
      have hfm := fs_mono nl (show x + 1 ≤ N by omega)
      rw [m_set1 hx hN (hk x hx).1 (hk x hx).2 (by omega), ← hf1]
      refine ih (x + 1) _ _ _ (by omega) (by omega) (fun n hn => ?_)
      by_cases en : n = x
      · subst en
        refine ⟨pk_us, fun s hsn => ⟨?_, ?_⟩⟩
        · rw [wr_at (by rw [List.length_map]; exact hsn)]
          simp only [List.getD_eq_getElem?_getD, List.getElem?_map, List.getElem?_eq_getElem hsn, Option.map_some, Option.getD_some]
        · rw [wr_at (by rw [List.length_map]; exact hsn)]
          simp only [List.getD_eq_getElem?_getD, List.getElem?_map, List.getElem?_eq_getElem hsn, Option.map_some, Option.getD_some]
      · refine ⟨by rw [pk_un en]; exact (hL n (by omega)).1, fun s hsn => ?_⟩
        have hlt := fs_lt nl (show n < x by omega) hsn
        rw [wr_lt hlt, wr_lt hlt]
        exact (hL n (by omega)).2 s hsn
theorem m_settle {sort : Nat → Int32} (hN : N ≤ 18) (hk : ∀ n, n < N → (nl n).1 < 8 ∧ sort n = kI (nl n)) (hS : fs nl N ≤ 43) (B K F : Nat → Int32) (sz : Int32) :
    ∃ B' K' F', f_Mo_settle (nI N) sort B sz K F = some (B', nI (fs nl N), K', F') ∧ Ly nl N K' F' B' ∧ B' N = nI (fs nl N) := by
  unfold f_Mo_settle
  obtain ⟨y, B', K', F', g1, g2⟩ := m_set7 hN hk hS (kk := f_Mo_settle_K7_198 (nI N)) 1000 0 B K F (by omega) (by omega) (fun n hn => by omega)
  have g1 : f_Mo_settle_L7 (nI N) sort (f_Mo_settle_K7_198 (nI N)) 1000 0 B 0 K F = _ := g1
  rw [g1]
  unfold f_Mo_settle_K7_198
  rw [gd_in (show N < 25 by omega) (by omega), nI_clamp (show N < 2 ^ 31 by omega)]
  refine ⟨upd B' N (nI (fs nl N)), K', F', rfl, fun n hn => ⟨?_, (g2 n hn).2⟩, pk_us⟩
  rw [pk_un (by omega)]; exact (g2 n hn).1
end LAY
