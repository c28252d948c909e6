/-! 57.scan: both scans against the spec -/
theorem getD_app_lt {hs : Hs} {q : Nat × Nat} {k : Nat} (h : k < hs.length) : (hs ++ [q]).getD k (0, 0) = hs.getD k (0, 0) := by
  rw [List.getD_eq_getElem?_getD, List.getD_eq_getElem?_getD, List.getElem?_append_left h]
theorem getD_app_eq (hs : Hs) (q : Nat × Nat) : (hs ++ [q]).getD hs.length (0, 0) = q := by
  rw [List.getD_eq_getElem?_getD, List.getElem?_append_right (Nat.le_refl _)]
  simp
section SCM
variable {sv : Nat → Nat → Int32} {th : Int32} {w T : Nat} {vals : Nat → Int32}
/-- the reference's hits -/
def MH (hs : Hs) (at_ ln : Nat → Int32) : Prop := ∀ k, k < hs.length → at_ k = nI (hs.getD k (0, 0)).1 ∧ ln k = nI (hs.getD k (0, 0)).2
theorem m_freeL {hs : Hs} {at_ ln : Nat → Int32} {i d : Nat} {kk : Int32 → Int32 → Option Int32} (hT : T ≤ 24) (hl : hs.length ≤ 24) (hok : HsOk w T hs) (hm : MH hs at_ ln) (hid : i + d ≤ 48) :
    ∀ (n k : Nat) (b : Bool), k ≤ hs.length → hs.length < k + n → f_Mo_free_L5 (nI hs.length) at_ ln (nI i) (nI d) kk n (if b then 1 else 0) (nI k) = kk (if (b && freeB (hs.drop k) i d) then 1 else 0) (nI hs.length) := by
  intro n
  induction n with
  | zero => intro k b h1 h2; omega
  | succ n ih =>
    intro k b h1 h2
    rw [f_Mo_free_L5]
    by_cases hk : hs.length ≤ k
    · have e : k = hs.length := by omega
      rw [if_pos ((nI_leI (by omega) (by omega)).mpr hk), e, List.drop_length]
      simp [freeB]
    · rw [if_neg (fun h => hk ((nI_leI (by omega) (by omega)).mp h))]
      have hkl : k < hs.length := by omega
      have hdrop : hs.drop k = hs.getD k (0, 0) :: hs.drop (k + 1) := by
        rw [List.drop_eq_getElem_cons hkl, List.getD_eq_getElem?_getD, List.getElem?_eq_getElem hkl]; rfl
      have hmem : hs.getD k (0, 0) ∈ hs := by
        rw [List.getD_eq_getElem?_getD, List.getElem?_eq_getElem hkl]
        exact List.getElem_mem hkl
      have hq := hok _ hmem
      have h24 : vp_in (nI k) 24 := vp_in_nI (by omega) (by omega)
      cases b with
      | false =>
        rw [if_pos (by rfl), nI1, nI_add]
        have := ih (k + 1) false (by omega) (by omega)
        simpa using this
      | true =>
        rw [if_neg (by decide), gd_in (by omega) (by omega), nI_clamp (by omega), (hm k hkl).1, nI_add, gd_in (by omega) (by omega), gd_in (by omega) (by omega), (hm k hkl).2, nI_add, nI1, nI_add, hdrop]
        generalize hs.getD k (0, 0) = q at hq ⊢
        have hfree : freeB (q :: hs.drop (k + 1)) i d = ((decide (i + d ≤ q.1) || decide (q.1 + q.2 ≤ i)) && freeB (hs.drop (k + 1)) i d) := rfl
        rw [hfree]
        by_cases c1 : i + d ≤ q.1
        · rw [if_pos ((nI_leI (by omega) (by omega)).mpr c1)]
          have := ih (k + 1) true (by omega) (by omega)
          simpa [c1, nI1] using this
        · rw [if_neg (fun h => c1 ((nI_leI (by omega) (by omega)).mp h))]
          by_cases c2 : i < q.1 + q.2
          · rw [if_pos ((nI_ltI (by omega) (by omega)).mpr c2)]
            have := ih (k + 1) false (by omega) (by omega)
            simpa [c1, show ¬ (q.1 + q.2 ≤ i) by omega] using this
          · rw [if_neg (fun h => c2 ((nI_ltI (by omega) (by omega)).mp h))]
            have := ih (k + 1) true (by omega) (by omega)
            simpa [show q.1 + q.2 ≤ i by omega, nI1] using this
theorem m_free {hs : Hs} {at_ ln : Nat → Int32} {i d : Nat} (hT : T ≤ 24) (hl : hs.length ≤ 24) (hok : HsOk w T hs) (hm : MH hs at_ ln) (hid : i + d ≤ 48) : f_Mo_free (nI hs.length) at_ ln (nI i) (nI d) = some (if freeB hs i d then 1 else 0) := by
  unfold f_Mo_free
  have := m_freeL (kk := f_Mo_free_K5_62) (i := i) (d := d) hT hl hok hm hid 1000 0 true (by omega) (by omega)
  rw [nI0]
  rw [if_pos rfl] at this
  rw [this]
  unfold f_Mo_free_K5_62
  simp only [List.drop_zero, Bool.true_and]
  cases freeB hs i d <;> rfl
/-- the reference's choice so far -/
def MS (sv : Nat → Nat → Int32) (s : Option (Nat × Nat)) (x4 x5 x6 : Int32) : Prop := match s with
  | none => x4 = (-1 : Int32)
  | some q => x4 = nI q.1 ∧ x5 = nI q.2 ∧ x6 = sv q.1 q.2
theorem m_s61 {hs : Hs} {at_ ln : Nat → Int32} {i : Nat} {kk : Int32 → Int32 → Int32 → Int32 → Option (Int32 × Int32 × (Nat → Int32) × Int32 × (Nat → Int32) × (Nat → Int32))} (hT : T ≤ 24) (hw : w ≤ 12) (hl : hs.length ≤ 24) (hok : HsOk w T hs) (hm : MH hs at_ ln) (hi : i < T) (hv : ∀ j e, j + e ≤ T → e ≤ 12 → vals (cl 0 j e) = sv j e) :
    ∀ (n d : Nat) (s : Option (Nat × Nat)) (x4 x5 x6 : Int32), 1 ≤ d → d ≤ min w (T - i) + 1 → min w (T - i) + 1 < d + n → MS sv s x4 x5 x6 → (∀ q, s = some q → q.1 ≤ 24) →
      ∃ y4 y5 y6 y8, f_Mo_scan_L61 (nI T) (nI w) th vals (nI hs.length) at_ ln (nI i) kk n x4 x5 x6 (nI d) = kk y4 y5 y6 y8 ∧ MS sv (sD sv th (freeB hs i) i (min w (T - i) + 1 - d) d s) y4 y5 y6 := by
  intro n
  induction n with
  | zero => intro d s x4 x5 x6 h1 h2 h3; omega
  | succ n ih =>
    intro d s x4 x5 x6 h1 h2 h3 hms hq24
    rw [f_Mo_scan_L61]
    by_cases c1 : w < d
    · rw [if_pos ((nI_ltI (by omega) (by omega)).mpr c1), show min w (T - i) + 1 - d = 0 by omega]
      exact ⟨_, _, _, _, rfl, hms⟩
    · rw [if_neg (fun h => c1 ((nI_ltI (by omega) (by omega)).mp h)), nI_add]
      by_cases c2 : T < i + d
      · rw [if_pos ((nI_ltI (by omega) (by omega)).mpr c2), show min w (T - i) + 1 - d = 0 by omega]
        exact ⟨_, _, _, _, rfl, hms⟩
      · rw [if_neg (fun h => c2 ((nI_ltI (by omega) (by omega)).mp h)), nI0, m_cell, ob1_some, gd_in (cl_lt (by omega) (by omega) (by omega)) (by omega), nI_clamp (by have := cl_lt (v := 0) (i := i) (d := d) (by omega) (by omega) (by omega); omega), hv i d (by omega) (by omega)]
        rw [show min w (T - i) + 1 - d = (min w (T - i) + 1 - (d + 1)) + 1 by omega, sD]
        have hnext : ∀ (s' : Option (Nat × Nat)) (z4 z5 z6 : Int32), MS sv s' z4 z5 z6 → (∀ q, s' = some q → q.1 ≤ 24) → ∃ y4 y5 y6 y8, f_Mo_scan_L61 (nI T) (nI w) th vals (nI hs.length) at_ ln (nI i) kk n z4 z5 z6 (nI d + (1 : Int32)) = kk y4 y5 y6 y8 ∧ MS sv (sD sv th (freeB hs i) i (min w (T - i) + 1 - (d + 1)) (d + 1) s') y4 y5 y6 := by
          intro s' z4 z5 z6 hz hz2
          rw [nI1, nI_add]
          exact ih (d + 1) s' z4 z5 z6 (by omega) (by omega) (by omega) hz hz2
        have hJ : (∀ q, s = some q → ¬ (sv i d ≤ sv q.1 q.2)) → ¬ sv i d = (-1000000 : Int32) → ¬ sv i d < th → ∃ y4 y5 y6 y8, f_Mo_scan_J119 vals (nI hs.length) at_ ln (nI i) x4 x5 x6 (nI d) (f_Mo_scan_L61 (nI T) (nI w) th vals (nI hs.length) at_ ln (nI i) kk n) (nI (cl 0 i d)) = kk y4 y5 y6 y8 ∧ MS sv (sD sv th (freeB hs i) i (min w (T - i) + 1 - (d + 1)) (d + 1) (selStep sv th s i d (freeB hs i d))) y4 y5 y6 := by
          intro hbetter hne hth
          unfold f_Mo_scan_J119
          rw [m_free hT hl hok hm (by omega), ob1_some]
          unfold selStep
          rw [if_neg hne, if_neg hth]
          cases hf : freeB hs i d with
          | false =>
            rw [if_pos (by rfl)]
            cases s with
            | none => exact hnext none x4 x5 x6 hms hq24
            | some q =>
              dsimp only
              rw [if_neg (hbetter q rfl)]
              exact hnext (some q) x4 x5 x6 hms hq24
          | true =>
            rw [if_neg (by decide), nI_clamp (by have := cl_lt (v := 0) (i := i) (d := d) (by omega) (by omega) (by omega); omega), hv i d (by omega) (by omega)]
            cases s with
            | none => exact hnext (some (i, d)) _ _ _ ⟨rfl, rfl, rfl⟩ (fun q hq => by cases hq; omega)
            | some q =>
              dsimp only
              rw [if_neg (hbetter q rfl)]
              exact hnext (some (i, d)) _ _ _ ⟨rfl, rfl, rfl⟩ (fun q hq => by cases hq; omega)
        by_cases c3 : sv i d = (-1000000 : Int32)
        · rw [if_pos c3]
          have e : selStep sv th s i d (freeB hs i d) = s := by unfold selStep; rw [if_pos c3]
          rw [e]
          exact hnext s x4 x5 x6 hms hq24
        · rw [if_neg c3]
          by_cases c4 : sv i d < th
          · rw [if_pos c4]
            have e : selStep sv th s i d (freeB hs i d) = s := by unfold selStep; rw [if_neg c3, if_pos c4]
            rw [e]
            exact hnext s x4 x5 x6 hms hq24
          · rw [if_neg c4]
            cases s with
            | none =>
              have hx : x4 = (-1 : Int32) := hms
              rw [if_pos (by rw [hx]; decide)]
              exact hJ (fun q h => by cases h) c3 c4
            | some q =>
              have hx : x4 = nI q.1 ∧ x5 = nI q.2 ∧ x6 = sv q.1 q.2 := hms
              have := hq24 q rfl
              rw [if_neg (by rw [hx.1]; exact nI_pos (by omega)), hx.2.2]
              by_cases c5 : sv i d ≤ sv q.1 q.2
              · rw [if_pos c5]
                have e : selStep sv th (some q) i d (freeB hs i d) = some q := by unfold selStep; rw [if_neg c3, if_neg c4]; dsimp only; rw [if_pos c5]
                rw [e]
                exact hnext (some q) _ _ _ ⟨hx.1, hx.2.1, rfl⟩ hq24
              · rw [if_neg c5]
                have := hJ (fun q' h => by cases h; exact c5) c3 c4
                rwa [hx.2.2] at this
theorem sD_q {sv : Nat → Nat → Int32} {th : Int32} {fr : Nat → Bool} {i : Nat} (hi : i ≤ 24) : ∀ (n d : Nat) (s : Option (Nat × Nat)), (∀ q, s = some q → q.1 ≤ 24) → ∀ q, sD sv th fr i n d s = some q → q.1 ≤ 24 := by
  intro n
  induction n with
  | zero => intro d s h; exact h
  | succ n ih =>
    intro d s h
    rw [sD]
    refine ih (d + 1) _ (fun q hq => ?_)
    unfold selStep at hq
    split at hq
    · exact h q hq
    · split at hq
      · exact h q hq
      · cases s with
        | none =>
          dsimp only at hq
          split at hq
          · cases hq; exact hi
          · cases hq
        | some q0 =>
          dsimp only at hq
          split at hq
          · exact h q hq
          · split at hq
            · cases hq; exact hi
            · exact h q hq
theorem m_s49 {hs : Hs} {at_ ln : Nat → Int32} {kk : Int32 → Int32 → Int32 → Int32 → Option (Int32 × Int32 × (Nat → Int32) × Int32 × (Nat → Int32) × (Nat → Int32))} (hT : T ≤ 24) (hw : w ≤ 12) (hl : hs.length ≤ 24) (hok : HsOk w T hs) (hm : MH hs at_ ln) (hv : ∀ j e, j + e ≤ T → e ≤ 12 → vals (cl 0 j e) = sv j e) :
    ∀ (n i : Nat) (s : Option (Nat × Nat)) (x4 x5 x6 : Int32), i ≤ T → T < i + n → MS sv s x4 x5 x6 → (∀ q, s = some q → q.1 ≤ 24) →
      ∃ y4 y5 y6 y7, f_Mo_scan_L49 (nI T) (nI w) th vals (nI hs.length) at_ ln kk n x4 x5 x6 (nI i) = kk y4 y5 y6 y7 ∧ MS sv (sI sv th (freeB hs) w T (T - i) i s) y4 y5 y6 := by
  intro n
  induction n with
  | zero => intro i s x4 x5 x6 h1 h2; omega
  | succ n ih =>
    intro i s x4 x5 x6 h1 h2 hms hq24
    rw [f_Mo_scan_L49]
    by_cases c1 : T ≤ i
    · rw [if_pos ((nI_leI (by omega) (by omega)).mpr c1), show T - i = 0 by omega]
      exact ⟨_, _, _, _, rfl, hms⟩
    · rw [if_neg (fun h => c1 ((nI_leI (by omega) (by omega)).mp h)), nI1]
      obtain ⟨y4, y5, y6, y8, e1, h1'⟩ := m_s61 (kk := f_Mo_scan_K61_148 (nI i) (f_Mo_scan_L49 (nI T) (nI w) th vals (nI hs.length) at_ ln kk n)) hT hw hl hok hm (show i < T by omega) hv 1000 1 s x4 x5 x6 (by omega) (by omega) (by omega) hms hq24
      rw [e1]
      unfold f_Mo_scan_K61_148
      rw [nI1, nI_add, show T - i = (T - (i + 1)) + 1 by omega, sI]
      exact ih (i + 1) _ y4 y5 y6 (by omega) (by omega) h1' (sD_q (by omega) _ _ _ hq24)
theorem m_s32 {W4 : Int32} (hT : T ≤ 24) (hw : w ≤ 12) (hv : ∀ j e, j + e ≤ T → e ≤ 12 → vals (cl 0 j e) = sv j e) :
    ∀ (n : Nat) (hs : Hs) (at_ ln : Nat → Int32), HsOk w T hs → MH hs at_ ln → hs.length + unt hs T ≤ T → unt hs T + 1 < n →
      ∃ at' ln', f_Mo_scan_L32 (nI T) (nI w) th vals (f_Mo_scan_K32_204 W4 vals) n (1 : Int32) (nI hs.length) at_ ln = some (nI (scanS sv th w T (unt hs T) hs).length, W4, vals, nI (scanS sv th w T (unt hs T) hs).length, at', ln') ∧ MH (scanS sv th w T (unt hs T) hs) at' ln' ∧ HsOk w T (scanS sv th w T (unt hs T) hs) ∧ (scanS sv th w T (unt hs T) hs).length ≤ T := by
  intro n
  induction n with
  | zero => intro hs at_ ln _ _ _ h; omega
  | succ n ih =>
    intro hs at_ ln hok hm hlen hn
    rw [f_Mo_scan_L32, if_neg (by decide), nI0]
    obtain ⟨y4, y5, y6, y7, e1, h1⟩ := m_s49 (th := th) (kk := f_Mo_scan_K49_154 (nI hs.length) at_ ln (f_Mo_scan_L32 (nI T) (nI w) th vals (f_Mo_scan_K32_204 W4 vals) n)) hT hw (by omega) hok hm hv 1000 0 none (-1 : Int32) (nI 0) (-1000000 : Int32) (by omega) (by omega) rfl (fun q h => by cases h)
    rw [e1]
    unfold f_Mo_scan_K49_154
    rw [show T - 0 = T from rfl] at h1
    have hsel : sI sv th (freeB hs) w T T 0 none = sel sv th w T hs := rfl
    rw [hsel] at h1
    cases hq : sel sv th w T hs with
    | none =>
      rw [hq] at h1
      have hx : y4 = (-1 : Int32) := h1
      rw [if_pos (by rw [hx]; decide)]
      unfold f_Mo_scan_J164
      rw [if_pos rfl]
      have hS : scanS sv th w T (unt hs T) hs = hs := by
        cases hu : unt hs T with
        | zero => rfl
        | succ u => rw [scanS, hq]
      rw [hS]
      cases n with
      | zero => omega
      | succ n =>
        rw [f_Mo_scan_L32, if_pos rfl]
        unfold f_Mo_scan_K32_204
        exact ⟨at_, ln, rfl, hm, hok, by omega⟩
    | some q =>
      rw [hq] at h1
      have hx : y4 = nI q.1 ∧ y5 = nI q.2 ∧ y6 = sv q.1 q.2 := h1
      have g1 := sel_ok (hs := hs) q hq
      have g2 : unt (hs ++ [q]) T + 1 ≤ unt hs T := unt_less (hs := hs) (fun h hh => (hok h hh).1) g1.1 g1.2.2.1 g1.2.2.2.1
      have hok' : HsOk w T (hs ++ [q]) := fun h hh => by
        rcases List.mem_append.mp hh with hh | hh
        · exact hok h hh
        · rw [List.mem_singleton.mp hh]; exact ⟨g1.1, g1.2.1, g1.2.2.1⟩
      rw [if_neg (by rw [hx.1]; exact nI_pos (by omega))]
      unfold f_Mo_scan_J164
      rw [if_neg (by decide), gd_in (by omega) (by omega), gd_in (by omega) (by omega), nI_clamp (by omega), hx.1, hx.2.1, nI1, nI_add]
      have hl' : hs.length + 1 = (hs ++ [q]).length := by simp
      rw [hl']
      have hS : scanS sv th w T (unt hs T) hs = scanS sv th w T (unt (hs ++ [q]) T) (hs ++ [q]) := by
        rw [show unt hs T = (unt hs T - 1) + 1 by omega, scanS, hq]
        exact scanS_stable _ _ _ hok' (by omega) (Nat.le_refl _)
      rw [hS]
      refine ih (hs ++ [q]) _ _ hok' (fun k hk => ?_) (by omega) (by omega)
      by_cases ek : k = hs.length
      · subst ek
        rw [pk_us, pk_us, getD_app_eq]
        exact ⟨rfl, rfl⟩
      · rw [pk_un ek, pk_un ek, getD_app_lt (by omega)]
        exact hm k (by omega)
end SCM
