/-! 75.wf: the grammar of a tree is well made -/
def NG (nl : Nat → Nd) (N : Nat) : Prop := Nk nl N ∧ (0 < N ∧ (nl 0).1 = 0) ∧ ∀ n, n < N → (1 ≤ (nl n).2.2.2.2 ∧ (nl n).2.2.2.2 ≤ 18) ∧ ((nl n).1 ≠ 7 → (nl n).1 ≠ 4 → (nl (n + 1)).2.2.2.2 + 1 ≤ (nl n).2.2.2.2) ∧ ((nl n).1 = 4 → 1 + (nl (n + 1)).2.2.2.2 + (nl (nl n).2.2.2.1).2.2.2.2 ≤ (nl n).2.2.2.2)
def rkf (nl : Nat → Nd) (N v : Nat) : Nat := (nl (ndf nl N v)).2.2.2.2 - (if ins (kdf nl N v) then 1 else 0)
def stf (R : Nat) (lt : Nat → Nat → Nat) (nl : Nat → Nd) (N v k : Nat) : Int := if kdf nl N v = 7 then 0 else lgc (cn (fun r => inS lt nl N v r && inS lt nl N ((tgf nl N v).getD k 0) r) R + 1) (cn (inS lt nl N v) R + (tgf nl N v).length)
def lcol (nl : Nat → Nd) (N v : Nat) : Nat := if kdf nl N v = 3 then (nl (ndf nl N v)).2.2.1 else (nl (ndf nl N v)).2.1
def emf (R : Nat) (lt : Nat → Nat → Nat) (nl : Nat → Nd) (N v a b : Nat) : Int :=
  if ins (kdf nl N v) then 0 else if kdf nl N v = 1 then lgc (16 * (cn (fun r => inS lt nl N v r && (decide (lt r (nl (ndf nl N v)).2.1 = a) && decide (lt r (nl (ndf nl N v)).2.2.1 = b))) R + 1)) (cn (inS lt nl N v) R + 16)
  else lgc (4 * (cn (fun r => inS lt nl N v r && decide (lt r (lcol nl N v) = a)) R + 1)) (cn (inS lt nl N v) R + 4)
theorem sk_ordA : ∀ k, k < 8 → ∀ s, s < (sk k).length → ∀ s', s' < (sk k).length → (ins ((sk k).getD s' 0) && !ins ((sk k).getD s 0)) = true → s < s' := by decide +kernel
theorem sk_ordB : ∀ k, k < 8 → ∀ s, s < (sk k).length → ∀ s', s' < (sk k).length → (ins ((sk k).getD s' 0) && decide ((sk k).getD s 0 = 5)) = true → s ≤ s' := by decide +kernel
theorem sk_ord (k : Nat) (hk : k < 8) (s : Nat) (hs : s < (sk k).length) (s' : Nat) (hs' : s' < (sk k).length) (h : ins ((sk k).getD s' 0) = true) : (ins ((sk k).getD s 0) = false → s < s') ∧ ((sk k).getD s 0 = 5 → s ≤ s') :=
  ⟨fun q => sk_ordA k hk s hs s' hs' (by rw [h, q]; rfl), fun q => sk_ordB k hk s hs s' hs' (by rw [h, q]; rfl)⟩
theorem sk_first : ∀ k, k < 8 → ins ((sk k).getD 0 0) = false := by decide +kernel
theorem sk_end : ∀ k, k < 8 → ∀ s, s < (sk k).length → ins ((sk k).getD s 0) = true → k ≠ 7 ∧ k ≠ 4 := by decide +kernel
section WFS
variable {R : Nat} {lt : Nat → Nat → Nat} {nl : Nat → Nd} {N : Nat}
theorem rk_at {n s : Nat} (hn : n < N) (hs : s < (sk (nl n).1).length) : rkf nl N (fs nl n + s) = (nl n).2.2.2.2 - (if ins ((sk (nl n).1).getD s 0) then 1 else 0) := by
  unfold rkf
  rw [ndf_eq hn hs, kdf_eq hn hs]
theorem ins_cases {k : Nat} (h : ins k = true) : k = 5 ∨ k = 6 := by
  unfold ins at h
  simpa using h
theorem tg_own {n s w : Nat} (hG : NG nl N) (hn : n < N) (hs : s < (sk (nl n).1).length) (hw : w ∈ slc (own nl N (fs nl n + s)) (fs nl n) (sk (nl n).1).length) :
    w < fs nl N ∧ (fs nl n + s < w ∨ (fs nl n + s ≤ w ∧ 1 ≤ lo (kdf nl N (fs nl n + s)))) ∧ 1 + rkf nl N w ≤ rkf nl N (fs nl n + s) + lo (kdf nl N (fs nl n + s)) := by
  obtain ⟨w1, w2, w3⟩ := slc_mem hw
  obtain ⟨s', rfl⟩ : ∃ s', w = fs nl n + s' := ⟨w - fs nl n, by omega⟩
  have hs' : s' < (sk (nl n).1).length := by omega
  have h8 := hG.1.2.2.1 n hn
  unfold own at w3
  rw [kdf_eq hn hs', kdf_eq hn hs] at w3
  simp only [Bool.and_eq_true, Bool.or_eq_true, decide_eq_true_eq] at w3
  have hord := sk_ord _ h8 s hs s' hs' w3.1
  have hend := sk_end _ h8 s' hs' w3.1
  have hsub := (hG.2.2 n hn).2.1 hend.1 hend.2
  have hsub1 := (hG.2.2 n hn).1
  have hc := hG.1.2.2.2.1 n hn hend.1
  have hsub2 := (hG.2.2 (n + 1) hc).1
  rw [rk_at hn hs', rk_at hn hs, kdf_eq hn hs, w3.1, if_pos rfl]
  refine ⟨fs_lt nl hn hs', ?_, ?_⟩
  · cases hi : ins ((sk (nl n).1).getD s 0) with
    | false => have := hord.1 hi; exact Or.inl (by omega)
    | true =>
      rcases ins_cases hi with q | q
      · have := hord.2 q
        rw [q]
        exact Or.inr ⟨by omega, by decide⟩
      · rw [q] at w3 ⊢
        rcases w3.2 with h | h
        · exact absurd rfl h
        · exact Or.inr ⟨by omega, by decide⟩
  · cases hi : ins ((sk (nl n).1).getD s 0) with
    | false => rw [if_neg (by decide)]; omega
    | true =>
      rw [if_pos rfl]
      rcases ins_cases hi with q | q
      · rw [q, show lo 5 = 1 from rfl]; omega
      · rw [q, show lo 6 = 1 from rfl]; omega
theorem tg_non {n s w : Nat} (hG : NG nl N) (hn : n < N) (hs : s < (sk (nl n).1).length) (hn7 : (nl n).1 ≠ 7) (hn4 : (nl n).1 ≠ 4) (hw : w ∈ slc (non nl N) (fs nl (n + 1)) (sk (nl (n + 1)).1).length) :
    w < fs nl N ∧ fs nl n + s < w ∧ 1 + rkf nl N w ≤ rkf nl N (fs nl n + s) + lo (kdf nl N (fs nl n + s)) := by
  obtain ⟨w1, w2, w3⟩ := slc_mem hw
  obtain ⟨s', rfl⟩ : ∃ s', w = fs nl (n + 1) + s' := ⟨w - fs nl (n + 1), by omega⟩
  have hs' : s' < (sk (nl (n + 1)).1).length := by omega
  have hc := hG.1.2.2.2.1 n hn hn7
  have hf1 : fs nl (n + 1) = fs nl n + (sk (nl n).1).length := rfl
  unfold non at w3
  rw [kdf_eq hc hs'] at w3
  have w4 : ins ((sk (nl (n + 1)).1).getD s' 0) = false := by simpa using w3
  have hsub := (hG.2.2 n hn).2.1 hn7 hn4
  have hsub2 := (hG.2.2 (n + 1) hc).1
  refine ⟨fs_lt nl hc hs', by omega, ?_⟩
  rw [rk_at hc hs', rk_at hn hs, kdf_eq hn hs, w4, if_neg (by decide)]
  cases hi : ins ((sk (nl n).1).getD s 0) with
  | false => rw [if_neg (by decide)]; omega
  | true =>
    rw [if_pos rfl]
    rcases ins_cases hi with q | q
    · rw [q, show lo 5 = 1 from rfl]; omega
    · rw [q, show lo 6 = 1 from rfl]; omega
theorem wf_all (hG : NG nl N) : WF (fs nl N) (kdf nl N) (tgf nl N) (stf R lt nl N) (emf R lt nl N) (rkf nl N) := by
  have hN := hG.1
  refine ⟨⟨?_, hN.2.1, ?_⟩, fun v hv => ?_, fun v k => ?_, fun v a b => ?_⟩
  · have := fs_lt nl (n := 0) (N := N) (s := 0) hG.2.1.1 (by rw [hG.2.1.2]; decide)
    omega
  · have := kdf_eq (nl := nl) (N := N) (n := 0) (s := 0) hG.2.1.1 (by rw [hG.2.1.2]; decide)
    rw [hG.2.1.2] at this
    exact this
  · obtain ⟨n, s, hn, hs, rfl⟩ := st_ex hv
    have h8 := hN.2.2.1 n hn
    have hsub := (hG.2.2 n hn).1
    have hlen2 := own_len hN hv
    have hske := sk_e _ h8
    obtain ⟨-, -, -, hmem⟩ := nd_rng hv
    rw [ndf_eq hn hs] at hlen2 hmem
    have hkd := kd_le hN.2.2.1 hv
    have hrk1 : 1 ≤ rkf nl N (fs nl n + s) := by
      rw [rk_at hn hs]
      cases hi : ins ((sk (nl n).1).getD s 0) with
      | false => rw [if_neg (by decide)]; omega
      | true =>
        have hend := sk_end _ h8 s hs hi
        have h1 := (hG.2.2 n hn).2.1 hend.1 hend.2
        have h2 := (hG.2.2 (n + 1) (hN.2.2.2.1 n hn hend.1)).1
        rw [if_pos rfl]; omega
    have hrk2 : rkf nl N (fs nl n + s) ≤ 18 := by rw [rk_at hn hs]; omega
    refine ⟨hkd, hrk2, hrk1, ?_⟩
    by_cases k8 : kdf nl N (fs nl n + s) = 8
    · have e : tgf nl N (fs nl n + s) = [] := by unfold tgf; rw [if_pos k8]
      rw [e]
      exact ⟨by decide, fun w hw => absurd hw List.not_mem_nil, fun h => by omega, fun _ w hw => absurd hw List.not_mem_nil⟩
    · have hn7 : (nl n).1 ≠ 7 := fun q => k8 (hske.2.2.1 q _ hmem)
      have hc := hN.2.2.2.1 n hn hn7
      by_cases k7 : kdf nl N (fs nl n + s) = 7
      · have hn4 : (nl n).1 = 4 := hske.2.1 (by rw [← k7]; exact hmem)
        have hfk := hN.2.2.2.2 n hn hn4
        have hsb := (hG.2.2 n hn).2.2 hn4
        have e : tgf nl N (fs nl n + s) = [fs nl (n + 1), fs nl (nl n).2.2.2.1] := by unfold tgf; rw [if_neg k8, if_pos k7, ndf_eq hn hs]
        have hf1 : fs nl (n + 1) = fs nl n + (sk (nl n).1).length := rfl
        have hfm := fs_mono nl (show n + 1 ≤ (nl n).2.2.2.1 by omega)
        have l1 := sk_len _ (hN.2.2.1 _ hc)
        have l2 := sk_len _ (hN.2.2.1 _ hfk.2)
        have a1 : fs nl (n + 1) < fs nl N := by have := fs_lt nl hc (s := 0) (by omega); omega
        have a2 : fs nl (nl n).2.2.2.1 < fs nl N := by have := fs_lt nl hfk.2 (s := 0) (by omega); omega
        have r1 : rkf nl N (fs nl (n + 1)) = (nl (n + 1)).2.2.2.2 := by
          have := rk_at (nl := nl) (N := N) hc (s := 0) (by omega)
          rw [sk_first _ (hN.2.2.1 _ hc), if_neg (by decide)] at this
          exact this
        have r2 : rkf nl N (fs nl (nl n).2.2.2.1) = (nl (nl n).2.2.2.1).2.2.2.2 := by
          have := rk_at (nl := nl) (N := N) hfk.2 (s := 0) (by omega)
          rw [sk_first _ (hN.2.2.1 _ hfk.2), if_neg (by decide)] at this
          exact this
        have r0 : rkf nl N (fs nl n + s) = (nl n).2.2.2.2 := by
          unfold rkf
          rw [ndf_eq hn hs, k7]; rfl
        rw [e]
        refine ⟨by show 2 ≤ 6; decide, fun w hw => ?_, fun _ => ⟨_, _, rfl, by omega, by omega, a1, a2, by rw [r1, r2, r0]; omega⟩, fun h => absurd k7 h⟩
        rcases List.mem_cons.mp hw with q | hw
        · rw [q]; exact ⟨a1, Or.inl (by omega)⟩
        · rcases List.mem_cons.mp hw with q | hw
          · rw [q]; exact ⟨a2, Or.inl (by omega)⟩
          · exact absurd hw List.not_mem_nil
      · have hn4 : (nl n).1 ≠ 4 := fun q => k7 (hske.2.2.2 q _ hmem)
        have e : tgf nl N (fs nl n + s) = slc (own nl N (fs nl n + s)) (fs nl n) (sk (nl n).1).length ++ slc (non nl N) (fs nl (n + 1)) (sk (nl (n + 1)).1).length := by unfold tgf; rw [if_neg k8, if_neg k7, ndf_eq hn hs]
        have hlen4 := len_non hN hc
        rw [e]
        refine ⟨by rw [List.length_append]; omega, fun w hw => ?_, fun h => absurd h k7, fun _ w hw => ?_⟩
        · rcases List.mem_append.mp hw with hw | hw
          · have := tg_own hG hn hs hw; exact ⟨this.1, this.2.1⟩
          · have := tg_non hG hn hs hn7 hn4 hw; exact ⟨this.1, Or.inl this.2.1⟩
        · rcases List.mem_append.mp hw with hw | hw
          · exact (tg_own hG hn hs hw).2.2
          · exact (tg_non hG hn hs hn7 hn4 hw).2.2
  · unfold stf
    split
    · omega
    · exact lgc_bd _ _
  · unfold emf
    split
    · omega
    · split
      · exact lgc_bd _ _
      · exact lgc_bd _ _
end WFS
