theorem m_48 : Cond.initialized "FoldedFamilyLaw" ∈ gw := gw_mem 48 (by decide +kernel) rfl
theorem m_60 : Cond.classLink "FoldedFamilyLaw" 7 "FoldedFamily" ∈ gw := gw_mem 60 (by decide +kernel) rfl
theorem m_61 : Cond.instantiable "FoldedFamily" 7 ∈ gw := gw_mem 61 (by decide +kernel) rfl
theorem m_62 : Cond.methodLink "FoldedFamilyLaw" 15 ⟨"FoldedFamily", "<init>", "(I)V"⟩ ∈ gw := gw_mem 62 (by decide +kernel) rfl
theorem m_63 : Cond.instanceMethod ⟨"FoldedFamily", "<init>", "(I)V"⟩ ∈ gw := gw_mem 63 (by decide +kernel) rfl
set_option maxRecDepth 100000 in
theorem m_64 : Cond.code ⟨"FoldedFamily", "<init>", "(I)V"⟩ prog_1_method_1_code 6 none ∈ gw := gw_mem 64 rfl rfl
theorem m_708 : Cond.methodLink "FoldedFamilyLaw" 9 ⟨"FoldedFamilyLaw", "cell", "([II)I"⟩ ∈ gw := gw_mem 708 (by decide +kernel) rfl
theorem m_709 : Cond.static ⟨"FoldedFamilyLaw", "cell", "([II)I"⟩ ∈ gw := gw_mem 709 (by decide +kernel) rfl
set_option maxRecDepth 100000 in
theorem m_710 : Cond.code ⟨"FoldedFamilyLaw", "cell", "([II)I"⟩ method_2_code 2 (some .int) ∈ gw := gw_mem 710 rfl rfl
theorem m_711 : Cond.classLink "FoldedFamilyLaw" 18 "FoldedFamilyModel" ∈ gw := gw_mem 711 (by decide +kernel) rfl
theorem m_712 : Cond.instantiable "FoldedFamilyModel" 29 ∈ gw := gw_mem 712 (by decide +kernel) rfl
theorem m_713 : Cond.methodLink "FoldedFamilyLaw" 20 ⟨"FoldedFamilyModel", "<init>", "(I)V"⟩ ∈ gw := gw_mem 713 (by decide +kernel) rfl
theorem m_714 : Cond.instanceMethod ⟨"FoldedFamilyModel", "<init>", "(I)V"⟩ ∈ gw := gw_mem 714 (by decide +kernel) rfl
set_option maxRecDepth 100000 in
theorem m_715 : Cond.code ⟨"FoldedFamilyModel", "<init>", "(I)V"⟩ prog_10_method_1_code 2 none ∈ gw := gw_mem 715 rfl rfl
/-! the law from its entry, over an abstract relation (written by wip/gen/start.py) -/
def rm_La_cell : Room := { frames := 0, cells := 0, slots := 0, locals := 0 }
def lwc (L : Nat) (xs : Nat → Int32) : Int32 := if Int32.ofNat L ≤ 0 then 0 else xs (Int32.toNatClampNeg 0)
set_option maxHeartbeats 4000000 in
set_option maxRecDepth 100000 in
theorem c_La_cell (l : Launch) (b L : Nat) (xs : Nat → Int32) (hL : L ≤ 2049) (sz : Nat) : Met l y_La_cell (.code y_La_cell method_2_code 2 (some .int) :: gw) rm_La_cell (va_Pc [.ref b, .int 0] (fun U => U.heap.size = sz ∧ va_X b L xs U U.heap ∧ b < sz)) (va_Qi (S := Unit) (fun r _ => r = lwc L xs) (fun _ _ => True) (fun q => sz ≤ q)) 0 0 (fun q => sz ≤ q) := by
  refine Met.ofW (cc := method_2_code) (maxL := 2) (ret := (some .int)) (by decide) rfl ?_
  intro p e s m args below meth c s₁ B hml hv
  obtain ⟨rfl, hsz, hX, hbl⟩ := hv
  have hx := B.exec
  have hb := B.bytes
  have hr := B.returns
  have hlocks := B.notSynchronized
  subst hsz
  have hS : va_S (fun q : Nat => s.heap.size ≤ q) s.heap s.heap [] := va_S.rf
  have hbA : ¬ (fun q : Nat => s.heap.size ≤ q) b := Nat.not_le.mpr hbl
  have hl := lv_entry [.ref b, .int 0] (n := 2) (Nat.le_of_ble_eq_true rfl)
  rw [lg_entry_eq]
  generalize (lg_sl [.ref b, .int 0] ++ List.replicate (2 - (lg_sl [.ref b, .int 0]).length) Slot.unset).toArray = ls at hl ⊢
  have hl : lv_has ls 2 [(0, .ref b), (1, .int 0)] := hl
  refine lv_iload_n hx hb d_La_cell_0 rfl (lv_at hl 1 rfl) ?_
  refine lv_aload_n hx hb d_La_cell_1 rfl (lv_at hl 0 rfl) ?_
  refine va_slen hx hb hX hbl hbA hS d_La_cell_2 ?_
  refine lv_icmp_ge (tgt := 12) hx hb d_La_cell_3 (by decide) (fun c9 => ?_) (fun c9 => ?_)
  · refine lv_iconst (v := 0) hx hb d_La_cell_12 (by decide) ?_
    exact W.iret (v := 0) hx hb hr (fun t ht hW => ⟨⟨0, (), rfl, by unfold lwc; rw [if_pos c9], trivial⟩, hS.F ht⟩) hS.2.2 d_La_cell_13
  · have h0 : vp_in 0 L := by
      rcases Nat.eq_zero_or_pos L with h | h
      · subst h; exact absurd (by decide) c9
      · exact vp_in_nI (n := 0) h (by omega)
    refine lv_aload_n hx hb d_La_cell_6 rfl (lv_at hl 0 rfl) ?_
    refine lv_iload_n hx hb d_La_cell_7 rfl (lv_at hl 1 rfl) ?_
    refine va_sld hx hb hX hbl hbA hS h0 d_La_cell_8 ?_
    refine lv_goto (tgt := 13) hx hb d_La_cell_9 (by decide) ?_
    exact W.iret (v := xs (Int32.toNatClampNeg 0)) hx hb hr (fun t ht hW => ⟨⟨_, (), rfl, by unfold lwc; rw [if_neg c9], trivial⟩, hS.F ht⟩) hS.2.2 d_La_cell_13
theorem nst_in : ∀ q ∈ nstl, Cond.methodLinkNest q.1 q.2.1 q.2.2.1 q.2.2.2 ∈ lw_tbl := by decide +kernel
set_option maxRecDepth 100000 in
theorem stt_0 {b : Nat} {s : State} {A : Nat → Prop} (hts : ∀ w ∈ lw_tbl, w.before #[Value.ref b] s = true) (hgv : (Jvm.Cond.and given_1 narrow_1).before #[Value.ref b] s = true) (hA : ∀ a : Nat, a < s.heap.size → ¬ A a) : ∃ t : Nat, va_Z "FoldedFamily" (stN 0) "[I" (.ref t) A s s.heap ∧ va_T .int t (stL 0) (fun k => .int (stV 0 k)) A s s.heap := by
  have hs := flat_of_before _ hgv
  have harr : (Cond.arrayOf (Term.static "FoldedFamily" "ROOT_STATES" "[I") .int).before #[Value.ref b] s = true := hs _ (by decide +kernel)
  have hlen := va_eqt (hs (Cond.eq (.length (Term.static "FoldedFamily" "ROOT_STATES" "[I")) (.int 3)) (by decide +kernel))
  have he0 := va_eqt (hs (Cond.eq (.elem (Term.static "FoldedFamily" "ROOT_STATES" "[I") (.int 0)) (.int 0)) (by decide +kernel))
  have he1 := va_eqt (hs (Cond.eq (.elem (Term.static "FoldedFamily" "ROOT_STATES" "[I") (.int 1)) (.int 5)) (by decide +kernel))
  have he2 := va_eqt (hs (Cond.eq (.elem (Term.static "FoldedFamily" "ROOT_STATES" "[I") (.int 2)) (.int 6)) (by decide +kernel))
  obtain ⟨t, ht, hT⟩ := va_Tof (N := 3) (f := fun k => .int (stV 0 k)) (A := A) (by decide) harr hlen (fun k hk => by
    rcases (show k = 0 ∨ k = 1 ∨ k = 2 by omega) with rfl | rfl | rfl
    · exact he0
    · exact he1
    · exact he2) hA
  exact ⟨t, va_Zref (hts (.laysStatic "FoldedFamily" "ROOT_STATES" "[I") (by decide +kernel)) (hts (.initialized "FoldedFamily") (by decide +kernel)) ht hA, hT⟩
set_option maxRecDepth 100000 in
theorem stt_1 {b : Nat} {s : State} {A : Nat → Prop} (hts : ∀ w ∈ lw_tbl, w.before #[Value.ref b] s = true) (hgv : (Jvm.Cond.and given_1 narrow_1).before #[Value.ref b] s = true) (hA : ∀ a : Nat, a < s.heap.size → ¬ A a) : ∃ t : Nat, va_Z "FoldedFamily" (stN 1) "[I" (.ref t) A s s.heap ∧ va_T .int t (stL 1) (fun k => .int (stV 1 k)) A s s.heap := by
  have hs := flat_of_before _ hgv
  have harr : (Cond.arrayOf (Term.static "FoldedFamily" "LEFT_STATES" "[I") .int).before #[Value.ref b] s = true := hs _ (by decide +kernel)
  have hlen := va_eqt (hs (Cond.eq (.length (Term.static "FoldedFamily" "LEFT_STATES" "[I")) (.int 3)) (by decide +kernel))
  have he0 := va_eqt (hs (Cond.eq (.elem (Term.static "FoldedFamily" "LEFT_STATES" "[I") (.int 0)) (.int 2)) (by decide +kernel))
  have he1 := va_eqt (hs (Cond.eq (.elem (Term.static "FoldedFamily" "LEFT_STATES" "[I") (.int 1)) (.int 4)) (by decide +kernel))
  have he2 := va_eqt (hs (Cond.eq (.elem (Term.static "FoldedFamily" "LEFT_STATES" "[I") (.int 2)) (.int 5)) (by decide +kernel))
  obtain ⟨t, ht, hT⟩ := va_Tof (N := 3) (f := fun k => .int (stV 1 k)) (A := A) (by decide) harr hlen (fun k hk => by
    rcases (show k = 0 ∨ k = 1 ∨ k = 2 by omega) with rfl | rfl | rfl
    · exact he0
    · exact he1
    · exact he2) hA
  exact ⟨t, va_Zref (hts (.laysStatic "FoldedFamily" "LEFT_STATES" "[I") (by decide +kernel)) (hts (.initialized "FoldedFamily") (by decide +kernel)) ht hA, hT⟩
set_option maxRecDepth 100000 in
theorem stt_2 {b : Nat} {s : State} {A : Nat → Prop} (hts : ∀ w ∈ lw_tbl, w.before #[Value.ref b] s = true) (hgv : (Jvm.Cond.and given_1 narrow_1).before #[Value.ref b] s = true) (hA : ∀ a : Nat, a < s.heap.size → ¬ A a) : ∃ t : Nat, va_Z "FoldedFamily" (stN 2) "[I" (.ref t) A s s.heap ∧ va_T .int t (stL 2) (fun k => .int (stV 2 k)) A s s.heap := by
  have hs := flat_of_before _ hgv
  have harr : (Cond.arrayOf (Term.static "FoldedFamily" "RIGHT_STATES" "[I") .int).before #[Value.ref b] s = true := hs _ (by decide +kernel)
  have hlen := va_eqt (hs (Cond.eq (.length (Term.static "FoldedFamily" "RIGHT_STATES" "[I")) (.int 3)) (by decide +kernel))
  have he0 := va_eqt (hs (Cond.eq (.elem (Term.static "FoldedFamily" "RIGHT_STATES" "[I") (.int 0)) (.int 3)) (by decide +kernel))
  have he1 := va_eqt (hs (Cond.eq (.elem (Term.static "FoldedFamily" "RIGHT_STATES" "[I") (.int 1)) (.int 4)) (by decide +kernel))
  have he2 := va_eqt (hs (Cond.eq (.elem (Term.static "FoldedFamily" "RIGHT_STATES" "[I") (.int 2)) (.int 6)) (by decide +kernel))
  obtain ⟨t, ht, hT⟩ := va_Tof (N := 3) (f := fun k => .int (stV 2 k)) (A := A) (by decide) harr hlen (fun k hk => by
    rcases (show k = 0 ∨ k = 1 ∨ k = 2 by omega) with rfl | rfl | rfl
    · exact he0
    · exact he1
    · exact he2) hA
  exact ⟨t, va_Zref (hts (.laysStatic "FoldedFamily" "RIGHT_STATES" "[I") (by decide +kernel)) (hts (.initialized "FoldedFamily") (by decide +kernel)) ht hA, hT⟩
set_option maxRecDepth 100000 in
theorem stt_3 {b : Nat} {s : State} {A : Nat → Prop} (hts : ∀ w ∈ lw_tbl, w.before #[Value.ref b] s = true) (hgv : (Jvm.Cond.and given_1 narrow_1).before #[Value.ref b] s = true) (hA : ∀ a : Nat, a < s.heap.size → ¬ A a) : ∃ t : Nat, va_Z "FoldedFamily" (stN 3) "[I" (.ref t) A s s.heap ∧ va_T .int t (stL 3) (fun k => .int (stV 3 k)) A s s.heap := by
  have hs := flat_of_before _ hgv
  have harr : (Cond.arrayOf (Term.static "FoldedFamily" "BOTH_STATES" "[I") .int).before #[Value.ref b] s = true := hs _ (by decide +kernel)
  have hlen := va_eqt (hs (Cond.eq (.length (Term.static "FoldedFamily" "BOTH_STATES" "[I")) (.int 6)) (by decide +kernel))
  have he0 := va_eqt (hs (Cond.eq (.elem (Term.static "FoldedFamily" "BOTH_STATES" "[I") (.int 0)) (.int 1)) (by decide +kernel))
  have he1 := va_eqt (hs (Cond.eq (.elem (Term.static "FoldedFamily" "BOTH_STATES" "[I") (.int 1)) (.int 2)) (by decide +kernel))
  have he2 := va_eqt (hs (Cond.eq (.elem (Term.static "FoldedFamily" "BOTH_STATES" "[I") (.int 2)) (.int 3)) (by decide +kernel))
  have he3 := va_eqt (hs (Cond.eq (.elem (Term.static "FoldedFamily" "BOTH_STATES" "[I") (.int 3)) (.int 4)) (by decide +kernel))
  have he4 := va_eqt (hs (Cond.eq (.elem (Term.static "FoldedFamily" "BOTH_STATES" "[I") (.int 4)) (.int 5)) (by decide +kernel))
  have he5 := va_eqt (hs (Cond.eq (.elem (Term.static "FoldedFamily" "BOTH_STATES" "[I") (.int 5)) (.int 6)) (by decide +kernel))
  obtain ⟨t, ht, hT⟩ := va_Tof (N := 6) (f := fun k => .int (stV 3 k)) (A := A) (by decide) harr hlen (fun k hk => by
    rcases (show k = 0 ∨ k = 1 ∨ k = 2 ∨ k = 3 ∨ k = 4 ∨ k = 5 by omega) with rfl | rfl | rfl | rfl | rfl | rfl
    · exact he0
    · exact he1
    · exact he2
    · exact he3
    · exact he4
    · exact he5) hA
  exact ⟨t, va_Zref (hts (.laysStatic "FoldedFamily" "BOTH_STATES" "[I") (by decide +kernel)) (hts (.initialized "FoldedFamily") (by decide +kernel)) ht hA, hT⟩
set_option maxRecDepth 100000 in
theorem stt_4 {b : Nat} {s : State} {A : Nat → Prop} (hts : ∀ w ∈ lw_tbl, w.before #[Value.ref b] s = true) (hgv : (Jvm.Cond.and given_1 narrow_1).before #[Value.ref b] s = true) (hA : ∀ a : Nat, a < s.heap.size → ¬ A a) : ∃ t : Nat, va_Z "FoldedFamily" (stN 4) "[I" (.ref t) A s s.heap ∧ va_T .int t (stL 4) (fun k => .int (stV 4 k)) A s s.heap := by
  have hs := flat_of_before _ hgv
  have harr : (Cond.arrayOf (Term.static "FoldedFamily" "FORK_STATES" "[I") .int).before #[Value.ref b] s = true := hs _ (by decide +kernel)
  have hlen := va_eqt (hs (Cond.eq (.length (Term.static "FoldedFamily" "FORK_STATES" "[I")) (.int 1)) (by decide +kernel))
  have he0 := va_eqt (hs (Cond.eq (.elem (Term.static "FoldedFamily" "FORK_STATES" "[I") (.int 0)) (.int 7)) (by decide +kernel))
  obtain ⟨t, ht, hT⟩ := va_Tof (N := 1) (f := fun k => .int (stV 4 k)) (A := A) (by decide) harr hlen (fun k hk => by
    rcases (show k = 0 by omega) with rfl
    · exact he0) hA
  exact ⟨t, va_Zref (hts (.laysStatic "FoldedFamily" "FORK_STATES" "[I") (by decide +kernel)) (hts (.initialized "FoldedFamily") (by decide +kernel)) ht hA, hT⟩
set_option maxRecDepth 100000 in
theorem stt_5 {b : Nat} {s : State} {A : Nat → Prop} (hts : ∀ w ∈ lw_tbl, w.before #[Value.ref b] s = true) (hgv : (Jvm.Cond.and given_1 narrow_1).before #[Value.ref b] s = true) (hA : ∀ a : Nat, a < s.heap.size → ¬ A a) : ∃ t : Nat, va_Z "FoldedFamily" (stN 5) "[I" (.ref t) A s s.heap ∧ va_T .int t (stL 5) (fun k => .int (stV 5 k)) A s s.heap := by
  have hs := flat_of_before _ hgv
  have harr : (Cond.arrayOf (Term.static "FoldedFamily" "FIRST_STATES" "[I") .int).before #[Value.ref b] s = true := hs _ (by decide +kernel)
  have hlen := va_eqt (hs (Cond.eq (.length (Term.static "FoldedFamily" "FIRST_STATES" "[I")) (.int 1)) (by decide +kernel))
  have he0 := va_eqt (hs (Cond.eq (.elem (Term.static "FoldedFamily" "FIRST_STATES" "[I") (.int 0)) (.int 0)) (by decide +kernel))
  obtain ⟨t, ht, hT⟩ := va_Tof (N := 1) (f := fun k => .int (stV 5 k)) (A := A) (by decide) harr hlen (fun k hk => by
    rcases (show k = 0 by omega) with rfl
    · exact he0) hA
  exact ⟨t, va_Zref (hts (.laysStatic "FoldedFamily" "FIRST_STATES" "[I") (by decide +kernel)) (hts (.initialized "FoldedFamily") (by decide +kernel)) ht hA, hT⟩
set_option maxRecDepth 100000 in
theorem stt_6 {b : Nat} {s : State} {A : Nat → Prop} (hts : ∀ w ∈ lw_tbl, w.before #[Value.ref b] s = true) (hgv : (Jvm.Cond.and given_1 narrow_1).before #[Value.ref b] s = true) (hA : ∀ a : Nat, a < s.heap.size → ¬ A a) : ∃ t : Nat, va_Z "FoldedFamily" (stN 6) "[I" (.ref t) A s s.heap ∧ va_T .int t (stL 6) (fun k => .int (stV 6 k)) A s s.heap := by
  have hs := flat_of_before _ hgv
  have harr : (Cond.arrayOf (Term.static "FoldedFamily" "SECOND_STATES" "[I") .int).before #[Value.ref b] s = true := hs _ (by decide +kernel)
  have hlen := va_eqt (hs (Cond.eq (.length (Term.static "FoldedFamily" "SECOND_STATES" "[I")) (.int 2)) (by decide +kernel))
  have he0 := va_eqt (hs (Cond.eq (.elem (Term.static "FoldedFamily" "SECOND_STATES" "[I") (.int 0)) (.int 0)) (by decide +kernel))
  have he1 := va_eqt (hs (Cond.eq (.elem (Term.static "FoldedFamily" "SECOND_STATES" "[I") (.int 1)) (.int 5)) (by decide +kernel))
  obtain ⟨t, ht, hT⟩ := va_Tof (N := 2) (f := fun k => .int (stV 6 k)) (A := A) (by decide) harr hlen (fun k hk => by
    rcases (show k = 0 ∨ k = 1 by omega) with rfl | rfl
    · exact he0
    · exact he1) hA
  exact ⟨t, va_Zref (hts (.laysStatic "FoldedFamily" "SECOND_STATES" "[I") (by decide +kernel)) (hts (.initialized "FoldedFamily") (by decide +kernel)) ht hA, hT⟩
set_option maxRecDepth 100000 in
theorem stt_7 {b : Nat} {s : State} {A : Nat → Prop} (hts : ∀ w ∈ lw_tbl, w.before #[Value.ref b] s = true) (hgv : (Jvm.Cond.and given_1 narrow_1).before #[Value.ref b] s = true) (hA : ∀ a : Nat, a < s.heap.size → ¬ A a) : ∃ t : Nat, va_Z "FoldedFamily" (stN 7) "[I" (.ref t) A s s.heap ∧ va_T .int t (stL 7) (fun k => .int (stV 7 k)) A s s.heap := by
  have hs := flat_of_before _ hgv
  have harr : (Cond.arrayOf (Term.static "FoldedFamily" "END_STATES" "[I") .int).before #[Value.ref b] s = true := hs _ (by decide +kernel)
  have hlen := va_eqt (hs (Cond.eq (.length (Term.static "FoldedFamily" "END_STATES" "[I")) (.int 1)) (by decide +kernel))
  have he0 := va_eqt (hs (Cond.eq (.elem (Term.static "FoldedFamily" "END_STATES" "[I") (.int 0)) (.int 8)) (by decide +kernel))
  obtain ⟨t, ht, hT⟩ := va_Tof (N := 1) (f := fun k => .int (stV 7 k)) (A := A) (by decide) harr hlen (fun k hk => by
    rcases (show k = 0 by omega) with rfl
    · exact he0) hA
  exact ⟨t, va_Zref (hts (.laysStatic "FoldedFamily" "END_STATES" "[I") (by decide +kernel)) (hts (.initialized "FoldedFamily") (by decide +kernel)) ht hA, hT⟩
set_option maxHeartbeats 8000000 in
set_option maxRecDepth 100000 in
theorem law_start (Rel : RelT) (HS : Sims Rel) (HI : ∀ a1 : Int32, Rel (imax 1 (imin 4 a1)) (fun _ => (0 : Int32)) (fun _ => (0 : Int32)) (fun _ => (0 : Int32)) (fun _ => (0 : Int32)) (0 : Int32) (fun _ => (0 : Int32)) (fun _ => (0 : Int32)) (fun _ => (0 : Int32)) (fun _ => (0 : Int32)) (0 : Int32) (fun _ => (0 : Int32)) (fun _ => (0 : Int32)) (fun _ => (0 : Int32)) (fun _ => (0 : Int32)) (fun _ => (0 : Int32)) (fun _ => (0 : Int32)) (fun _ => (0 : Int32)) (fun _ => (0 : Int32)) (0 : Int32) (fun _ => (0 : Int32)) (0 : Int32) (fun _ => (0 : Int32)) (0 : Int32) (fun _ => (0 : Int32)) (fun _ => (0 : Int32)) (fun _ => (0 : Int32)) (fun _ => (0 : Int32)) (0 : Int32) (fun _ => (0 : Int32)) (fun _ => (0 : Int32)) (fun _ => (0 : Int32)) (0 : Int32) (if (1 : Int32) ≤ a1 then (if a1 ≤ (4 : Int32) then a1 else (4 : Int32)) else (1 : Int32)) (0 : Int32) (fun _ => (0 : Int32)) (fun _ => (0 : Int32)) (fun _ => (0 : Int32)) (0 : Int32) (0 : Int32) (fun _ => (0 : Int32)) (fun _ => (0 : Int32)) (fun _ => (0 : Int32)) (fun _ => (0 : Int32)) (fun _ => (0 : Int32)) (0 : Int32) (fun _ => (0 : Int32)) (fun _ => (0 : Int32)) (fun _ => (0 : Int32)) (fun _ => (0 : Int32)) (0 : Int32) (fun _ => (0 : Int32)) (0 : Int32) (fun _ => (0 : Int32)) (0 : Int32) (fun _ => (0 : Int32)) (fun _ => (0 : Int32)) (0 : Int32) (fun _ => (0 : Int32)) (fun _ => (0 : Int32)) (fun _ => (0 : Int32)) (fun _ => (0 : Int32))) {p : Program} {e : Env} {s : State} {m : MethodId} {below : List Frame} {meth : Method} {c : Code} (l : Launch) {b L : Nat} {xs : Nat → Int32} (hL : L ≤ 2049) (C0 : lw_At p s m meth c b L xs) : W p l e room_1 s m #[Value.ref b] below meth c s.heap [] 0 0 (lw_Z below #[Value.ref b] s) (entryFrame m ([Value.ref b] : List Value).toArray 4) := by
  obtain ⟨hx, hb, hr, hml, hown, hts, hX, hbl, hlocks, hgv⟩ := id C0
  have htg : ∀ w ∈ gw, w.before #[Value.ref b] s = true := fun w h => hts w (List.mem_filter.mp h).1
  have hA : ∀ q : Nat, s.heap.size ≤ q → (fun q : Nat => s.heap.size ≤ q) q := fun _ h => h
  have hbA : ¬ (fun q : Nat => s.heap.size ≤ q) b := Nat.not_le.mpr hbl
  obtain ⟨c0, iS0, hKn0⟩ := u_known (C := R_Fa) (T := F_Fa) (N := 7) (n := 7) hts (fun w h => (List.mem_filter.mp (iw_Fa w h)).1) (hts (.instantiable R_Fa 7) (by decide +kernel))
  obtain ⟨c1, iS1, hKn1⟩ := u_known (C := R_Co) (T := F_Co) (N := 6) (n := 6) hts (fun w h => (List.mem_filter.mp (iw_Co w h)).1) (hts (.instantiable R_Co 6) (by decide +kernel))
  obtain ⟨c2, iS2, hKn2⟩ := u_known (C := R_Tr) (T := F_Tr) (N := 6) (n := 6) hts (fun w h => (List.mem_filter.mp (iw_Tr w h)).1) (hts (.instantiable R_Tr 6) (by decide +kernel))
  obtain ⟨c3, iS3, hKn3⟩ := u_known (C := R_Gr) (T := F_Gr) (N := 11) (n := 11) hts (fun w h => (List.mem_filter.mp (iw_Gr w h)).1) (hts (.instantiable R_Gr 11) (by decide +kernel))
  obtain ⟨c4, iS4, hKn4⟩ := u_known (C := R_Tx) (T := F_Tx) (N := 2) (n := 2) hts (fun w h => (List.mem_filter.mp (iw_Tx w h)).1) (hts (.instantiable R_Tx 2) (by decide +kernel))
  obtain ⟨c5, iS5, hKn5⟩ := u_known (C := R_Va) (T := F_Va) (N := 4) (n := 4) hts (fun w h => (List.mem_filter.mp (iw_Va w h)).1) (hts (.instantiable R_Va 4) (by decide +kernel))
  obtain ⟨c6, iS6, hKn6⟩ := u_known (C := R_Hi) (T := F_Hi) (N := 5) (n := 5) hts (fun w h => (List.mem_filter.mp (iw_Hi w h)).1) (hts (.instantiable R_Hi 5) (by decide +kernel))
  obtain ⟨c7, iS7, hKn7⟩ := u_known (C := R_De) (T := F_De) (N := 4) (n := 4) hts (fun w h => (List.mem_filter.mp (iw_De w h)).1) (hts (.instantiable R_De 4) (by decide +kernel))
  obtain ⟨c8, iS8, hKn8⟩ := u_known (C := R_Mo) (T := F_Mo) (N := 29) (n := 29) hts (fun w h => (List.mem_filter.mp (iw_Mo w h)).1) (hts (.instantiable R_Mo 29) (by decide +kernel))
  obtain ⟨k0, kA0, cm0, f0, g0, e0⟩ := Cond.arrayClass_spec (htg _ m_arr0)
  obtain ⟨k1, kA1, cm1, f1, g1, e1⟩ := Cond.arrayClass_spec (htg _ m_arr1)
  obtain ⟨k2, kA2, cm2, f2, g2, e2⟩ := Cond.arrayClass_spec (htg _ m_arr2)
  obtain ⟨dC, dI, hKc⟩ : ∃ (dC : Nat → ClassId) (dI : Nat → Nat → Nat), ∀ (k : Nat) (q : vw_C), classes[k]? = some q → u_Kn s q.1 q.2.1 q.2.2 (dC k) (dI k) := by
    refine ⟨fun k => if k = 0 then c0 else if k = 1 then c1 else if k = 2 then c2 else if k = 3 then c3 else if k = 4 then c4 else if k = 5 then c5 else if k = 6 then c6 else if k = 7 then c7 else c8, fun k => if k = 0 then iS0 else if k = 1 then iS1 else if k = 2 then iS2 else if k = 3 then iS3 else if k = 4 then iS4 else if k = 5 then iS5 else if k = 6 then iS6 else if k = 7 then iS7 else iS8, ?_⟩
    intro k q hq
    match k, hq with
    | 0, hq => cases hq; exact hKn0
    | 1, hq => cases hq; exact hKn1
    | 2, hq => cases hq; exact hKn2
    | 3, hq => cases hq; exact hKn3
    | 4, hq => cases hq; exact hKn4
    | 5, hq => cases hq; exact hKn5
    | 6, hq => cases hq; exact hKn6
    | 7, hq => cases hq; exact hKn7
    | 8, hq => cases hq; exact hKn8
    | k + 9, hq => simp [classes] at hq
  obtain ⟨ty, hty⟩ : ∃ ty : Nat → ClassId, ty 0 = k0 ∧ ty 1 = k1 ∧ ty 2 = k2 := ⟨fun k => if k = 0 then k0 else if k = 1 then k1 else k2, rfl, rfl, rfl⟩
  have hK : va_K (dC, dI) classes (tys3 ty) s := by
    refine ⟨hKc, fun k q h => ?_⟩
    obtain ⟨h0, h1, h2⟩ := hty
    match k, h with
    | 0, h => cases h; rw [h0]; exact ⟨fun n z => ⟨fun k h => (by cases h), kA0, g0, cm0, e0⟩, f0⟩
    | 1, h => cases h; rw [h1]; exact ⟨fun n z => ⟨fun k h => (by cases h), kA1, g1, cm1, e1⟩, f1⟩
    | 2, h => cases h; rw [h2]; exact ⟨fun n z => ⟨fun k h => (by cases h), kA2, g2, cm2, e2⟩, f2⟩
    | k + 3, h => simp [tys3] at h
  have hAs : ∀ a : Nat, a < s.heap.size → ¬ (fun q : Nat => s.heap.size ≤ q) a := fun a h => Nat.not_le.mpr h
  obtain ⟨t0, hz0⟩ := stt_0 hts hgv hAs
  obtain ⟨t1, hz1⟩ := stt_1 hts hgv hAs
  obtain ⟨t2, hz2⟩ := stt_2 hts hgv hAs
  obtain ⟨t3, hz3⟩ := stt_3 hts hgv hAs
  obtain ⟨t4, hz4⟩ := stt_4 hts hgv hAs
  obtain ⟨t5, hz5⟩ := stt_5 hts hgv hAs
  obtain ⟨t6, hz6⟩ := stt_6 hts hgv hAs
  obtain ⟨t7, hz7⟩ := stt_7 hts hgv hAs
  have hNn : xN s := fun q hq => va_Nw.of rfl (hts _ (nst_in q hq))
  obtain ⟨ta, hN⟩ : ∃ ta : Nat → Nat, xE ta (fun q : Nat => s.heap.size ≤ q) s s.heap := by
    refine ⟨fun j => match j with | 0 => t0 | 1 => t1 | 2 => t2 | 3 => t3 | 4 => t4 | 5 => t5 | 6 => t6 | _ => t7, hNn, fun j => ?_⟩
    match j with
    | 0 => exact hz0
    | 1 => exact hz1
    | 2 => exact hz2
    | 3 => exact hz3
    | 4 => exact hz4
    | 5 => exact hz5
    | 6 => exact hz6
    | j + 7 => exact hz7
  have hS : va_S (fun q : Nat => s.heap.size ≤ q) s.heap s.heap [] := va_S.rf
  have hP : va_P (dC, dI) classes [] s.heap := fun k q h => by simp at h
  have hD : va_D (fun q : Nat => s.heap.size ≤ q) [] := ⟨fun i j p q h => by simp at h, fun k q h => by simp at h⟩
  have hl := lv_entry ([.ref b]) (n := 4) (Nat.le_of_ble_eq_true rfl)
  rw [lg_entry_eq]
  generalize (lg_sl ([.ref b]) ++ List.replicate (4 - (lg_sl ([.ref b])).length) Slot.unset).toArray = ls at hl ⊢
  have hl : lv_has ls 4 [(0, .ref b)] := hl
  refine va_new (ci := 0) (fs := [.null, .null, .null, .null, .null, .null, .null]) (C := R_Fa) (T := F_Fa) (N := 7) hx hb htg iw_Fa t_Fa t_Fa_ok hown (htg _ m_60) (htg _ m_61) (htg _ m_49) hK hP hD hS hA rfl (fun j hj => by rcases (show j = 0 ∨ j = 1 ∨ j = 2 ∨ j = 3 ∨ j = 4 ∨ j = 5 ∨ j = 6 by omega) with rfl | rfl | rfl | rfl | rfl | rfl | rfl <;> rfl) (Nat.le_of_ble_eq_true rfl) (Nat.le_of_ble_eq_true rfl) d_La_law_0 (fun q0 H hP hD hS => ?_)
  have hP : va_P (dC, dI) classes [(q0, .inr (0, [.null, .null, .null, .null, .null, .null, .null]))] H := hP
  have hD : va_D (fun q : Nat => s.heap.size ≤ q) [(q0, .inr (0, [.null, .null, .null, .null, .null, .null, .null]))] := hD
  refine W.widen (k := 1) (n := 7) (by decide) (by decide) ?_
  refine lv_dup hx hb d_La_law_3 rfl ?_
  refine lv_aload_n hx hb d_La_law_4 rfl (lv_at hl 0 rfl) ?_
  refine lv_iconst (v := 0) hx hb d_La_law_5 (by decide) ?_
  refine va_calli (va_runS (As := [.ref b, .int 0]) (rest := [.ref q0, .ref q0]) ⟨hx, hb, hml, hown, htg⟩ (c_La_cell l b L xs hL H.size) ⟨callB_of 2 htg (gw_good m_710) rfl rfl rfl (htg _ m_48) (htg _ m_708) (by decide +kernel) ⟨by decide, by decide⟩, htg _ m_709⟩ ⟨fun a U g mk q => by obtain ⟨q0, q1, qX, qb⟩ := q; exact ⟨q0, q1, qX.moved (u := U) (U := U.calling g mk a) (Vm.Alike.refl U.vm), qb⟩, fun U hU hW => ⟨rfl, by rw [hU], by rw [hU]; exact (hX.kept (hS.2.1 b hbl hbA)).moved hW.alike, Nat.lt_of_lt_of_le hbl hS.1⟩⟩ rfl rfl hl.1 rfl (lv_room (Nat.le_of_ble_eq_true rfl)) d_La_law_6 ⟨by decide, by decide⟩) hS (fun q h1 h2 => absurd h2 (Nat.not_le.mpr h1)) (fun q h => hA q (Nat.le_trans hS.1 h)) (fun r9 u9 t H1 locs ht hvm hw hB hz1 hk1 hS => ?_)
  rw [hw]
  have hP : va_P (dC, dI) classes [(q0, .inr (0, [.null, .null, .null, .null, .null, .null, .null]))] H1 := hP.kept (fun k q hq => hk1 q.1 ((hP k q hq).lt) (Nat.not_le.mpr ((hP k q hq).lt)))
  generalize H1 = H at hP hS ⊢
  refine W.eq (g2 := F0 m 9 ls [.int (lwc L xs), .ref q0, .ref q0]) rfl ?_
  have hPc : va_P (dC, dI) classes [(q0, .inr (0, [.null, .null, .null, .null, .null, .null, .null]))] H := hP
  have hDc : va_D (fun q : Nat => s.heap.size ≤ q) [(q0, .inr (0, [.null, .null, .null, .null, .null, .null, .null]))] := hD
  have hFc := va_free (wc := [(q0, .inr (0, [.null, .null, .null, .null, .null, .null, .null]))]) hD hS hA [0] rfl
  refine va_callv (va_runI (As := [.int (lwc L xs)]) (rest := [.ref q0]) ⟨hx, hb, hml, hown, htg⟩ (c_Fa_init l dC dI ty q0 H.size (lwc L xs)) ⟨callB_of 1 htg (gw_good m_64) rfl rfl rfl (htg _ m_49) (htg _ m_62) (by decide +kernel) ⟨by decide, by decide⟩, rfl, htg _ m_63⟩ ⟨fun a U g mk q => by obtain ⟨q0, q1, qP, qK, qD, qN⟩ := q; exact ⟨q0, q1, qP, va_K.moved (u := U) (U := U.calling g mk a) (Vm.Alike.refl U.vm) qK, qD, xN.same (u := U) (U := U.calling g mk a) rfl qN⟩, fun U hU hW => ⟨rfl, by rw [hU], by rw [hU]; exact hPc, va_K.moved hW.alike hK, hDc.weaken (fun _ _ _ _ => trivial), xN.warm hW hNn⟩⟩ rfl rfl hl.1 rfl (lv_room (Nat.le_of_ble_eq_true rfl)) d_La_law_9 ⟨by decide, by decide⟩) hS (fun q _ h => hFc q h) hFc (fun ad t H1 locs ht hvm hw hB hz1 hk1 hS => ?_)
  obtain ⟨hP1, hD1, hq0⟩ := hB
  rw [ht] at hP1
  have hP : va_P (dC, dI) classes (wX ty ad (imax 1 (imin 4 (lwc L xs))) (fun _ => (0 : Int32)) (fun _ => (0 : Int32)) (fun _ => (0 : Int32)) (fun _ => (0 : Int32)) (0 : Int32) (fun _ => (0 : Int32)) (fun _ => (0 : Int32)) (fun _ => (0 : Int32)) (fun _ => (0 : Int32)) (0 : Int32) (fun _ => (0 : Int32)) (fun _ => (0 : Int32)) (fun _ => (0 : Int32)) (fun _ => (0 : Int32)) (fun _ => (0 : Int32)) (fun _ => (0 : Int32)) (fun _ => (0 : Int32)) (fun _ => (0 : Int32)) (0 : Int32) (fun _ => (0 : Int32)) (0 : Int32) (fun _ => (0 : Int32)) (0 : Int32) (fun _ => (0 : Int32)) (fun _ => (0 : Int32)) (fun _ => (0 : Int32)) (fun _ => (0 : Int32)) (0 : Int32) (fun _ => (0 : Int32)) (fun _ => (0 : Int32)) (fun _ => (0 : Int32)) (0 : Int32)) H1 := hP1
  have hD : va_D (fun q : Nat => s.heap.size ≤ q) (wX ty ad (imax 1 (imin 4 (lwc L xs))) (fun _ => (0 : Int32)) (fun _ => (0 : Int32)) (fun _ => (0 : Int32)) (fun _ => (0 : Int32)) (0 : Int32) (fun _ => (0 : Int32)) (fun _ => (0 : Int32)) (fun _ => (0 : Int32)) (fun _ => (0 : Int32)) (0 : Int32) (fun _ => (0 : Int32)) (fun _ => (0 : Int32)) (fun _ => (0 : Int32)) (fun _ => (0 : Int32)) (fun _ => (0 : Int32)) (fun _ => (0 : Int32)) (fun _ => (0 : Int32)) (fun _ => (0 : Int32)) (0 : Int32) (fun _ => (0 : Int32)) (0 : Int32) (fun _ => (0 : Int32)) (0 : Int32) (fun _ => (0 : Int32)) (fun _ => (0 : Int32)) (fun _ => (0 : Int32)) (fun _ => (0 : Int32)) (0 : Int32) (fun _ => (0 : Int32)) (fun _ => (0 : Int32)) (fun _ => (0 : Int32)) (0 : Int32)) := hD1.weaken (fun _ q _ h => hFc q.1 h)
  generalize H1 = H at hP hS ⊢
  refine W.widen (k := 33) (n := 12399) (by decide) (by decide) ?_
  refine W.eq (g2 := F0 m 12 ls [.ref (ad 0)]) (by rw [hq0]) ?_
  refine lv_astore_n (lv' := [(1, .ref (ad 0)), (0, .ref b)]) hx hb d_La_law_12 rfl hl (by decide) rfl (fun ls hl => ?_)
  refine va_new (ci := 8) (fs := [.int 0, .int 0, .null, .null, .null, .int 0, .int 0, .null, .null, .null, .null, .null, .int 0, .null, .null, .null, .null, .int 0, .null, .int 0, .null, .int 0, .null, .null, .int 0, .null, .null, .null, .null]) (C := R_Mo) (T := F_Mo) (N := 29) hx hb htg iw_Mo t_Mo t_Mo_ok hown (htg _ m_711) (htg _ m_712) (htg _ m_58) hK hP hD hS hA rfl (fun j hj => by rcases (show j = 0 ∨ j = 1 ∨ j = 2 ∨ j = 3 ∨ j = 4 ∨ j = 5 ∨ j = 6 ∨ j = 7 ∨ j = 8 ∨ j = 9 ∨ j = 10 ∨ j = 11 ∨ j = 12 ∨ j = 13 ∨ j = 14 ∨ j = 15 ∨ j = 16 ∨ j = 17 ∨ j = 18 ∨ j = 19 ∨ j = 20 ∨ j = 21 ∨ j = 22 ∨ j = 23 ∨ j = 24 ∨ j = 25 ∨ j = 26 ∨ j = 27 ∨ j = 28 by omega) with rfl | rfl | rfl | rfl | rfl | rfl | rfl | rfl | rfl | rfl | rfl | rfl | rfl | rfl | rfl | rfl | rfl | rfl | rfl | rfl | rfl | rfl | rfl | rfl | rfl | rfl | rfl | rfl | rfl <;> rfl) (Nat.le_of_ble_eq_true rfl) (Nat.le_of_ble_eq_true rfl) d_La_law_13 (fun q9 H hP hD hS => ?_)
  have hP : va_P (dC, dI) classes ((wX ty ad (imax 1 (imin 4 (lwc L xs))) (fun _ => (0 : Int32)) (fun _ => (0 : Int32)) (fun _ => (0 : Int32)) (fun _ => (0 : Int32)) (0 : Int32) (fun _ => (0 : Int32)) (fun _ => (0 : Int32)) (fun _ => (0 : Int32)) (fun _ => (0 : Int32)) (0 : Int32) (fun _ => (0 : Int32)) (fun _ => (0 : Int32)) (fun _ => (0 : Int32)) (fun _ => (0 : Int32)) (fun _ => (0 : Int32)) (fun _ => (0 : Int32)) (fun _ => (0 : Int32)) (fun _ => (0 : Int32)) (0 : Int32) (fun _ => (0 : Int32)) (0 : Int32) (fun _ => (0 : Int32)) (0 : Int32) (fun _ => (0 : Int32)) (fun _ => (0 : Int32)) (fun _ => (0 : Int32)) (fun _ => (0 : Int32)) (0 : Int32) (fun _ => (0 : Int32)) (fun _ => (0 : Int32)) (fun _ => (0 : Int32)) (0 : Int32)) ++ [(q9, .inr (8, [.int 0, .int 0, .null, .null, .null, .int 0, .int 0, .null, .null, .null, .null, .null, .int 0, .null, .null, .null, .null, .int 0, .null, .int 0, .null, .int 0, .null, .null, .int 0, .null, .null, .null, .null]))]) H := hP
  have hD : va_D (fun q : Nat => s.heap.size ≤ q) ((wX ty ad (imax 1 (imin 4 (lwc L xs))) (fun _ => (0 : Int32)) (fun _ => (0 : Int32)) (fun _ => (0 : Int32)) (fun _ => (0 : Int32)) (0 : Int32) (fun _ => (0 : Int32)) (fun _ => (0 : Int32)) (fun _ => (0 : Int32)) (fun _ => (0 : Int32)) (0 : Int32) (fun _ => (0 : Int32)) (fun _ => (0 : Int32)) (fun _ => (0 : Int32)) (fun _ => (0 : Int32)) (fun _ => (0 : Int32)) (fun _ => (0 : Int32)) (fun _ => (0 : Int32)) (fun _ => (0 : Int32)) (0 : Int32) (fun _ => (0 : Int32)) (0 : Int32) (fun _ => (0 : Int32)) (0 : Int32) (fun _ => (0 : Int32)) (fun _ => (0 : Int32)) (fun _ => (0 : Int32)) (fun _ => (0 : Int32)) (0 : Int32) (fun _ => (0 : Int32)) (fun _ => (0 : Int32)) (fun _ => (0 : Int32)) (0 : Int32)) ++ [(q9, .inr (8, [.int 0, .int 0, .null, .null, .null, .int 0, .int 0, .null, .null, .null, .null, .null, .int 0, .null, .null, .null, .null, .int 0, .null, .int 0, .null, .int 0, .null, .null, .int 0, .null, .null, .null, .null]))]) := hD
  refine W.widen (k := 34) (n := 12428) (by decide) (by decide) ?_
  refine lv_dup hx hb d_La_law_16 rfl ?_
  refine lv_aload_n hx hb d_La_law_17 rfl (lv_at hl 1 rfl) ?_
  refine lv_iconst (v := 0) hx hb d_La_law_18 (by decide) ?_
  refine va_calli (va_runS (As := [.ref b, .int 0]) (rest := [.ref q9, .ref q9]) ⟨hx, hb, hml, hown, htg⟩ (c_La_cell l b L xs hL H.size) ⟨callB_of 2 htg (gw_good m_710) rfl rfl rfl (htg _ m_48) (htg _ m_708) (by decide +kernel) ⟨by decide, by decide⟩, htg _ m_709⟩ ⟨fun a U g mk q => by obtain ⟨q0, q1, qX, qb⟩ := q; exact ⟨q0, q1, qX.moved (u := U) (U := U.calling g mk a) (Vm.Alike.refl U.vm), qb⟩, fun U hU hW => ⟨rfl, by rw [hU], by rw [hU]; exact (hX.kept (hS.2.1 b hbl hbA)).moved hW.alike, Nat.lt_of_lt_of_le hbl hS.1⟩⟩ rfl rfl hl.1 rfl (lv_room (Nat.le_of_ble_eq_true rfl)) d_La_law_19 ⟨by decide, by decide⟩) hS (fun q h1 h2 => absurd h2 (Nat.not_le.mpr h1)) (fun q h => hA q (Nat.le_trans hS.1 h)) (fun r9 u9 t H1 locs ht hvm hw hB hz1 hk1 hS => ?_)
  rw [hw]
  have hP : va_P (dC, dI) classes ((wX ty ad (imax 1 (imin 4 (lwc L xs))) (fun _ => (0 : Int32)) (fun _ => (0 : Int32)) (fun _ => (0 : Int32)) (fun _ => (0 : Int32)) (0 : Int32) (fun _ => (0 : Int32)) (fun _ => (0 : Int32)) (fun _ => (0 : Int32)) (fun _ => (0 : Int32)) (0 : Int32) (fun _ => (0 : Int32)) (fun _ => (0 : Int32)) (fun _ => (0 : Int32)) (fun _ => (0 : Int32)) (fun _ => (0 : Int32)) (fun _ => (0 : Int32)) (fun _ => (0 : Int32)) (fun _ => (0 : Int32)) (0 : Int32) (fun _ => (0 : Int32)) (0 : Int32) (fun _ => (0 : Int32)) (0 : Int32) (fun _ => (0 : Int32)) (fun _ => (0 : Int32)) (fun _ => (0 : Int32)) (fun _ => (0 : Int32)) (0 : Int32) (fun _ => (0 : Int32)) (fun _ => (0 : Int32)) (fun _ => (0 : Int32)) (0 : Int32)) ++ [(q9, .inr (8, [.int 0, .int 0, .null, .null, .null, .int 0, .int 0, .null, .null, .null, .null, .null, .int 0, .null, .null, .null, .null, .int 0, .null, .int 0, .null, .int 0, .null, .null, .int 0, .null, .null, .null, .null]))]) H1 := hP.kept (fun k q hq => hk1 q.1 ((hP k q hq).lt) (Nat.not_le.mpr ((hP k q hq).lt)))
  generalize H1 = H at hP hS ⊢
  refine W.eq (g2 := F0 m 22 ls [.int (lwc L xs), .ref q9, .ref q9]) rfl ?_
  have hPc : va_P (dC, dI) classes [(q9, .inr (8, [.int 0, .int 0, .null, .null, .null, .int 0, .int 0, .null, .null, .null, .null, .null, .int 0, .null, .null, .null, .null, .int 0, .null, .int 0, .null, .int 0, .null, .null, .int 0, .null, .null, .null, .null]))] H := hP.sub [33] rfl
  have hDc : va_D (fun q : Nat => s.heap.size ≤ q) [(q9, .inr (8, [.int 0, .int 0, .null, .null, .null, .int 0, .int 0, .null, .null, .null, .null, .null, .int 0, .null, .null, .null, .null, .int 0, .null, .int 0, .null, .int 0, .null, .null, .int 0, .null, .null, .null, .null]))] := hD.sub [33] (by decide) rfl
  have hFc := va_free (wc := [(q9, .inr (8, [.int 0, .int 0, .null, .null, .null, .int 0, .int 0, .null, .null, .null, .null, .null, .int 0, .null, .null, .null, .null, .int 0, .null, .int 0, .null, .int 0, .null, .null, .int 0, .null, .null, .null, .null]))]) hD hS hA [33] rfl
  refine va_callv (va_runI (As := [.int (lwc L xs)]) (rest := [.ref q9]) ⟨hx, hb, hml, hown, htg⟩ (c_Mo_init l dC dI ty q9 H.size (lwc L xs) _ rfl) ⟨callB_of 1 htg (gw_good m_715) rfl rfl rfl (htg _ m_58) (htg _ m_713) (by decide +kernel) ⟨by decide, by decide⟩, rfl, htg _ m_714⟩ ⟨fun a U g mk q => by obtain ⟨q0, q1, qP, qK, qD⟩ := q; exact ⟨q0, q1, qP, va_K.moved (u := U) (U := U.calling g mk a) (Vm.Alike.refl U.vm) qK, qD⟩, fun U hU hW => ⟨rfl, by rw [hU], by rw [hU]; exact hPc, va_K.moved hW.alike hK, hDc.weaken (fun _ _ _ _ => trivial)⟩⟩ rfl rfl hl.1 rfl (lv_room (Nat.le_of_ble_eq_true rfl)) d_La_law_22 ⟨by decide, by decide⟩) hS (fun q _ h => hFc q h) hFc (fun ae t H1 locs ht hvm hw hB hz1 hk1 hS => ?_)
  obtain ⟨hP1, hD1, hq9⟩ := hB
  rw [ht] at hP1
  obtain ⟨hP, hD⟩ := va_join (wr := (wX ty ad (imax 1 (imin 4 (lwc L xs))) (fun _ => (0 : Int32)) (fun _ => (0 : Int32)) (fun _ => (0 : Int32)) (fun _ => (0 : Int32)) (0 : Int32) (fun _ => (0 : Int32)) (fun _ => (0 : Int32)) (fun _ => (0 : Int32)) (fun _ => (0 : Int32)) (0 : Int32) (fun _ => (0 : Int32)) (fun _ => (0 : Int32)) (fun _ => (0 : Int32)) (fun _ => (0 : Int32)) (fun _ => (0 : Int32)) (fun _ => (0 : Int32)) (fun _ => (0 : Int32)) (fun _ => (0 : Int32)) (0 : Int32) (fun _ => (0 : Int32)) (0 : Int32) (fun _ => (0 : Int32)) (0 : Int32) (fun _ => (0 : Int32)) (fun _ => (0 : Int32)) (fun _ => (0 : Int32)) (fun _ => (0 : Int32)) (0 : Int32) (fun _ => (0 : Int32)) (fun _ => (0 : Int32)) (fun _ => (0 : Int32)) (0 : Int32))) (w1 := (wY ty ae (if (1 : Int32) ≤ (lwc L xs) then (if (lwc L xs) ≤ (4 : Int32) then (lwc L xs) else (4 : Int32)) else (1 : Int32)) (0 : Int32) (fun _ => (0 : Int32)) (fun _ => (0 : Int32)) (fun _ => (0 : Int32)) (0 : Int32) (0 : Int32) (fun _ => (0 : Int32)) (fun _ => (0 : Int32)) (fun _ => (0 : Int32)) (fun _ => (0 : Int32)) (fun _ => (0 : Int32)) (0 : Int32) (fun _ => (0 : Int32)) (fun _ => (0 : Int32)) (fun _ => (0 : Int32)) (fun _ => (0 : Int32)) (0 : Int32) (fun _ => (0 : Int32)) (0 : Int32) (fun _ => (0 : Int32)) (0 : Int32) (fun _ => (0 : Int32)) (fun _ => (0 : Int32)) (0 : Int32) (fun _ => (0 : Int32)) (fun _ => (0 : Int32)) (fun _ => (0 : Int32)) (fun _ => (0 : Int32)))) hP hD [33] [0, 1, 2, 3, 4, 5, 6, 7, 8, 9, 10, 11, 12, 13, 14, 15, 16, 17, 18, 19, 20, 21, 22, 23, 24, 25, 26, 27, 28, 29, 30, 31, 32] rfl rfl (by decide) (by decide) hk1 hFc hP1 hD1
  generalize H1 = H at hP hS ⊢
  refine W.widen (k := 600000) (n := 7302250) (by decide) (by decide) ?_
  refine W.eq (g2 := F0 m 25 ls [.ref (ae 0)]) (by rw [hq9]) ?_
  refine lv_astore_n (lv' := [(2, .ref (ae 0)), (1, .ref (ad 0)), (0, .ref b)]) hx hb d_La_law_25 rfl hl (by decide) rfl (fun ls hl => ?_)
  refine lv_iconst (v := 1) hx hb d_La_law_26 (by decide) ?_
  refine lv_istore_n (lv' := [(3, .int 1), (2, .ref (ae 0)), (1, .ref (ad 0)), (0, .ref b)]) hx hb d_La_law_27 rfl hl (by decide) rfl (fun ls hl => ?_)
  have hPx : va_P (dC, dI) classes (wX ty ad (imax 1 (imin 4 (lwc L xs))) (fun _ => (0 : Int32)) (fun _ => (0 : Int32)) (fun _ => (0 : Int32)) (fun _ => (0 : Int32)) (0 : Int32) (fun _ => (0 : Int32)) (fun _ => (0 : Int32)) (fun _ => (0 : Int32)) (fun _ => (0 : Int32)) (0 : Int32) (fun _ => (0 : Int32)) (fun _ => (0 : Int32)) (fun _ => (0 : Int32)) (fun _ => (0 : Int32)) (fun _ => (0 : Int32)) (fun _ => (0 : Int32)) (fun _ => (0 : Int32)) (fun _ => (0 : Int32)) (0 : Int32) (fun _ => (0 : Int32)) (0 : Int32) (fun _ => (0 : Int32)) (0 : Int32) (fun _ => (0 : Int32)) (fun _ => (0 : Int32)) (fun _ => (0 : Int32)) (fun _ => (0 : Int32)) (0 : Int32) (fun _ => (0 : Int32)) (fun _ => (0 : Int32)) (fun _ => (0 : Int32)) (0 : Int32)) H := hP.sub [0, 1, 2, 3, 4, 5, 6, 7, 8, 9, 10, 11, 12, 13, 14, 15, 16, 17, 18, 19, 20, 21, 22, 23, 24, 25, 26, 27, 28, 29, 30, 31, 32] rfl
  have hPy : va_P (dC, dI) classes (wY ty ae (if (1 : Int32) ≤ (lwc L xs) then (if (lwc L xs) ≤ (4 : Int32) then (lwc L xs) else (4 : Int32)) else (1 : Int32)) (0 : Int32) (fun _ => (0 : Int32)) (fun _ => (0 : Int32)) (fun _ => (0 : Int32)) (0 : Int32) (0 : Int32) (fun _ => (0 : Int32)) (fun _ => (0 : Int32)) (fun _ => (0 : Int32)) (fun _ => (0 : Int32)) (fun _ => (0 : Int32)) (0 : Int32) (fun _ => (0 : Int32)) (fun _ => (0 : Int32)) (fun _ => (0 : Int32)) (fun _ => (0 : Int32)) (0 : Int32) (fun _ => (0 : Int32)) (0 : Int32) (fun _ => (0 : Int32)) (0 : Int32) (fun _ => (0 : Int32)) (fun _ => (0 : Int32)) (0 : Int32) (fun _ => (0 : Int32)) (fun _ => (0 : Int32)) (fun _ => (0 : Int32)) (fun _ => (0 : Int32))) H := hP.sub [33, 34, 35, 36, 37, 38, 39, 40, 41, 42, 43, 44, 45, 46, 47, 48, 49, 50, 51, 52, 53] rfl
  exact law_loop hL C0 hK hN Rel HS (L + 1) 1 1 rfl (by omega) (by omega) (imax 1 (imin 4 (lwc L xs))) (fun _ => (0 : Int32)) (fun _ => (0 : Int32)) (fun _ => (0 : Int32)) (fun _ => (0 : Int32)) (0 : Int32) (fun _ => (0 : Int32)) (fun _ => (0 : Int32)) (fun _ => (0 : Int32)) (fun _ => (0 : Int32)) (0 : Int32) (fun _ => (0 : Int32)) (fun _ => (0 : Int32)) (fun _ => (0 : Int32)) (fun _ => (0 : Int32)) (fun _ => (0 : Int32)) (fun _ => (0 : Int32)) (fun _ => (0 : Int32)) (fun _ => (0 : Int32)) (0 : Int32) (fun _ => (0 : Int32)) (0 : Int32) (fun _ => (0 : Int32)) (0 : Int32) (fun _ => (0 : Int32)) (fun _ => (0 : Int32)) (fun _ => (0 : Int32)) (fun _ => (0 : Int32)) (0 : Int32) (fun _ => (0 : Int32)) (fun _ => (0 : Int32)) (fun _ => (0 : Int32)) (0 : Int32) (if (1 : Int32) ≤ (lwc L xs) then (if (lwc L xs) ≤ (4 : Int32) then (lwc L xs) else (4 : Int32)) else (1 : Int32)) (0 : Int32) (fun _ => (0 : Int32)) (fun _ => (0 : Int32)) (fun _ => (0 : Int32)) (0 : Int32) (0 : Int32) (fun _ => (0 : Int32)) (fun _ => (0 : Int32)) (fun _ => (0 : Int32)) (fun _ => (0 : Int32)) (fun _ => (0 : Int32)) (0 : Int32) (fun _ => (0 : Int32)) (fun _ => (0 : Int32)) (fun _ => (0 : Int32)) (fun _ => (0 : Int32)) (0 : Int32) (fun _ => (0 : Int32)) (0 : Int32) (fun _ => (0 : Int32)) (0 : Int32) (fun _ => (0 : Int32)) (fun _ => (0 : Int32)) (0 : Int32) (fun _ => (0 : Int32)) (fun _ => (0 : Int32)) (fun _ => (0 : Int32)) (fun _ => (0 : Int32)) (HI (lwc L xs)) H _ hPx hPy hD hS ls (lv_sub hl [3, 2, 1, 0] rfl)

