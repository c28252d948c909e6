/-! pure functions and contracts of Mo_feed, Mo_erase, Mo_cell, Mo_emitsLeft, Mo_emitsRight, Mo_letterScore, Mo_by (written by wip/gen) -/
def f_Mo_feed_K27_64  (x3_27 : Int32) (mo_length_27 : Int32) (mo_text_27 : (Nat → Int32)) : Option (Int32 × Int32 × (Nat → Int32) × Int32 × Int32) := some (mo_length_27, mo_length_27, mo_text_27, (0 : Int32), (0 : Int32))
def f_Mo_feed_L27 (a1 : Int32) (a2 : Int32) (k27_64 : (Int32 → Int32 → (Nat → Int32) → Option (Int32 × Int32 × (Nat → Int32) × Int32 × Int32))) : Nat → Int32 → Int32 → (Nat → Int32) → Option (Int32 × Int32 × (Nat → Int32) × Int32 × Int32)
  | 0, _, _, _ => none
  | n27 + 1, x3_27, mo_length_27, mo_text_27 => if a2 ≤ x3_27 then (k27_64 x3_27 mo_length_27 mo_text_27) else (gd (xin mo_length_27 24) ((f_Mo_feed_L27 a1 a2 k27_64 n27) (x3_27 + (1 : Int32)) (mo_length_27 + (1 : Int32)) (upd mo_text_27 (Int32.toNatClampNeg mo_length_27) ((a1 >>> (((2 : Int32) * x3_27) &&& 31)) &&& (3 : Int32)))))
def f_Mo_feed (mo_length : Int32) (mo_text : (Nat → Int32)) (mo_worked : Int32) (mo_hits : Int32) (a1 : Int32) (a2 : Int32) : Option (Int32 × Int32 × (Nat → Int32) × Int32 × Int32) := if a2 < (1 : Int32) then (some ((-1000000 : Int32), mo_length, mo_text, mo_worked, mo_hits)) else (if (12 : Int32) < a2 then (some ((-1000000 : Int32), mo_length, mo_text, mo_worked, mo_hits)) else (if (mo_length + a2) ≤ (24 : Int32) then (f_Mo_feed_L27 a1 a2 (f_Mo_feed_K27_64) 1000 (0 : Int32) mo_length mo_text) else (some ((-1000000 : Int32), mo_length, mo_text, mo_worked, mo_hits))))
set_option maxHeartbeats 4000000 in
set_option maxRecDepth 100000 in
theorem c_Mo_feed (l : Launch) (dC : Nat → ClassId) (dI : Nat → Nat → Nat) (ty : Nat → ClassId) (ad : Nat → Nat) (ta : Nat → Nat) (sz : Nat) (mo_rows : Int32) (mo_columns : Int32) (mo_marks : (Nat → Int32)) (mo_letters : (Nat → Int32)) (mo_mate : (Nat → Int32)) (mo_made : Int32) (mo_nodes : Int32) (mo_sort : (Nat → Int32)) (mo_from : (Nat → Int32)) (mo_to : (Nat → Int32)) (mo_begin : (Nat → Int32)) (mo_other : (Nat → Int32)) (mo_states : Int32) (mo_kinds : (Nat → Int32)) (mo_nodeOf : (Nat → Int32)) (mo_steps : (Nat → Int32)) (mo_emissions : (Nat → Int32)) (mo_length : Int32) (mo_text : (Nat → Int32)) (mo_worked : Int32) (mo_values : (Nat → Int32)) (mo_hits : Int32) (mo_hitAt : (Nat → Int32)) (mo_hitLength : (Nat → Int32)) (mo_written : Int32) (mo_listState : (Nat → Int32)) (mo_listAt : (Nat → Int32)) (mo_listLength : (Nat → Int32)) (mo_stack : (Nat → Int32)) (a1 : Int32) (a2 : Int32) (r0 : Int32) (n_mo_length : Int32) (n_mo_text : (Nat → Int32)) (n_mo_worked : Int32) (n_mo_hits : Int32) (hf : f_Mo_feed mo_length mo_text mo_worked mo_hits a1 a2 = some (r0, n_mo_length, n_mo_text, n_mo_worked, n_mo_hits)) : Met l y_Mo_feed (.code y_Mo_feed prog_10_method_28_code 4 (some .int) :: gw) rm_Mo_feed (xPre ta (dC, dI) classes (tys3 ty) (wY ty ad mo_rows mo_columns mo_marks mo_letters mo_mate mo_made mo_nodes mo_sort mo_from mo_to mo_begin mo_other mo_states mo_kinds mo_nodeOf mo_steps mo_emissions mo_length mo_text mo_worked mo_values mo_hits mo_hitAt mo_hitLength mo_written mo_listState mo_listAt mo_listLength mo_stack) sz [.ref (ad 0), .int a1, .int a2]) (xQi (dC, dI) classes (wY ty ad mo_rows mo_columns mo_marks mo_letters mo_mate mo_made mo_nodes mo_sort mo_from mo_to mo_begin mo_other mo_states mo_kinds mo_nodeOf mo_steps mo_emissions mo_length mo_text mo_worked mo_values mo_hits mo_hitAt mo_hitLength mo_written mo_listState mo_listAt mo_listLength mo_stack) (wY ty ad mo_rows mo_columns mo_marks mo_letters mo_mate mo_made mo_nodes mo_sort mo_from mo_to mo_begin mo_other mo_states mo_kinds mo_nodeOf mo_steps mo_emissions n_mo_length n_mo_text n_mo_worked mo_values n_mo_hits mo_hitAt mo_hitLength mo_written mo_listState mo_listAt mo_listLength mo_stack) sz r0) 0 0 (va_A (wY ty ad mo_rows mo_columns mo_marks mo_letters mo_mate mo_made mo_nodes mo_sort mo_from mo_to mo_begin mo_other mo_states mo_kinds mo_nodeOf mo_steps mo_emissions mo_length mo_text mo_worked mo_values mo_hits mo_hitAt mo_hitLength mo_written mo_listState mo_listAt mo_listLength mo_stack) sz) := by
  refine xmet_i rfl (Nat.le_of_ble_eq_true rfl) ?_
  intro p e s m below meth c A ls Q hx hb hml hts hown hK hN hA hP hD hS hl hret
  replace hown : s.vm.findClass R_Mo = some m.cls := hown
  have hl : lv_has ls 4 [(0, .ref (ad 0)), (1, .int a1), (2, .int a2)] := hl
  rw [f_Mo_feed] at hf
  obtain ⟨H, eH⟩ : ∃ H : Heap, H = s.heap := ⟨_, rfl⟩
  obtain ⟨locs, eL⟩ : ∃ L : List Loc, L = [] := ⟨_, rfl⟩
  have hP : va_P (dC, dI) classes (wY ty ad mo_rows mo_columns mo_marks mo_letters mo_mate mo_made mo_nodes mo_sort mo_from mo_to mo_begin mo_other mo_states mo_kinds mo_nodeOf mo_steps mo_emissions mo_length mo_text mo_worked mo_values mo_hits mo_hitAt mo_hitLength mo_written mo_listState mo_listAt mo_listLength mo_stack) H := by rw [eH]; exact hP
  have hS : va_S A s.heap H locs := by rw [eH, eL]; exact hS
  rw [← eL]
  suffices hgoal : W p l e rm_Mo_feed s m (List.toArray [.ref (ad 0), .int a1, .int a2]) below meth c H locs 0 0 Q (F0 m 0 ls []) by rw [eH] at hgoal; exact hgoal
  clear eH eL
  refine lv_iload_n hx hb d_Mo_feed_0 rfl (lv_at hl 2 rfl) ?_
  refine lv_iconst (v := 1) hx hb d_Mo_feed_1 (by decide) ?_
  refine lv_icmp_lt (tgt := 22) hx hb d_Mo_feed_2 (by decide) (fun c1 => ?_) (fun c1 => ?_)
  · have hf := xif_t c1 hf
    refine lv_ldc (v := -1000000) hx hb hown (hts _ m_825) d_Mo_feed_22 ?_
    obtain ⟨rfl, rfl, rfl, rfl, rfl⟩ := os5 hf
    exact hret H locs _ _ _ d_Mo_feed_24 rfl hP hS
  · have hf := xif_f c1 hf
    refine lv_iload_n hx hb d_Mo_feed_5 rfl (lv_at hl 2 rfl) ?_
    refine lv_bipush (v := 12) hx hb d_Mo_feed_6 (by decide) ?_
    refine lv_icmp_gt (tgt := 22) hx hb d_Mo_feed_8 (by decide) (fun c2 => ?_) (fun c2 => ?_)
    · have hf := xif_t c2 hf
      refine lv_ldc (v := -1000000) hx hb hown (hts _ m_825) d_Mo_feed_22 ?_
      obtain ⟨rfl, rfl, rfl, rfl, rfl⟩ := os5 hf
      exact hret H locs _ _ _ d_Mo_feed_24 rfl hP hS
    · have hf := xif_f c2 hf
      refine lv_aload_n hx hb d_Mo_feed_11 rfl (lv_at hl 0 rfl) ?_
      refine va_get (D := (dC, dI)) (ci := 8) (v := .int mo_length) (C := R_Mo) (T := F_Mo) (N := 29) hx hb hts iw_Mo hown hK hP 0 rfl rfl 17 (by decide) (hts _ m_734) (fun _ h9 => h9) rfl d_Mo_feed_12 ?_
      refine lv_iload_n hx hb d_Mo_feed_15 rfl (lv_at hl 2 rfl) ?_
      refine lv_iadd hx hb d_Mo_feed_16 ?_
      refine lv_bipush (v := 24) hx hb d_Mo_feed_17 (by decide) ?_
      refine lv_icmp_le (tgt := 25) hx hb d_Mo_feed_19 (by decide) (fun c3 => ?_) (fun c3 => ?_)
      · have hf := xif_t c3 hf
        refine lv_iconst (v := 0) hx hb d_Mo_feed_25 (by decide) ?_
        refine lv_istore_n (lv' := [(3, .int (0 : Int32)), (0, .ref (ad 0)), (1, .int a1), (2, .int a2)]) hx hb d_Mo_feed_26 rfl hl (by decide) rfl (fun ls hl => ?_)
        have K27_64 : ∀ (x3_27 : Int32) (mo_length_27 : Int32) (mo_text_27 : (Nat → Int32)) (H : Heap) (locs : List Loc) (ls : Array Slot), va_P (dC, dI) classes (wY ty ad mo_rows mo_columns mo_marks mo_letters mo_mate mo_made mo_nodes mo_sort mo_from mo_to mo_begin mo_other mo_states mo_kinds mo_nodeOf mo_steps mo_emissions mo_length_27 mo_text_27 mo_worked mo_values mo_hits mo_hitAt mo_hitLength mo_written mo_listState mo_listAt mo_listLength mo_stack) H → va_D A (wY ty ad mo_rows mo_columns mo_marks mo_letters mo_mate mo_made mo_nodes mo_sort mo_from mo_to mo_begin mo_other mo_states mo_kinds mo_nodeOf mo_steps mo_emissions mo_length_27 mo_text_27 mo_worked mo_values mo_hits mo_hitAt mo_hitLength mo_written mo_listState mo_listAt mo_listLength mo_stack) → va_S A s.heap H locs → lv_has ls 4 [(0, .ref (ad 0))] → f_Mo_feed_K27_64 x3_27 mo_length_27 mo_text_27 = some (r0, n_mo_length, n_mo_text, n_mo_worked, n_mo_hits) → W p l e rm_Mo_feed s m (List.toArray [.ref (ad 0), .int a1, .int a2]) below meth c H locs 0 0 Q (F0 m 64 ls []) := by
          intro x3_27 mo_length_27 mo_text_27 H locs ls hP hD hS hl hf
          rw [f_Mo_feed_K27_64] at hf
          refine lv_aload_n hx hb d_Mo_feed_64 rfl (lv_at hl 0 rfl) ?_
          refine lv_iconst (v := 0) hx hb d_Mo_feed_65 (by decide) ?_
          refine va_put (D := (dC, dI)) (ci := 8) (v := .int (0 : Int32)) (ty := .boolean) (C := R_Mo) (T := F_Mo) (N := 29) hx hb hts iw_Mo t_Mo t_Mo_ok n_Mo hown hK hP hD hS 0 rfl rfl 19 (by decide) (hts _ m_736) (fun _ h9 => h9) rfl (by decide +kernel) rfl rfl (Nat.le_of_ble_eq_true rfl) d_Mo_feed_66 (fun H locs hP hD hS => ?_)
          have hP : va_P (dC, dI) classes (wY ty ad mo_rows mo_columns mo_marks mo_letters mo_mate mo_made mo_nodes mo_sort mo_from mo_to mo_begin mo_other mo_states mo_kinds mo_nodeOf mo_steps mo_emissions mo_length_27 mo_text_27 (0 : Int32) mo_values mo_hits mo_hitAt mo_hitLength mo_written mo_listState mo_listAt mo_listLength mo_stack) H := hP
          have hD : va_D A (wY ty ad mo_rows mo_columns mo_marks mo_letters mo_mate mo_made mo_nodes mo_sort mo_from mo_to mo_begin mo_other mo_states mo_kinds mo_nodeOf mo_steps mo_emissions mo_length_27 mo_text_27 (0 : Int32) mo_values mo_hits mo_hitAt mo_hitLength mo_written mo_listState mo_listAt mo_listLength mo_stack) := hD
          refine lv_aload_n hx hb d_Mo_feed_69 rfl (lv_at hl 0 rfl) ?_
          refine lv_iconst (v := 0) hx hb d_Mo_feed_70 (by decide) ?_
          refine va_put (D := (dC, dI)) (ci := 8) (v := .int (0 : Int32)) (ty := .int) (C := R_Mo) (T := F_Mo) (N := 29) hx hb hts iw_Mo t_Mo t_Mo_ok n_Mo hown hK hP hD hS 0 rfl rfl 21 (by decide) (hts _ m_738) (fun _ h9 => h9) rfl (by decide +kernel) rfl rfl (Nat.le_of_ble_eq_true rfl) d_Mo_feed_71 (fun H locs hP hD hS => ?_)
          have hP : va_P (dC, dI) classes (wY ty ad mo_rows mo_columns mo_marks mo_letters mo_mate mo_made mo_nodes mo_sort mo_from mo_to mo_begin mo_other mo_states mo_kinds mo_nodeOf mo_steps mo_emissions mo_length_27 mo_text_27 (0 : Int32) mo_values (0 : Int32) mo_hitAt mo_hitLength mo_written mo_listState mo_listAt mo_listLength mo_stack) H := hP
          have hD : va_D A (wY ty ad mo_rows mo_columns mo_marks mo_letters mo_mate mo_made mo_nodes mo_sort mo_from mo_to mo_begin mo_other mo_states mo_kinds mo_nodeOf mo_steps mo_emissions mo_length_27 mo_text_27 (0 : Int32) mo_values (0 : Int32) mo_hitAt mo_hitLength mo_written mo_listState mo_listAt mo_listLength mo_stack) := hD
          refine lv_aload_n hx hb d_Mo_feed_74 rfl (lv_at hl 0 rfl) ?_
          refine va_get (D := (dC, dI)) (ci := 8) (v := .int mo_length_27) (C := R_Mo) (T := F_Mo) (N := 29) hx hb hts iw_Mo hown hK hP 0 rfl rfl 17 (by decide) (hts _ m_734) (fun _ h9 => h9) rfl d_Mo_feed_75 ?_
          obtain ⟨rfl, rfl, rfl, rfl, rfl⟩ := os5 hf
          exact hret H locs _ _ _ d_Mo_feed_78 rfl hP hS
        have L27 : ∀ (n27 : Nat), ∀ (x3_27 : Int32) (mo_length_27 : Int32) (mo_text_27 : (Nat → Int32)) (H : Heap) (locs : List Loc) (ls : Array Slot), va_P (dC, dI) classes (wY ty ad mo_rows mo_columns mo_marks mo_letters mo_mate mo_made mo_nodes mo_sort mo_from mo_to mo_begin mo_other mo_states mo_kinds mo_nodeOf mo_steps mo_emissions mo_length_27 mo_text_27 mo_worked mo_values mo_hits mo_hitAt mo_hitLength mo_written mo_listState mo_listAt mo_listLength mo_stack) H → va_D A (wY ty ad mo_rows mo_columns mo_marks mo_letters mo_mate mo_made mo_nodes mo_sort mo_from mo_to mo_begin mo_other mo_states mo_kinds mo_nodeOf mo_steps mo_emissions mo_length_27 mo_text_27 mo_worked mo_values mo_hits mo_hitAt mo_hitLength mo_written mo_listState mo_listAt mo_listLength mo_stack) → va_S A s.heap H locs → lv_has ls 4 [(0, .ref (ad 0)), (1, .int a1), (2, .int a2), (3, .int x3_27)] → f_Mo_feed_L27 a1 a2 (f_Mo_feed_K27_64) n27 x3_27 mo_length_27 mo_text_27 = some (r0, n_mo_length, n_mo_text, n_mo_worked, n_mo_hits) → W p l e rm_Mo_feed s m (List.toArray [.ref (ad 0), .int a1, .int a2]) below meth c H locs 0 0 Q (F0 m 27 ls []) := by
          intro n27
          induction n27 with
          | zero =>
            intro x3_27 mo_length_27 mo_text_27 H locs ls hP hD hS hl hf
            rw [f_Mo_feed_L27] at hf
            cases hf
          | succ n27 ih27 =>
            intro x3_27 mo_length_27 mo_text_27 H locs ls hP hD hS hl hf
            rw [f_Mo_feed_L27] at hf
            refine lv_iload_n hx hb d_Mo_feed_27 rfl (lv_at hl 3 rfl) ?_
            refine lv_iload_n hx hb d_Mo_feed_28 rfl (lv_at hl 2 rfl) ?_
            refine lv_icmp_ge (tgt := 64) hx hb d_Mo_feed_29 (by decide) (fun c4 => ?_) (fun c4 => ?_)
            · have hf := xif_t c4 hf
              exact K27_64 x3_27 mo_length_27 mo_text_27 _ _ _ hP hD hS (lv_sub hl [0] rfl) hf
            · have hf := xif_f c4 hf
              refine lv_aload_n hx hb d_Mo_feed_32 rfl (lv_at hl 0 rfl) ?_
              refine va_get (D := (dC, dI)) (ci := 8) (v := .ref (ad 13)) (C := R_Mo) (T := F_Mo) (N := 29) hx hb hts iw_Mo hown hK hP 0 rfl rfl 18 (by decide) (hts _ m_735) (fun _ h9 => h9) rfl d_Mo_feed_33 ?_
              refine lv_aload_n hx hb d_Mo_feed_36 rfl (lv_at hl 0 rfl) ?_
              refine va_get (D := (dC, dI)) (ci := 8) (v := .int mo_length_27) (C := R_Mo) (T := F_Mo) (N := 29) hx hb hts iw_Mo hown hK hP 0 rfl rfl 17 (by decide) (hts _ m_734) (fun _ h9 => h9) rfl d_Mo_feed_37 ?_
              refine lv_iload_n hx hb d_Mo_feed_40 rfl (lv_at hl 1 rfl) ?_
              refine lv_iconst (v := 2) hx hb d_Mo_feed_41 (by decide) ?_
              refine lv_iload_n hx hb d_Mo_feed_42 rfl (lv_at hl 3 rfl) ?_
              refine lv_imul hx hb d_Mo_feed_43 ?_
              refine lv_ishr hx hb d_Mo_feed_44 ?_
              refine lv_iconst (v := 3) hx hb d_Mo_feed_45 (by decide) ?_
              refine lv_iand hx hb d_Mo_feed_46 ?_
              obtain ⟨hi5, hf⟩ := gdi hf
              refine va_iast hx hb hK hP hD hS 13 0 rfl rfl hi5 d_Mo_feed_47 (fun H locs hP hD hS => ?_)
              have hP : va_P (dC, dI) classes (wY ty ad mo_rows mo_columns mo_marks mo_letters mo_mate mo_made mo_nodes mo_sort mo_from mo_to mo_begin mo_other mo_states mo_kinds mo_nodeOf mo_steps mo_emissions mo_length_27 (upd mo_text_27 (Int32.toNatClampNeg mo_length_27) ((a1 >>> (((2 : Int32) * x3_27) &&& 31)) &&& (3 : Int32))) mo_worked mo_values mo_hits mo_hitAt mo_hitLength mo_written mo_listState mo_listAt mo_listLength mo_stack) H := hP
              have hD : va_D A (wY ty ad mo_rows mo_columns mo_marks mo_letters mo_mate mo_made mo_nodes mo_sort mo_from mo_to mo_begin mo_other mo_states mo_kinds mo_nodeOf mo_steps mo_emissions mo_length_27 (upd mo_text_27 (Int32.toNatClampNeg mo_length_27) ((a1 >>> (((2 : Int32) * x3_27) &&& 31)) &&& (3 : Int32))) mo_worked mo_values mo_hits mo_hitAt mo_hitLength mo_written mo_listState mo_listAt mo_listLength mo_stack) := hD
              refine lv_aload_n hx hb d_Mo_feed_48 rfl (lv_at hl 0 rfl) ?_
              refine lv_aload_n hx hb d_Mo_feed_49 rfl (lv_at hl 0 rfl) ?_
              refine va_get (D := (dC, dI)) (ci := 8) (v := .int mo_length_27) (C := R_Mo) (T := F_Mo) (N := 29) hx hb hts iw_Mo hown hK hP 0 rfl rfl 17 (by decide) (hts _ m_734) (fun _ h9 => h9) rfl d_Mo_feed_50 ?_
              refine lv_iconst (v := 1) hx hb d_Mo_feed_53 (by decide) ?_
              refine lv_iadd hx hb d_Mo_feed_54 ?_
              refine va_put (D := (dC, dI)) (ci := 8) (v := .int (mo_length_27 + (1 : Int32))) (ty := .int) (C := R_Mo) (T := F_Mo) (N := 29) hx hb hts iw_Mo t_Mo t_Mo_ok n_Mo hown hK hP hD hS 0 rfl rfl 17 (by decide) (hts _ m_734) (fun _ h9 => h9) rfl (by decide +kernel) rfl rfl (Nat.le_of_ble_eq_true rfl) d_Mo_feed_55 (fun H locs hP hD hS => ?_)
              have hP : va_P (dC, dI) classes (wY ty ad mo_rows mo_columns mo_marks mo_letters mo_mate mo_made mo_nodes mo_sort mo_from mo_to mo_begin mo_other mo_states mo_kinds mo_nodeOf mo_steps mo_emissions (mo_length_27 + (1 : Int32)) (upd mo_text_27 (Int32.toNatClampNeg mo_length_27) ((a1 >>> (((2 : Int32) * x3_27) &&& 31)) &&& (3 : Int32))) mo_worked mo_values mo_hits mo_hitAt mo_hitLength mo_written mo_listState mo_listAt mo_listLength mo_stack) H := hP
              have hD : va_D A (wY ty ad mo_rows mo_columns mo_marks mo_letters mo_mate mo_made mo_nodes mo_sort mo_from mo_to mo_begin mo_other mo_states mo_kinds mo_nodeOf mo_steps mo_emissions (mo_length_27 + (1 : Int32)) (upd mo_text_27 (Int32.toNatClampNeg mo_length_27) ((a1 >>> (((2 : Int32) * x3_27) &&& 31)) &&& (3 : Int32))) mo_worked mo_values mo_hits mo_hitAt mo_hitLength mo_written mo_listState mo_listAt mo_listLength mo_stack) := hD
              refine lv_iinc (v := (x3_27 + (1 : Int32))) (lv' := [(3, .int (x3_27 + (1 : Int32))), (0, .ref (ad 0)), (1, .int a1), (2, .int a2)]) hx hb d_Mo_feed_58 hl (k := 3) rfl rfl (by decide) rfl (fun ls hl => ?_)
              refine lv_goto (tgt := 27) hx hb d_Mo_feed_61 (by decide) ?_
              exact ih27 (x3_27 + (1 : Int32)) (mo_length_27 + (1 : Int32)) (upd mo_text_27 (Int32.toNatClampNeg mo_length_27) ((a1 >>> (((2 : Int32) * x3_27) &&& 31)) &&& (3 : Int32))) _ _ _ hP hD hS (lv_sub hl [1, 2, 3, 0] rfl) hf
        exact L27 1000 (0 : Int32) mo_length mo_text _ _ _ hP hD hS (lv_sub hl [1, 2, 3, 0] rfl) hf
      · have hf := xif_f c3 hf
        refine lv_ldc (v := -1000000) hx hb hown (hts _ m_825) d_Mo_feed_22 ?_
        obtain ⟨rfl, rfl, rfl, rfl, rfl⟩ := os5 hf
        exact hret H locs _ _ _ d_Mo_feed_24 rfl hP hS
def f_Mo_erase (mo_length : Int32) (mo_worked : Int32) (mo_hits : Int32) : Option (Int32 × Int32 × Int32) := some ((0 : Int32), (0 : Int32), (0 : Int32))
set_option maxHeartbeats 4000000 in
set_option maxRecDepth 100000 in
theorem c_Mo_erase (l : Launch) (dC : Nat → ClassId) (dI : Nat → Nat → Nat) (ty : Nat → ClassId) (ad : Nat → Nat) (ta : Nat → Nat) (sz : Nat) (mo_rows : Int32) (mo_columns : Int32) (mo_marks : (Nat → Int32)) (mo_letters : (Nat → Int32)) (mo_mate : (Nat → Int32)) (mo_made : Int32) (mo_nodes : Int32) (mo_sort : (Nat → Int32)) (mo_from : (Nat → Int32)) (mo_to : (Nat → Int32)) (mo_begin : (Nat → Int32)) (mo_other : (Nat → Int32)) (mo_states : Int32) (mo_kinds : (Nat → Int32)) (mo_nodeOf : (Nat → Int32)) (mo_steps : (Nat → Int32)) (mo_emissions : (Nat → Int32)) (mo_length : Int32) (mo_text : (Nat → Int32)) (mo_worked : Int32) (mo_values : (Nat → Int32)) (mo_hits : Int32) (mo_hitAt : (Nat → Int32)) (mo_hitLength : (Nat → Int32)) (mo_written : Int32) (mo_listState : (Nat → Int32)) (mo_listAt : (Nat → Int32)) (mo_listLength : (Nat → Int32)) (mo_stack : (Nat → Int32))  (n_mo_length : Int32) (n_mo_worked : Int32) (n_mo_hits : Int32) (hf : f_Mo_erase mo_length mo_worked mo_hits = some (n_mo_length, n_mo_worked, n_mo_hits)) : Met l y_Mo_erase (.code y_Mo_erase prog_10_method_29_code 1 none :: gw) rm_Mo_erase (xPre ta (dC, dI) classes (tys3 ty) (wY ty ad mo_rows mo_columns mo_marks mo_letters mo_mate mo_made mo_nodes mo_sort mo_from mo_to mo_begin mo_other mo_states mo_kinds mo_nodeOf mo_steps mo_emissions mo_length mo_text mo_worked mo_values mo_hits mo_hitAt mo_hitLength mo_written mo_listState mo_listAt mo_listLength mo_stack) sz [.ref (ad 0)]) (xQv (dC, dI) classes (wY ty ad mo_rows mo_columns mo_marks mo_letters mo_mate mo_made mo_nodes mo_sort mo_from mo_to mo_begin mo_other mo_states mo_kinds mo_nodeOf mo_steps mo_emissions mo_length mo_text mo_worked mo_values mo_hits mo_hitAt mo_hitLength mo_written mo_listState mo_listAt mo_listLength mo_stack) (wY ty ad mo_rows mo_columns mo_marks mo_letters mo_mate mo_made mo_nodes mo_sort mo_from mo_to mo_begin mo_other mo_states mo_kinds mo_nodeOf mo_steps mo_emissions n_mo_length mo_text n_mo_worked mo_values n_mo_hits mo_hitAt mo_hitLength mo_written mo_listState mo_listAt mo_listLength mo_stack) sz) 0 0 (va_A (wY ty ad mo_rows mo_columns mo_marks mo_letters mo_mate mo_made mo_nodes mo_sort mo_from mo_to mo_begin mo_other mo_states mo_kinds mo_nodeOf mo_steps mo_emissions mo_length mo_text mo_worked mo_values mo_hits mo_hitAt mo_hitLength mo_written mo_listState mo_listAt mo_listLength mo_stack) sz) := by
  refine xmet_v rfl (Nat.le_of_ble_eq_true rfl) ?_
  intro p e s m below meth c A ls Q hx hb hml hts hown hK hN hA hP hD hS hl hret
  replace hown : s.vm.findClass R_Mo = some m.cls := hown
  have hl : lv_has ls 1 [(0, .ref (ad 0))] := hl
  rw [f_Mo_erase] at hf
  obtain ⟨H, eH⟩ : ∃ H : Heap, H = s.heap := ⟨_, rfl⟩
  obtain ⟨locs, eL⟩ : ∃ L : List Loc, L = [] := ⟨_, rfl⟩
  have hP : va_P (dC, dI) classes (wY ty ad mo_rows mo_columns mo_marks mo_letters mo_mate mo_made mo_nodes mo_sort mo_from mo_to mo_begin mo_other mo_states mo_kinds mo_nodeOf mo_steps mo_emissions mo_length mo_text mo_worked mo_values mo_hits mo_hitAt mo_hitLength mo_written mo_listState mo_listAt mo_listLength mo_stack) H := by rw [eH]; exact hP
  have hS : va_S A s.heap H locs := by rw [eH, eL]; exact hS
  rw [← eL]
  suffices hgoal : W p l e rm_Mo_erase s m (List.toArray [.ref (ad 0)]) below meth c H locs 0 0 Q (F0 m 0 ls []) by rw [eH] at hgoal; exact hgoal
  clear eH eL
  refine lv_aload_n hx hb d_Mo_erase_0 rfl (lv_at hl 0 rfl) ?_
  refine lv_iconst (v := 0) hx hb d_Mo_erase_1 (by decide) ?_
  refine va_put (D := (dC, dI)) (ci := 8) (v := .int (0 : Int32)) (ty := .int) (C := R_Mo) (T := F_Mo) (N := 29) hx hb hts iw_Mo t_Mo t_Mo_ok n_Mo hown hK hP hD hS 0 rfl rfl 17 (by decide) (hts _ m_734) (fun _ h9 => h9) rfl (by decide +kernel) rfl rfl (Nat.le_of_ble_eq_true rfl) d_Mo_erase_2 (fun H locs hP hD hS => ?_)
  have hP : va_P (dC, dI) classes (wY ty ad mo_rows mo_columns mo_marks mo_letters mo_mate mo_made mo_nodes mo_sort mo_from mo_to mo_begin mo_other mo_states mo_kinds mo_nodeOf mo_steps mo_emissions (0 : Int32) mo_text mo_worked mo_values mo_hits mo_hitAt mo_hitLength mo_written mo_listState mo_listAt mo_listLength mo_stack) H := hP
  have hD : va_D A (wY ty ad mo_rows mo_columns mo_marks mo_letters mo_mate mo_made mo_nodes mo_sort mo_from mo_to mo_begin mo_other mo_states mo_kinds mo_nodeOf mo_steps mo_emissions (0 : Int32) mo_text mo_worked mo_values mo_hits mo_hitAt mo_hitLength mo_written mo_listState mo_listAt mo_listLength mo_stack) := hD
  refine lv_aload_n hx hb d_Mo_erase_5 rfl (lv_at hl 0 rfl) ?_
  refine lv_iconst (v := 0) hx hb d_Mo_erase_6 (by decide) ?_
  refine va_put (D := (dC, dI)) (ci := 8) (v := .int (0 : Int32)) (ty := .boolean) (C := R_Mo) (T := F_Mo) (N := 29) hx hb hts iw_Mo t_Mo t_Mo_ok n_Mo hown hK hP hD hS 0 rfl rfl 19 (by decide) (hts _ m_736) (fun _ h9 => h9) rfl (by decide +kernel) rfl rfl (Nat.le_of_ble_eq_true rfl) d_Mo_erase_7 (fun H locs hP hD hS => ?_)
  have hP : va_P (dC, dI) classes (wY ty ad mo_rows mo_columns mo_marks mo_letters mo_mate mo_made mo_nodes mo_sort mo_from mo_to mo_begin mo_other mo_states mo_kinds mo_nodeOf mo_steps mo_emissions (0 : Int32) mo_text (0 : Int32) mo_values mo_hits mo_hitAt mo_hitLength mo_written mo_listState mo_listAt mo_listLength mo_stack) H := hP
  have hD : va_D A (wY ty ad mo_rows mo_columns mo_marks mo_letters mo_mate mo_made mo_nodes mo_sort mo_from mo_to mo_begin mo_other mo_states mo_kinds mo_nodeOf mo_steps mo_emissions (0 : Int32) mo_text (0 : Int32) mo_values mo_hits mo_hitAt mo_hitLength mo_written mo_listState mo_listAt mo_listLength mo_stack) := hD
  refine lv_aload_n hx hb d_Mo_erase_10 rfl (lv_at hl 0 rfl) ?_
  refine lv_iconst (v := 0) hx hb d_Mo_erase_11 (by decide) ?_
  refine va_put (D := (dC, dI)) (ci := 8) (v := .int (0 : Int32)) (ty := .int) (C := R_Mo) (T := F_Mo) (N := 29) hx hb hts iw_Mo t_Mo t_Mo_ok n_Mo hown hK hP hD hS 0 rfl rfl 21 (by decide) (hts _ m_738) (fun _ h9 => h9) rfl (by decide +kernel) rfl rfl (Nat.le_of_ble_eq_true rfl) d_Mo_erase_12 (fun H locs hP hD hS => ?_)
  have hP : va_P (dC, dI) classes (wY ty ad mo_rows mo_columns mo_marks mo_letters mo_mate mo_made mo_nodes mo_sort mo_from mo_to mo_begin mo_other mo_states mo_kinds mo_nodeOf mo_steps mo_emissions (0 : Int32) mo_text (0 : Int32) mo_values (0 : Int32) mo_hitAt mo_hitLength mo_written mo_listState mo_listAt mo_listLength mo_stack) H := hP
  have hD : va_D A (wY ty ad mo_rows mo_columns mo_marks mo_letters mo_mate mo_made mo_nodes mo_sort mo_from mo_to mo_begin mo_other mo_states mo_kinds mo_nodeOf mo_steps mo_emissions (0 : Int32) mo_text (0 : Int32) mo_values (0 : Int32) mo_hitAt mo_hitLength mo_written mo_listState mo_listAt mo_listLength mo_stack) := hD
  obtain ⟨rfl, rfl, rfl⟩ := os3 hf
  exact hret H locs _ _ d_Mo_erase_15 hP hS
def f_Mo_cell (a1 : Int32) (a2 : Int32) (a3 : Int32) : Option (Int32) := some (((((325 : Int32) * a1) + ((13 : Int32) * a2)) + a3))
set_option maxHeartbeats 4000000 in
set_option maxRecDepth 100000 in
theorem c_Mo_cell (l : Launch) (dC : Nat → ClassId) (dI : Nat → Nat → Nat) (ty : Nat → ClassId) (ad : Nat → Nat) (ta : Nat → Nat) (sz : Nat) (mo_rows : Int32) (mo_columns : Int32) (mo_marks : (Nat → Int32)) (mo_letters : (Nat → Int32)) (mo_mate : (Nat → Int32)) (mo_made : Int32) (mo_nodes : Int32) (mo_sort : (Nat → Int32)) (mo_from : (Nat → Int32)) (mo_to : (Nat → Int32)) (mo_begin : (Nat → Int32)) (mo_other : (Nat → Int32)) (mo_states : Int32) (mo_kinds : (Nat → Int32)) (mo_nodeOf : (Nat → Int32)) (mo_steps : (Nat → Int32)) (mo_emissions : (Nat → Int32)) (mo_length : Int32) (mo_text : (Nat → Int32)) (mo_worked : Int32) (mo_values : (Nat → Int32)) (mo_hits : Int32) (mo_hitAt : (Nat → Int32)) (mo_hitLength : (Nat → Int32)) (mo_written : Int32) (mo_listState : (Nat → Int32)) (mo_listAt : (Nat → Int32)) (mo_listLength : (Nat → Int32)) (mo_stack : (Nat → Int32)) (a1 : Int32) (a2 : Int32) (a3 : Int32) (r0 : Int32) (hf : f_Mo_cell a1 a2 a3 = some (r0)) : Met l y_Mo_cell (.code y_Mo_cell prog_10_method_30_code 3 (some .int) :: gw) rm_Mo_cell (xPre ta (dC, dI) classes (tys3 ty) (wY ty ad mo_rows mo_columns mo_marks mo_letters mo_mate mo_made mo_nodes mo_sort mo_from mo_to mo_begin mo_other mo_states mo_kinds mo_nodeOf mo_steps mo_emissions mo_length mo_text mo_worked mo_values mo_hits mo_hitAt mo_hitLength mo_written mo_listState mo_listAt mo_listLength mo_stack) sz [.int a1, .int a2, .int a3]) (xQi (dC, dI) classes (wY ty ad mo_rows mo_columns mo_marks mo_letters mo_mate mo_made mo_nodes mo_sort mo_from mo_to mo_begin mo_other mo_states mo_kinds mo_nodeOf mo_steps mo_emissions mo_length mo_text mo_worked mo_values mo_hits mo_hitAt mo_hitLength mo_written mo_listState mo_listAt mo_listLength mo_stack) (wY ty ad mo_rows mo_columns mo_marks mo_letters mo_mate mo_made mo_nodes mo_sort mo_from mo_to mo_begin mo_other mo_states mo_kinds mo_nodeOf mo_steps mo_emissions mo_length mo_text mo_worked mo_values mo_hits mo_hitAt mo_hitLength mo_written mo_listState mo_listAt mo_listLength mo_stack) sz r0) 0 0 (va_A (wY ty ad mo_rows mo_columns mo_marks mo_letters mo_mate mo_made mo_nodes mo_sort mo_from mo_to mo_begin mo_other mo_states mo_kinds mo_nodeOf mo_steps mo_emissions mo_length mo_text mo_worked mo_values mo_hits mo_hitAt mo_hitLength mo_written mo_listState mo_listAt mo_listLength mo_stack) sz) := by
  refine xmet_i rfl (Nat.le_of_ble_eq_true rfl) ?_
  intro p e s m below meth c A ls Q hx hb hml hts hown hK hN hA hP hD hS hl hret
  replace hown : s.vm.findClass R_Mo = some m.cls := hown
  have hl : lv_has ls 3 [(0, .int a1), (1, .int a2), (2, .int a3)] := hl
  rw [f_Mo_cell] at hf
  obtain ⟨H, eH⟩ : ∃ H : Heap, H = s.heap := ⟨_, rfl⟩
  obtain ⟨locs, eL⟩ : ∃ L : List Loc, L = [] := ⟨_, rfl⟩
  have hP : va_P (dC, dI) classes (wY ty ad mo_rows mo_columns mo_marks mo_letters mo_mate mo_made mo_nodes mo_sort mo_from mo_to mo_begin mo_other mo_states mo_kinds mo_nodeOf mo_steps mo_emissions mo_length mo_text mo_worked mo_values mo_hits mo_hitAt mo_hitLength mo_written mo_listState mo_listAt mo_listLength mo_stack) H := by rw [eH]; exact hP
  have hS : va_S A s.heap H locs := by rw [eH, eL]; exact hS
  rw [← eL]
  suffices hgoal : W p l e rm_Mo_cell s m (List.toArray [.int a1, .int a2, .int a3]) below meth c H locs 0 0 Q (F0 m 0 ls []) by rw [eH] at hgoal; exact hgoal
  clear eH eL
  refine lv_sipush (v := 325) hx hb d_Mo_cell_0 (by decide) ?_
  refine lv_iload_n hx hb d_Mo_cell_3 rfl (lv_at hl 0 rfl) ?_
  refine lv_imul hx hb d_Mo_cell_4 ?_
  refine lv_bipush (v := 13) hx hb d_Mo_cell_5 (by decide) ?_
  refine lv_iload_n hx hb d_Mo_cell_7 rfl (lv_at hl 1 rfl) ?_
  refine lv_imul hx hb d_Mo_cell_8 ?_
  refine lv_iadd hx hb d_Mo_cell_9 ?_
  refine lv_iload_n hx hb d_Mo_cell_10 rfl (lv_at hl 2 rfl) ?_
  refine lv_iadd hx hb d_Mo_cell_11 ?_
  obtain rfl := os1 hf
  exact hret H locs _ _ _ d_Mo_cell_12 rfl hP hS
def f_Mo_emitsLeft (a1 : Int32) : Option (Int32) := if a1 = (1 : Int32) then (some ((1 : Int32))) else (if a1 = (2 : Int32) then (some ((1 : Int32))) else (if a1 = (5 : Int32) then (some ((1 : Int32))) else (some ((0 : Int32)))))
set_option maxHeartbeats 4000000 in
set_option maxRecDepth 100000 in
theorem c_Mo_emitsLeft (l : Launch) (dC : Nat → ClassId) (dI : Nat → Nat → Nat) (ty : Nat → ClassId) (ad : Nat → Nat) (ta : Nat → Nat) (sz : Nat) (mo_rows : Int32) (mo_columns : Int32) (mo_marks : (Nat → Int32)) (mo_letters : (Nat → Int32)) (mo_mate : (Nat → Int32)) (mo_made : Int32) (mo_nodes : Int32) (mo_sort : (Nat → Int32)) (mo_from : (Nat → Int32)) (mo_to : (Nat → Int32)) (mo_begin : (Nat → Int32)) (mo_other : (Nat → Int32)) (mo_states : Int32) (mo_kinds : (Nat → Int32)) (mo_nodeOf : (Nat → Int32)) (mo_steps : (Nat → Int32)) (mo_emissions : (Nat → Int32)) (mo_length : Int32) (mo_text : (Nat → Int32)) (mo_worked : Int32) (mo_values : (Nat → Int32)) (mo_hits : Int32) (mo_hitAt : (Nat → Int32)) (mo_hitLength : (Nat → Int32)) (mo_written : Int32) (mo_listState : (Nat → Int32)) (mo_listAt : (Nat → Int32)) (mo_listLength : (Nat → Int32)) (mo_stack : (Nat → Int32)) (a1 : Int32) (r0 : Int32) (hf : f_Mo_emitsLeft a1 = some (r0)) : Met l y_Mo_emitsLeft (.code y_Mo_emitsLeft prog_10_method_31_code 1 (some .boolean) :: gw) rm_Mo_emitsLeft (xPre ta (dC, dI) classes (tys3 ty) (wY ty ad mo_rows mo_columns mo_marks mo_letters mo_mate mo_made mo_nodes mo_sort mo_from mo_to mo_begin mo_other mo_states mo_kinds mo_nodeOf mo_steps mo_emissions mo_length mo_text mo_worked mo_values mo_hits mo_hitAt mo_hitLength mo_written mo_listState mo_listAt mo_listLength mo_stack) sz [.int a1]) (xQi (dC, dI) classes (wY ty ad mo_rows mo_columns mo_marks mo_letters mo_mate mo_made mo_nodes mo_sort mo_from mo_to mo_begin mo_other mo_states mo_kinds mo_nodeOf mo_steps mo_emissions mo_length mo_text mo_worked mo_values mo_hits mo_hitAt mo_hitLength mo_written mo_listState mo_listAt mo_listLength mo_stack) (wY ty ad mo_rows mo_columns mo_marks mo_letters mo_mate mo_made mo_nodes mo_sort mo_from mo_to mo_begin mo_other mo_states mo_kinds mo_nodeOf mo_steps mo_emissions mo_length mo_text mo_worked mo_values mo_hits mo_hitAt mo_hitLength mo_written mo_listState mo_listAt mo_listLength mo_stack) sz r0) 0 0 (va_A (wY ty ad mo_rows mo_columns mo_marks mo_letters mo_mate mo_made mo_nodes mo_sort mo_from mo_to mo_begin mo_other mo_states mo_kinds mo_nodeOf mo_steps mo_emissions mo_length mo_text mo_worked mo_values mo_hits mo_hitAt mo_hitLength mo_written mo_listState mo_listAt mo_listLength mo_stack) sz) := by
  refine xmet_z rfl (Nat.le_of_ble_eq_true rfl) ?_
  intro p e s m below meth c A ls Q hx hb hml hts hown hK hN hA hP hD hS hl hret
  replace hown : s.vm.findClass R_Mo = some m.cls := hown
  have hl : lv_has ls 1 [(0, .int a1)] := hl
  rw [f_Mo_emitsLeft] at hf
  obtain ⟨H, eH⟩ : ∃ H : Heap, H = s.heap := ⟨_, rfl⟩
  obtain ⟨locs, eL⟩ : ∃ L : List Loc, L = [] := ⟨_, rfl⟩
  have hP : va_P (dC, dI) classes (wY ty ad mo_rows mo_columns mo_marks mo_letters mo_mate mo_made mo_nodes mo_sort mo_from mo_to mo_begin mo_other mo_states mo_kinds mo_nodeOf mo_steps mo_emissions mo_length mo_text mo_worked mo_values mo_hits mo_hitAt mo_hitLength mo_written mo_listState mo_listAt mo_listLength mo_stack) H := by rw [eH]; exact hP
  have hS : va_S A s.heap H locs := by rw [eH, eL]; exact hS
  rw [← eL]
  suffices hgoal : W p l e rm_Mo_emitsLeft s m (List.toArray [.int a1]) below meth c H locs 0 0 Q (F0 m 0 ls []) by rw [eH] at hgoal; exact hgoal
  clear eH eL
  refine lv_iload_n hx hb d_Mo_emitsLeft_0 rfl (lv_at hl 0 rfl) ?_
  refine lv_iconst (v := 1) hx hb d_Mo_emitsLeft_1 (by decide) ?_
  refine lv_icmp_eq (tgt := 15) hx hb d_Mo_emitsLeft_2 (by decide) (fun c1 => ?_) (fun c1 => ?_)
  · have hf := xif_t c1 hf
    refine lv_iconst (v := 1) hx hb d_Mo_emitsLeft_15 (by decide) ?_
    refine lv_goto (tgt := 20) hx hb d_Mo_emitsLeft_16 (by decide) ?_
    obtain rfl := os1 hf
    exact hret H locs _ _ _ d_Mo_emitsLeft_20 rfl rfl hP hS
  · have hf := xif_f c1 hf
    refine lv_iload_n hx hb d_Mo_emitsLeft_5 rfl (lv_at hl 0 rfl) ?_
    refine lv_iconst (v := 2) hx hb d_Mo_emitsLeft_6 (by decide) ?_
    refine lv_icmp_eq (tgt := 15) hx hb d_Mo_emitsLeft_7 (by decide) (fun c2 => ?_) (fun c2 => ?_)
    · have hf := xif_t c2 hf
      refine lv_iconst (v := 1) hx hb d_Mo_emitsLeft_15 (by decide) ?_
      refine lv_goto (tgt := 20) hx hb d_Mo_emitsLeft_16 (by decide) ?_
      obtain rfl := os1 hf
      exact hret H locs _ _ _ d_Mo_emitsLeft_20 rfl rfl hP hS
    · have hf := xif_f c2 hf
      refine lv_iload_n hx hb d_Mo_emitsLeft_10 rfl (lv_at hl 0 rfl) ?_
      refine lv_iconst (v := 5) hx hb d_Mo_emitsLeft_11 (by decide) ?_
      refine lv_icmp_ne (tgt := 19) hx hb d_Mo_emitsLeft_12 (by decide) (fun c3 => ?_) (fun c3 => ?_)
      · have hf := xif_f c3 hf
        refine lv_iconst (v := 0) hx hb d_Mo_emitsLeft_19 (by decide) ?_
        obtain rfl := os1 hf
        exact hret H locs _ _ _ d_Mo_emitsLeft_20 rfl rfl hP hS
      · have hf := xif_t c3 hf
        refine lv_iconst (v := 1) hx hb d_Mo_emitsLeft_15 (by decide) ?_
        refine lv_goto (tgt := 20) hx hb d_Mo_emitsLeft_16 (by decide) ?_
        obtain rfl := os1 hf
        exact hret H locs _ _ _ d_Mo_emitsLeft_20 rfl rfl hP hS
def f_Mo_emitsRight (a1 : Int32) : Option (Int32) := if a1 = (1 : Int32) then (some ((1 : Int32))) else (if a1 = (3 : Int32) then (some ((1 : Int32))) else (if a1 = (6 : Int32) then (some ((1 : Int32))) else (some ((0 : Int32)))))
set_option maxHeartbeats 4000000 in
set_option maxRecDepth 100000 in
theorem c_Mo_emitsRight (l : Launch) (dC : Nat → ClassId) (dI : Nat → Nat → Nat) (ty : Nat → ClassId) (ad : Nat → Nat) (ta : Nat → Nat) (sz : Nat) (mo_rows : Int32) (mo_columns : Int32) (mo_marks : (Nat → Int32)) (mo_letters : (Nat → Int32)) (mo_mate : (Nat → Int32)) (mo_made : Int32) (mo_nodes : Int32) (mo_sort : (Nat → Int32)) (mo_from : (Nat → Int32)) (mo_to : (Nat → Int32)) (mo_begin : (Nat → Int32)) (mo_other : (Nat → Int32)) (mo_states : Int32) (mo_kinds : (Nat → Int32)) (mo_nodeOf : (Nat → Int32)) (mo_steps : (Nat → Int32)) (mo_emissions : (Nat → Int32)) (mo_length : Int32) (mo_text : (Nat → Int32)) (mo_worked : Int32) (mo_values : (Nat → Int32)) (mo_hits : Int32) (mo_hitAt : (Nat → Int32)) (mo_hitLength : (Nat → Int32)) (mo_written : Int32) (mo_listState : (Nat → Int32)) (mo_listAt : (Nat → Int32)) (mo_listLength : (Nat → Int32)) (mo_stack : (Nat → Int32)) (a1 : Int32) (r0 : Int32) (hf : f_Mo_emitsRight a1 = some (r0)) : Met l y_Mo_emitsRight (.code y_Mo_emitsRight prog_10_method_32_code 1 (some .boolean) :: gw) rm_Mo_emitsRight (xPre ta (dC, dI) classes (tys3 ty) (wY ty ad mo_rows mo_columns mo_marks mo_letters mo_mate mo_made mo_nodes mo_sort mo_from mo_to mo_begin mo_other mo_states mo_kinds mo_nodeOf mo_steps mo_emissions mo_length mo_text mo_worked mo_values mo_hits mo_hitAt mo_hitLength mo_written mo_listState mo_listAt mo_listLength mo_stack) sz [.int a1]) (xQi (dC, dI) classes (wY ty ad mo_rows mo_columns mo_marks mo_letters mo_mate mo_made mo_nodes mo_sort mo_from mo_to mo_begin mo_other mo_states mo_kinds mo_nodeOf mo_steps mo_emissions mo_length mo_text mo_worked mo_values mo_hits mo_hitAt mo_hitLength mo_written mo_listState mo_listAt mo_listLength mo_stack) (wY ty ad mo_rows mo_columns mo_marks mo_letters mo_mate mo_made mo_nodes mo_sort mo_from mo_to mo_begin mo_other mo_states mo_kinds mo_nodeOf mo_steps mo_emissions mo_length mo_text mo_worked mo_values mo_hits mo_hitAt mo_hitLength mo_written mo_listState mo_listAt mo_listLength mo_stack) sz r0) 0 0 (va_A (wY ty ad mo_rows mo_columns mo_marks mo_letters mo_mate mo_made mo_nodes mo_sort mo_from mo_to mo_begin mo_other mo_states mo_kinds mo_nodeOf mo_steps mo_emissions mo_length mo_text mo_worked mo_values mo_hits mo_hitAt mo_hitLength mo_written mo_listState mo_listAt mo_listLength mo_stack) sz) := by
  refine xmet_z rfl (Nat.le_of_ble_eq_true rfl) ?_
  intro p e s m below meth c A ls Q hx hb hml hts hown hK hN hA hP hD hS hl hret
  replace hown : s.vm.findClass R_Mo = some m.cls := hown
  have hl : lv_has ls 1 [(0, .int a1)] := hl
  rw [f_Mo_emitsRight] at hf
  obtain ⟨H, eH⟩ : ∃ H : Heap, H = s.heap := ⟨_, rfl⟩
  obtain ⟨locs, eL⟩ : ∃ L : List Loc, L = [] := ⟨_, rfl⟩
  have hP : va_P (dC, dI) classes (wY ty ad mo_rows mo_columns mo_marks mo_letters mo_mate mo_made mo_nodes mo_sort mo_from mo_to mo_begin mo_other mo_states mo_kinds mo_nodeOf mo_steps mo_emissions mo_length mo_text mo_worked mo_values mo_hits mo_hitAt mo_hitLength mo_written mo_listState mo_listAt mo_listLength mo_stack) H := by rw [eH]; exact hP
  have hS : va_S A s.heap H locs := by rw [eH, eL]; exact hS
  rw [← eL]
  suffices hgoal : W p l e rm_Mo_emitsRight s m (List.toArray [.int a1]) below meth c H locs 0 0 Q (F0 m 0 ls []) by rw [eH] at hgoal; exact hgoal
  clear eH eL
  refine lv_iload_n hx hb d_Mo_emitsRight_0 rfl (lv_at hl 0 rfl) ?_
  refine lv_iconst (v := 1) hx hb d_Mo_emitsRight_1 (by decide) ?_
  refine lv_icmp_eq (tgt := 16) hx hb d_Mo_emitsRight_2 (by decide) (fun c1 => ?_) (fun c1 => ?_)
  · have hf := xif_t c1 hf
    refine lv_iconst (v := 1) hx hb d_Mo_emitsRight_16 (by decide) ?_
    refine lv_goto (tgt := 21) hx hb d_Mo_emitsRight_17 (by decide) ?_
    obtain rfl := os1 hf
    exact hret H locs _ _ _ d_Mo_emitsRight_21 rfl rfl hP hS
  · have hf := xif_f c1 hf
    refine lv_iload_n hx hb d_Mo_emitsRight_5 rfl (lv_at hl 0 rfl) ?_
    refine lv_iconst (v := 3) hx hb d_Mo_emitsRight_6 (by decide) ?_
    refine lv_icmp_eq (tgt := 16) hx hb d_Mo_emitsRight_7 (by decide) (fun c2 => ?_) (fun c2 => ?_)
    · have hf := xif_t c2 hf
      refine lv_iconst (v := 1) hx hb d_Mo_emitsRight_16 (by decide) ?_
      refine lv_goto (tgt := 21) hx hb d_Mo_emitsRight_17 (by decide) ?_
      obtain rfl := os1 hf
      exact hret H locs _ _ _ d_Mo_emitsRight_21 rfl rfl hP hS
    · have hf := xif_f c2 hf
      refine lv_iload_n hx hb d_Mo_emitsRight_10 rfl (lv_at hl 0 rfl) ?_
      refine lv_bipush (v := 6) hx hb d_Mo_emitsRight_11 (by decide) ?_
      refine lv_icmp_ne (tgt := 20) hx hb d_Mo_emitsRight_13 (by decide) (fun c3 => ?_) (fun c3 => ?_)
      · have hf := xif_f c3 hf
        refine lv_iconst (v := 0) hx hb d_Mo_emitsRight_20 (by decide) ?_
        obtain rfl := os1 hf
        exact hret H locs _ _ _ d_Mo_emitsRight_21 rfl rfl hP hS
      · have hf := xif_t c3 hf
        refine lv_iconst (v := 1) hx hb d_Mo_emitsRight_16 (by decide) ?_
        refine lv_goto (tgt := 21) hx hb d_Mo_emitsRight_17 (by decide) ?_
        obtain rfl := os1 hf
        exact hret H locs _ _ _ d_Mo_emitsRight_21 rfl rfl hP hS
def f_Mo_letterScore_J65 (mo_kinds : (Nat → Int32)) (mo_emissions : (Nat → Int32)) (mo_text : (Nat → Int32)) (a1 : Int32) (a2 : Int32) (a3 : Int32) (t0_47 : Int32)  : Option (Int32) := if (mo_kinds (Int32.toNatClampNeg a1)) = (1 : Int32) then (gd (xin ((a2 + a3) - (1 : Int32)) 24) (gd (xin ((((16 : Int32) * a1) + ((4 : Int32) * t0_47)) + (mo_text (Int32.toNatClampNeg ((a2 + a3) - (1 : Int32))))) 768) (some ((mo_emissions (Int32.toNatClampNeg ((((16 : Int32) * a1) + ((4 : Int32) * t0_47)) + (mo_text (Int32.toNatClampNeg ((a2 + a3) - (1 : Int32))))))))))) else (gd (xin ((((16 : Int32) * a1) + ((4 : Int32) * t0_47)) + (0 : Int32)) 768) (some ((mo_emissions (Int32.toNatClampNeg ((((16 : Int32) * a1) + ((4 : Int32) * t0_47)) + (0 : Int32)))))))
def f_Mo_letterScore_J47 (mo_kinds : (Nat → Int32)) (mo_emissions : (Nat → Int32)) (mo_text : (Nat → Int32)) (a1 : Int32) (a2 : Int32) (a3 : Int32) (t0_47 : Int32) : Option (Int32) := ob1 (f_Mo_emitsLeft (mo_kinds (Int32.toNatClampNeg a1))) (fun r4 => if r4 = (0 : Int32) then (ob1 (f_Mo_emitsRight (mo_kinds (Int32.toNatClampNeg a1))) (fun r11 => if r11 = (0 : Int32) then (some ((0 : Int32))) else (f_Mo_letterScore_J65 mo_kinds mo_emissions mo_text a1 a2 a3 t0_47))) else (f_Mo_letterScore_J65 mo_kinds mo_emissions mo_text a1 a2 a3 t0_47))
def f_Mo_letterScore (mo_kinds : (Nat → Int32)) (mo_emissions : (Nat → Int32)) (mo_text : (Nat → Int32)) (a1 : Int32) (a2 : Int32) (a3 : Int32) : Option (Int32) := gd (xin a1 48) (ob1 (f_Mo_emitsLeft (mo_kinds (Int32.toNatClampNeg a1))) (fun r2 => if r2 = (0 : Int32) then (ob1 (f_Mo_emitsRight (mo_kinds (Int32.toNatClampNeg a1))) (fun r15 => if r15 = (0 : Int32) then (f_Mo_letterScore_J47 mo_kinds mo_emissions mo_text a1 a2 a3 (0 : Int32)) else (gd (xin ((a2 + a3) - (1 : Int32)) 24) (f_Mo_letterScore_J47 mo_kinds mo_emissions mo_text a1 a2 a3 (mo_text (Int32.toNatClampNeg ((a2 + a3) - (1 : Int32)))))))) else (gd (xin a2 24) (f_Mo_letterScore_J47 mo_kinds mo_emissions mo_text a1 a2 a3 (mo_text (Int32.toNatClampNeg a2))))))
set_option maxHeartbeats 4000000 in
set_option maxRecDepth 100000 in
theorem c_Mo_letterScore (l : Launch) (dC : Nat → ClassId) (dI : Nat → Nat → Nat) (ty : Nat → ClassId) (ad : Nat → Nat) (ta : Nat → Nat) (sz : Nat) (mo_rows : Int32) (mo_columns : Int32) (mo_marks : (Nat → Int32)) (mo_letters : (Nat → Int32)) (mo_mate : (Nat → Int32)) (mo_made : Int32) (mo_nodes : Int32) (mo_sort : (Nat → Int32)) (mo_from : (Nat → Int32)) (mo_to : (Nat → Int32)) (mo_begin : (Nat → Int32)) (mo_other : (Nat → Int32)) (mo_states : Int32) (mo_kinds : (Nat → Int32)) (mo_nodeOf : (Nat → Int32)) (mo_steps : (Nat → Int32)) (mo_emissions : (Nat → Int32)) (mo_length : Int32) (mo_text : (Nat → Int32)) (mo_worked : Int32) (mo_values : (Nat → Int32)) (mo_hits : Int32) (mo_hitAt : (Nat → Int32)) (mo_hitLength : (Nat → Int32)) (mo_written : Int32) (mo_listState : (Nat → Int32)) (mo_listAt : (Nat → Int32)) (mo_listLength : (Nat → Int32)) (mo_stack : (Nat → Int32)) (a1 : Int32) (a2 : Int32) (a3 : Int32) (r0 : Int32) (hf : f_Mo_letterScore mo_kinds mo_emissions mo_text a1 a2 a3 = some (r0)) : Met l y_Mo_letterScore (.code y_Mo_letterScore prog_10_method_33_code 6 (some .int) :: gw) rm_Mo_letterScore (xPre ta (dC, dI) classes (tys3 ty) (wY ty ad mo_rows mo_columns mo_marks mo_letters mo_mate mo_made mo_nodes mo_sort mo_from mo_to mo_begin mo_other mo_states mo_kinds mo_nodeOf mo_steps mo_emissions mo_length mo_text mo_worked mo_values mo_hits mo_hitAt mo_hitLength mo_written mo_listState mo_listAt mo_listLength mo_stack) sz [.ref (ad 0), .int a1, .int a2, .int a3]) (xQi (dC, dI) classes (wY ty ad mo_rows mo_columns mo_marks mo_letters mo_mate mo_made mo_nodes mo_sort mo_from mo_to mo_begin mo_other mo_states mo_kinds mo_nodeOf mo_steps mo_emissions mo_length mo_text mo_worked mo_values mo_hits mo_hitAt mo_hitLength mo_written mo_listState mo_listAt mo_listLength mo_stack) (wY ty ad mo_rows mo_columns mo_marks mo_letters mo_mate mo_made mo_nodes mo_sort mo_from mo_to mo_begin mo_other mo_states mo_kinds mo_nodeOf mo_steps mo_emissions mo_length mo_text mo_worked mo_values mo_hits mo_hitAt mo_hitLength mo_written mo_listState mo_listAt mo_listLength mo_stack) sz r0) 0 0 (va_A (wY ty ad mo_rows mo_columns mo_marks mo_letters mo_mate mo_made mo_nodes mo_sort mo_from mo_to mo_begin mo_other mo_states mo_kinds mo_nodeOf mo_steps mo_emissions mo_length mo_text mo_worked mo_values mo_hits mo_hitAt mo_hitLength mo_written mo_listState mo_listAt mo_listLength mo_stack) sz) := by
  refine xmet_i rfl (Nat.le_of_ble_eq_true rfl) ?_
  intro p e s m below meth c A ls Q hx hb hml hts hown hK hN hA hP hD hS hl hret
  replace hown : s.vm.findClass R_Mo = some m.cls := hown
  have hl : lv_has ls 6 [(0, .ref (ad 0)), (1, .int a1), (2, .int a2), (3, .int a3)] := hl
  rw [f_Mo_letterScore] at hf
  obtain ⟨H, eH⟩ : ∃ H : Heap, H = s.heap := ⟨_, rfl⟩
  obtain ⟨locs, eL⟩ : ∃ L : List Loc, L = [] := ⟨_, rfl⟩
  have hP : va_P (dC, dI) classes (wY ty ad mo_rows mo_columns mo_marks mo_letters mo_mate mo_made mo_nodes mo_sort mo_from mo_to mo_begin mo_other mo_states mo_kinds mo_nodeOf mo_steps mo_emissions mo_length mo_text mo_worked mo_values mo_hits mo_hitAt mo_hitLength mo_written mo_listState mo_listAt mo_listLength mo_stack) H := by rw [eH]; exact hP
  have hS : va_S A s.heap H locs := by rw [eH, eL]; exact hS
  rw [← eL]
  suffices hgoal : W p l e rm_Mo_letterScore s m (List.toArray [.ref (ad 0), .int a1, .int a2, .int a3]) below meth c H locs 0 0 Q (F0 m 0 ls []) by rw [eH] at hgoal; exact hgoal
  clear eH eL
  refine lv_aload_n hx hb d_Mo_letterScore_0 rfl (lv_at hl 0 rfl) ?_
  refine va_get (D := (dC, dI)) (ci := 8) (v := .ref (ad 9)) (C := R_Mo) (T := F_Mo) (N := 29) hx hb hts iw_Mo hown hK hP 0 rfl rfl 13 (by decide) (hts _ m_730) (fun _ h9 => h9) rfl d_Mo_letterScore_1 ?_
  refine lv_iload_n hx hb d_Mo_letterScore_4 rfl (lv_at hl 1 rfl) ?_
  obtain ⟨hi1, hf⟩ := gdi hf
  refine va_iald hx hb hK hP 9 0 rfl rfl hi1 d_Mo_letterScore_5 ?_
  refine lv_istore (lv' := [(4, .int (mo_kinds (Int32.toNatClampNeg a1))), (0, .ref (ad 0)), (1, .int a1), (2, .int a2), (3, .int a3)]) hx hb d_Mo_letterScore_6 hl (by decide) rfl (fun ls hl => ?_)
  refine lv_iload hx hb d_Mo_letterScore_8 (lv_at hl 0 rfl) ?_
  obtain ⟨r2, hc3, hf⟩ := ob1_inv hf
  refine xk_i (xrunS (As := [.int (mo_kinds (Int32.toNatClampNeg a1))]) (rest := []) ⟨hx, hb, hml, hown, hts⟩ (c_Mo_emitsLeft l dC dI ty ad ta H.size mo_rows mo_columns mo_marks mo_letters mo_mate mo_made mo_nodes mo_sort mo_from mo_to mo_begin mo_other mo_states mo_kinds mo_nodeOf mo_steps mo_emissions mo_length mo_text mo_worked mo_values mo_hits mo_hitAt mo_hitLength mo_written mo_listState mo_listAt mo_listLength mo_stack (mo_kinds (Int32.toNatClampNeg a1)) r2 hc3) z_Mo_162 ⟨⟨rfl, rfl⟩, by decide, by decide⟩ hK hP hD hN hS hA rfl hl.1 rfl (Nat.le_of_ble_eq_true rfl) d_Mo_letterScore_10 ⟨Nat.zero_le _, Nat.zero_le _⟩) hS hD rfl hA (fun H locs hP hD hS => ?_)
  refine W.eq (g2 := F0 m 13 ls [.int r2]) rfl ?_
  have J47 : ∀ (t0_47 : Int32) (H : Heap) (locs : List Loc) (ls : Array Slot), va_P (dC, dI) classes (wY ty ad mo_rows mo_columns mo_marks mo_letters mo_mate mo_made mo_nodes mo_sort mo_from mo_to mo_begin mo_other mo_states mo_kinds mo_nodeOf mo_steps mo_emissions mo_length mo_text mo_worked mo_values mo_hits mo_hitAt mo_hitLength mo_written mo_listState mo_listAt mo_listLength mo_stack) H → va_D A (wY ty ad mo_rows mo_columns mo_marks mo_letters mo_mate mo_made mo_nodes mo_sort mo_from mo_to mo_begin mo_other mo_states mo_kinds mo_nodeOf mo_steps mo_emissions mo_length mo_text mo_worked mo_values mo_hits mo_hitAt mo_hitLength mo_written mo_listState mo_listAt mo_listLength mo_stack) → va_S A s.heap H locs → lv_has ls 6 [(0, .ref (ad 0)), (1, .int a1), (2, .int a2), (3, .int a3), (4, .int (mo_kinds (Int32.toNatClampNeg a1)))] → f_Mo_letterScore_J47 mo_kinds mo_emissions mo_text a1 a2 a3 t0_47 = some (r0) → W p l e rm_Mo_letterScore s m (List.toArray [.ref (ad 0), .int a1, .int a2, .int a3]) below meth c H locs 0 0 Q (F0 m 47 ls [.int t0_47]) := by
    intro t0_47 H locs ls hP hD hS hl hf
    rw [f_Mo_letterScore_J47] at hf
    refine lv_istore (lv' := [(5, .int t0_47), (0, .ref (ad 0)), (1, .int a1), (2, .int a2), (3, .int a3), (4, .int (mo_kinds (Int32.toNatClampNeg a1)))]) hx hb d_Mo_letterScore_47 hl (by decide) rfl (fun ls hl => ?_)
    refine lv_iload hx hb d_Mo_letterScore_49 (lv_at hl 5 rfl) ?_
    obtain ⟨r4, hc5, hf⟩ := ob1_inv hf
    refine xk_i (xrunS (As := [.int (mo_kinds (Int32.toNatClampNeg a1))]) (rest := []) ⟨hx, hb, hml, hown, hts⟩ (c_Mo_emitsLeft l dC dI ty ad ta H.size mo_rows mo_columns mo_marks mo_letters mo_mate mo_made mo_nodes mo_sort mo_from mo_to mo_begin mo_other mo_states mo_kinds mo_nodeOf mo_steps mo_emissions mo_length mo_text mo_worked mo_values mo_hits mo_hitAt mo_hitLength mo_written mo_listState mo_listAt mo_listLength mo_stack (mo_kinds (Int32.toNatClampNeg a1)) r4 hc5) z_Mo_162 ⟨⟨rfl, rfl⟩, by decide, by decide⟩ hK hP hD hN hS hA rfl hl.1 rfl (Nat.le_of_ble_eq_true rfl) d_Mo_letterScore_51 ⟨Nat.zero_le _, Nat.zero_le _⟩) hS hD rfl hA (fun H locs hP hD hS => ?_)
    refine W.eq (g2 := F0 m 54 ls [.int r4]) rfl ?_
    have J65 : ∀  (H : Heap) (locs : List Loc) (ls : Array Slot), va_P (dC, dI) classes (wY ty ad mo_rows mo_columns mo_marks mo_letters mo_mate mo_made mo_nodes mo_sort mo_from mo_to mo_begin mo_other mo_states mo_kinds mo_nodeOf mo_steps mo_emissions mo_length mo_text mo_worked mo_values mo_hits mo_hitAt mo_hitLength mo_written mo_listState mo_listAt mo_listLength mo_stack) H → va_D A (wY ty ad mo_rows mo_columns mo_marks mo_letters mo_mate mo_made mo_nodes mo_sort mo_from mo_to mo_begin mo_other mo_states mo_kinds mo_nodeOf mo_steps mo_emissions mo_length mo_text mo_worked mo_values mo_hits mo_hitAt mo_hitLength mo_written mo_listState mo_listAt mo_listLength mo_stack) → va_S A s.heap H locs → lv_has ls 6 [(0, .ref (ad 0)), (1, .int a1), (2, .int a2), (3, .int a3), (4, .int (mo_kinds (Int32.toNatClampNeg a1))), (5, .int t0_47)] → f_Mo_letterScore_J65 mo_kinds mo_emissions mo_text a1 a2 a3 t0_47 = some (r0) → W p l e rm_Mo_letterScore s m (List.toArray [.ref (ad 0), .int a1, .int a2, .int a3]) below meth c H locs 0 0 Q (F0 m 65 ls []) := by
      intro  H locs ls hP hD hS hl hf
      rw [f_Mo_letterScore_J65] at hf
      refine lv_aload_n hx hb d_Mo_letterScore_65 rfl (lv_at hl 0 rfl) ?_
      refine va_get (D := (dC, dI)) (ci := 8) (v := .ref (ad 12)) (C := R_Mo) (T := F_Mo) (N := 29) hx hb hts iw_Mo hown hK hP 0 rfl rfl 16 (by decide) (hts _ m_733) (fun _ h9 => h9) rfl d_Mo_letterScore_66 ?_
      refine lv_bipush (v := 16) hx hb d_Mo_letterScore_69 (by decide) ?_
      refine lv_iload_n hx hb d_Mo_letterScore_71 rfl (lv_at hl 1 rfl) ?_
      refine lv_imul hx hb d_Mo_letterScore_72 ?_
      refine lv_iconst (v := 4) hx hb d_Mo_letterScore_73 (by decide) ?_
      refine lv_iload hx hb d_Mo_letterScore_74 (lv_at hl 5 rfl) ?_
      refine lv_imul hx hb d_Mo_letterScore_76 ?_
      refine lv_iadd hx hb d_Mo_letterScore_77 ?_
      refine lv_iload hx hb d_Mo_letterScore_78 (lv_at hl 4 rfl) ?_
      refine lv_iconst (v := 1) hx hb d_Mo_letterScore_80 (by decide) ?_
      refine lv_icmp_ne (tgt := 97) hx hb d_Mo_letterScore_81 (by decide) (fun c6 => ?_) (fun c6 => ?_)
      · have hf := xif_f c6 hf
        refine lv_iconst (v := 0) hx hb d_Mo_letterScore_97 (by decide) ?_
        refine lv_iadd hx hb d_Mo_letterScore_98 ?_
        obtain ⟨hi7, hf⟩ := gdi hf
        refine va_iald hx hb hK hP 12 0 rfl rfl hi7 d_Mo_letterScore_99 ?_
        refine lv_goto (tgt := 104) hx hb d_Mo_letterScore_100 (by decide) ?_
        obtain rfl := os1 hf
        exact hret H locs _ _ _ d_Mo_letterScore_104 rfl hP hS
      · have hf := xif_t c6 hf
        refine lv_aload_n hx hb d_Mo_letterScore_84 rfl (lv_at hl 0 rfl) ?_
        refine va_get (D := (dC, dI)) (ci := 8) (v := .ref (ad 13)) (C := R_Mo) (T := F_Mo) (N := 29) hx hb hts iw_Mo hown hK hP 0 rfl rfl 18 (by decide) (hts _ m_735) (fun _ h9 => h9) rfl d_Mo_letterScore_85 ?_
        refine lv_iload_n hx hb d_Mo_letterScore_88 rfl (lv_at hl 2 rfl) ?_
        refine lv_iload_n hx hb d_Mo_letterScore_89 rfl (lv_at hl 3 rfl) ?_
        refine lv_iadd hx hb d_Mo_letterScore_90 ?_
        refine lv_iconst (v := 1) hx hb d_Mo_letterScore_91 (by decide) ?_
        refine lv_isub hx hb d_Mo_letterScore_92 ?_
        obtain ⟨hi8, hf⟩ := gdi hf
        refine va_iald hx hb hK hP 13 0 rfl rfl hi8 d_Mo_letterScore_93 ?_
        refine lv_goto (tgt := 98) hx hb d_Mo_letterScore_94 (by decide) ?_
        refine lv_iadd hx hb d_Mo_letterScore_98 ?_
        obtain ⟨hi9, hf⟩ := gdi hf
        refine va_iald hx hb hK hP 12 0 rfl rfl hi9 d_Mo_letterScore_99 ?_
        refine lv_goto (tgt := 104) hx hb d_Mo_letterScore_100 (by decide) ?_
        obtain rfl := os1 hf
        exact hret H locs _ _ _ d_Mo_letterScore_104 rfl hP hS
    refine lv_if_ne (tgt := 65) hx hb d_Mo_letterScore_54 (by decide) (fun c10 => ?_) (fun c10 => ?_)
    · have hf := xif_f c10 hf
      exact J65  _ _ _ hP hD hS (lv_sub hl [1, 2, 3, 4, 5, 0] rfl) hf
    · have hf := xif_t c10 hf
      refine lv_iload hx hb d_Mo_letterScore_57 (lv_at hl 5 rfl) ?_
      obtain ⟨r11, hc12, hf⟩ := ob1_inv hf
      refine xk_i (xrunS (As := [.int (mo_kinds (Int32.toNatClampNeg a1))]) (rest := []) ⟨hx, hb, hml, hown, hts⟩ (c_Mo_emitsRight l dC dI ty ad ta H.size mo_rows mo_columns mo_marks mo_letters mo_mate mo_made mo_nodes mo_sort mo_from mo_to mo_begin mo_other mo_states mo_kinds mo_nodeOf mo_steps mo_emissions mo_length mo_text mo_worked mo_values mo_hits mo_hitAt mo_hitLength mo_written mo_listState mo_listAt mo_listLength mo_stack (mo_kinds (Int32.toNatClampNeg a1)) r11 hc12) z_Mo_165 ⟨⟨rfl, rfl⟩, by decide, by decide⟩ hK hP hD hN hS hA rfl hl.1 rfl (Nat.le_of_ble_eq_true rfl) d_Mo_letterScore_59 ⟨Nat.zero_le _, Nat.zero_le _⟩) hS hD rfl hA (fun H locs hP hD hS => ?_)
      refine W.eq (g2 := F0 m 62 ls [.int r11]) rfl ?_
      refine lv_if_eq (tgt := 103) hx hb d_Mo_letterScore_62 (by decide) (fun c13 => ?_) (fun c13 => ?_)
      · have hf := xif_t c13 hf
        refine lv_iconst (v := 0) hx hb d_Mo_letterScore_103 (by decide) ?_
        obtain rfl := os1 hf
        exact hret H locs _ _ _ d_Mo_letterScore_104 rfl hP hS
      · have hf := xif_f c13 hf
        exact J65  _ _ _ hP hD hS (lv_sub hl [1, 2, 3, 4, 5, 0] rfl) hf
  refine lv_if_eq (tgt := 25) hx hb d_Mo_letterScore_13 (by decide) (fun c14 => ?_) (fun c14 => ?_)
  · have hf := xif_t c14 hf
    refine lv_iload hx hb d_Mo_letterScore_25 (lv_at hl 0 rfl) ?_
    obtain ⟨r15, hc16, hf⟩ := ob1_inv hf
    refine xk_i (xrunS (As := [.int (mo_kinds (Int32.toNatClampNeg a1))]) (rest := []) ⟨hx, hb, hml, hown, hts⟩ (c_Mo_emitsRight l dC dI ty ad ta H.size mo_rows mo_columns mo_marks mo_letters mo_mate mo_made mo_nodes mo_sort mo_from mo_to mo_begin mo_other mo_states mo_kinds mo_nodeOf mo_steps mo_emissions mo_length mo_text mo_worked mo_values mo_hits mo_hitAt mo_hitLength mo_written mo_listState mo_listAt mo_listLength mo_stack (mo_kinds (Int32.toNatClampNeg a1)) r15 hc16) z_Mo_165 ⟨⟨rfl, rfl⟩, by decide, by decide⟩ hK hP hD hN hS hA rfl hl.1 rfl (Nat.le_of_ble_eq_true rfl) d_Mo_letterScore_27 ⟨Nat.zero_le _, Nat.zero_le _⟩) hS hD rfl hA (fun H locs hP hD hS => ?_)
    refine W.eq (g2 := F0 m 30 ls [.int r15]) rfl ?_
    refine lv_if_eq (tgt := 46) hx hb d_Mo_letterScore_30 (by decide) (fun c17 => ?_) (fun c17 => ?_)
    · have hf := xif_t c17 hf
      refine lv_iconst (v := 0) hx hb d_Mo_letterScore_46 (by decide) ?_
      exact J47 (0 : Int32) _ _ _ hP hD hS (lv_sub hl [1, 2, 3, 4, 0] rfl) hf
    · have hf := xif_f c17 hf
      refine lv_aload_n hx hb d_Mo_letterScore_33 rfl (lv_at hl 1 rfl) ?_
      refine va_get (D := (dC, dI)) (ci := 8) (v := .ref (ad 13)) (C := R_Mo) (T := F_Mo) (N := 29) hx hb hts iw_Mo hown hK hP 0 rfl rfl 18 (by decide) (hts _ m_735) (fun _ h9 => h9) rfl d_Mo_letterScore_34 ?_
      refine lv_iload_n hx hb d_Mo_letterScore_37 rfl (lv_at hl 3 rfl) ?_
      refine lv_iload_n hx hb d_Mo_letterScore_38 rfl (lv_at hl 4 rfl) ?_
      refine lv_iadd hx hb d_Mo_letterScore_39 ?_
      refine lv_iconst (v := 1) hx hb d_Mo_letterScore_40 (by decide) ?_
      refine lv_isub hx hb d_Mo_letterScore_41 ?_
      obtain ⟨hi18, hf⟩ := gdi hf
      refine va_iald hx hb hK hP 13 0 rfl rfl hi18 d_Mo_letterScore_42 ?_
      refine lv_goto (tgt := 47) hx hb d_Mo_letterScore_43 (by decide) ?_
      exact J47 (mo_text (Int32.toNatClampNeg ((a2 + a3) - (1 : Int32)))) _ _ _ hP hD hS (lv_sub hl [1, 2, 3, 4, 0] rfl) hf
  · have hf := xif_f c14 hf
    refine lv_aload_n hx hb d_Mo_letterScore_16 rfl (lv_at hl 1 rfl) ?_
    refine va_get (D := (dC, dI)) (ci := 8) (v := .ref (ad 13)) (C := R_Mo) (T := F_Mo) (N := 29) hx hb hts iw_Mo hown hK hP 0 rfl rfl 18 (by decide) (hts _ m_735) (fun _ h9 => h9) rfl d_Mo_letterScore_17 ?_
    refine lv_iload_n hx hb d_Mo_letterScore_20 rfl (lv_at hl 3 rfl) ?_
    obtain ⟨hi19, hf⟩ := gdi hf
    refine va_iald hx hb hK hP 13 0 rfl rfl hi19 d_Mo_letterScore_21 ?_
    refine lv_goto (tgt := 47) hx hb d_Mo_letterScore_22 (by decide) ?_
    exact J47 (mo_text (Int32.toNatClampNeg a2)) _ _ _ hP hD hS (lv_sub hl [1, 2, 3, 4, 0] rfl) hf
def f_Mo_by_J36 (mo_begin : (Nat → Int32)) (mo_other : (Nat → Int32)) (mo_kinds : (Nat → Int32)) (mo_nodeOf : (Nat → Int32)) (mo_steps : (Nat → Int32)) (mo_emissions : (Nat → Int32)) (mo_text : (Nat → Int32)) (mo_values : (Nat → Int32)) (a1 : Int32) (a2 : Int32) (a3 : Int32) (a4 : Int32) (t0_21 : Int32) (t0_36 : Int32) : Option (Int32) := ob1 (f_Mo_targetOf mo_begin mo_other mo_kinds mo_nodeOf a1 a2) (fun r6 => if r6 < (0 : Int32) then (some ((-1000000 : Int32))) else (if (t0_21 + t0_36) ≤ a4 then (ob1 (f_Mo_cell r6 (a3 + t0_21) ((a4 - t0_21) - t0_36)) (fun r10 => gd (xin r10 15600) (if (mo_values (Int32.toNatClampNeg r10)) = (-1000000 : Int32) then (some ((-1000000 : Int32))) else (ob1 (f_Mo_letterScore mo_kinds mo_emissions mo_text a1 a3 a4) (fun r14 => gd (xin (((8 : Int32) * a1) + a2) 384) (some (((r14 + (mo_steps (Int32.toNatClampNeg (((8 : Int32) * a1) + a2)))) + (mo_values (Int32.toNatClampNeg r10)))))))))) else (some ((-1000000 : Int32)))))
def f_Mo_by_J21 (mo_begin : (Nat → Int32)) (mo_other : (Nat → Int32)) (mo_kinds : (Nat → Int32)) (mo_nodeOf : (Nat → Int32)) (mo_steps : (Nat → Int32)) (mo_emissions : (Nat → Int32)) (mo_text : (Nat → Int32)) (mo_values : (Nat → Int32)) (a1 : Int32) (a2 : Int32) (a3 : Int32) (a4 : Int32) (t0_21 : Int32) : Option (Int32) := ob1 (f_Mo_emitsRight (mo_kinds (Int32.toNatClampNeg a1))) (fun r4 => if r4 = (0 : Int32) then (f_Mo_by_J36 mo_begin mo_other mo_kinds mo_nodeOf mo_steps mo_emissions mo_text mo_values a1 a2 a3 a4 t0_21 (0 : Int32)) else (f_Mo_by_J36 mo_begin mo_other mo_kinds mo_nodeOf mo_steps mo_emissions mo_text mo_values a1 a2 a3 a4 t0_21 (1 : Int32)))
def f_Mo_by (mo_begin : (Nat → Int32)) (mo_other : (Nat → Int32)) (mo_kinds : (Nat → Int32)) (mo_nodeOf : (Nat → Int32)) (mo_steps : (Nat → Int32)) (mo_emissions : (Nat → Int32)) (mo_text : (Nat → Int32)) (mo_values : (Nat → Int32)) (a1 : Int32) (a2 : Int32) (a3 : Int32) (a4 : Int32) : Option (Int32) := gd (xin a1 48) (ob1 (f_Mo_emitsLeft (mo_kinds (Int32.toNatClampNeg a1))) (fun r2 => if r2 = (0 : Int32) then (f_Mo_by_J21 mo_begin mo_other mo_kinds mo_nodeOf mo_steps mo_emissions mo_text mo_values a1 a2 a3 a4 (0 : Int32)) else (f_Mo_by_J21 mo_begin mo_other mo_kinds mo_nodeOf mo_steps mo_emissions mo_text mo_values a1 a2 a3 a4 (1 : Int32))))
set_option maxHeartbeats 4000000 in
set_option maxRecDepth 100000 in
theorem c_Mo_by (l : Launch) (dC : Nat → ClassId) (dI : Nat → Nat → Nat) (ty : Nat → ClassId) (ad : Nat → Nat) (ta : Nat → Nat) (sz : Nat) (mo_rows : Int32) (mo_columns : Int32) (mo_marks : (Nat → Int32)) (mo_letters : (Nat → Int32)) (mo_mate : (Nat → Int32)) (mo_made : Int32) (mo_nodes : Int32) (mo_sort : (Nat → Int32)) (mo_from : (Nat → Int32)) (mo_to : (Nat → Int32)) (mo_begin : (Nat → Int32)) (mo_other : (Nat → Int32)) (mo_states : Int32) (mo_kinds : (Nat → Int32)) (mo_nodeOf : (Nat → Int32)) (mo_steps : (Nat → Int32)) (mo_emissions : (Nat → Int32)) (mo_length : Int32) (mo_text : (Nat → Int32)) (mo_worked : Int32) (mo_values : (Nat → Int32)) (mo_hits : Int32) (mo_hitAt : (Nat → Int32)) (mo_hitLength : (Nat → Int32)) (mo_written : Int32) (mo_listState : (Nat → Int32)) (mo_listAt : (Nat → Int32)) (mo_listLength : (Nat → Int32)) (mo_stack : (Nat → Int32)) (a1 : Int32) (a2 : Int32) (a3 : Int32) (a4 : Int32) (r0 : Int32) (hf : f_Mo_by mo_begin mo_other mo_kinds mo_nodeOf mo_steps mo_emissions mo_text mo_values a1 a2 a3 a4 = some (r0)) : Met l y_Mo_by (.code y_Mo_by prog_10_method_34_code 10 (some .int) :: gw) rm_Mo_by (xPre ta (dC, dI) classes (tys3 ty) (wY ty ad mo_rows mo_columns mo_marks mo_letters mo_mate mo_made mo_nodes mo_sort mo_from mo_to mo_begin mo_other mo_states mo_kinds mo_nodeOf mo_steps mo_emissions mo_length mo_text mo_worked mo_values mo_hits mo_hitAt mo_hitLength mo_written mo_listState mo_listAt mo_listLength mo_stack) sz [.ref (ad 0), .int a1, .int a2, .int a3, .int a4]) (xQi (dC, dI) classes (wY ty ad mo_rows mo_columns mo_marks mo_letters mo_mate mo_made mo_nodes mo_sort mo_from mo_to mo_begin mo_other mo_states mo_kinds mo_nodeOf mo_steps mo_emissions mo_length mo_text mo_worked mo_values mo_hits mo_hitAt mo_hitLength mo_written mo_listState mo_listAt mo_listLength mo_stack) (wY ty ad mo_rows mo_columns mo_marks mo_letters mo_mate mo_made mo_nodes mo_sort mo_from mo_to mo_begin mo_other mo_states mo_kinds mo_nodeOf mo_steps mo_emissions mo_length mo_text mo_worked mo_values mo_hits mo_hitAt mo_hitLength mo_written mo_listState mo_listAt mo_listLength mo_stack) sz r0) 0 0 (va_A (wY ty ad mo_rows mo_columns mo_marks mo_letters mo_mate mo_made mo_nodes mo_sort mo_from mo_to mo_begin mo_other mo_states mo_kinds mo_nodeOf mo_steps mo_emissions mo_length mo_text mo_worked mo_values mo_hits mo_hitAt mo_hitLength mo_written mo_listState mo_listAt mo_listLength mo_stack) sz) := by
  refine xmet_i rfl (Nat.le_of_ble_eq_true rfl) ?_
  intro p e s m below meth c A ls Q hx hb hml hts hown hK hN hA hP hD hS hl hret
  replace hown : s.vm.findClass R_Mo = some m.cls := hown
  have hl : lv_has ls 10 [(0, .ref (ad 0)), (1, .int a1), (2, .int a2), (3, .int a3), (4, .int a4)] := hl
  rw [f_Mo_by] at hf
  obtain ⟨H, eH⟩ : ∃ H : Heap, H = s.heap := ⟨_, rfl⟩
  obtain ⟨locs, eL⟩ : ∃ L : List Loc, L = [] := ⟨_, rfl⟩
  have hP : va_P (dC, dI) classes (wY ty ad mo_rows mo_columns mo_marks mo_letters mo_mate mo_made mo_nodes mo_sort mo_from mo_to mo_begin mo_other mo_states mo_kinds mo_nodeOf mo_steps mo_emissions mo_length mo_text mo_worked mo_values mo_hits mo_hitAt mo_hitLength mo_written mo_listState mo_listAt mo_listLength mo_stack) H := by rw [eH]; exact hP
  have hS : va_S A s.heap H locs := by rw [eH, eL]; exact hS
  rw [← eL]
  suffices hgoal : W p l e rm_Mo_by s m (List.toArray [.ref (ad 0), .int a1, .int a2, .int a3, .int a4]) below meth c H locs 0 0 Q (F0 m 0 ls []) by rw [eH] at hgoal; exact hgoal
  clear eH eL
  refine lv_aload_n hx hb d_Mo_by_0 rfl (lv_at hl 0 rfl) ?_
  refine va_get (D := (dC, dI)) (ci := 8) (v := .ref (ad 9)) (C := R_Mo) (T := F_Mo) (N := 29) hx hb hts iw_Mo hown hK hP 0 rfl rfl 13 (by decide) (hts _ m_730) (fun _ h9 => h9) rfl d_Mo_by_1 ?_
  refine lv_iload_n hx hb d_Mo_by_4 rfl (lv_at hl 1 rfl) ?_
  obtain ⟨hi1, hf⟩ := gdi hf
  refine va_iald hx hb hK hP 9 0 rfl rfl hi1 d_Mo_by_5 ?_
  refine lv_istore (lv' := [(5, .int (mo_kinds (Int32.toNatClampNeg a1))), (0, .ref (ad 0)), (1, .int a1), (2, .int a2), (3, .int a3), (4, .int a4)]) hx hb d_Mo_by_6 hl (by decide) rfl (fun ls hl => ?_)
  refine lv_iload hx hb d_Mo_by_8 (lv_at hl 0 rfl) ?_
  obtain ⟨r2, hc3, hf⟩ := ob1_inv hf
  refine xk_i (xrunS (As := [.int (mo_kinds (Int32.toNatClampNeg a1))]) (rest := []) ⟨hx, hb, hml, hown, hts⟩ (c_Mo_emitsLeft l dC dI ty ad ta H.size mo_rows mo_columns mo_marks mo_letters mo_mate mo_made mo_nodes mo_sort mo_from mo_to mo_begin mo_other mo_states mo_kinds mo_nodeOf mo_steps mo_emissions mo_length mo_text mo_worked mo_values mo_hits mo_hitAt mo_hitLength mo_written mo_listState mo_listAt mo_listLength mo_stack (mo_kinds (Int32.toNatClampNeg a1)) r2 hc3) z_Mo_162 ⟨⟨rfl, rfl⟩, by decide, by decide⟩ hK hP hD hN hS hA rfl hl.1 rfl (Nat.le_of_ble_eq_true rfl) d_Mo_by_10 ⟨Nat.zero_le _, Nat.zero_le _⟩) hS hD rfl hA (fun H locs hP hD hS => ?_)
  refine W.eq (g2 := F0 m 13 ls [.int r2]) rfl ?_
  have J21 : ∀ (t0_21 : Int32) (H : Heap) (locs : List Loc) (ls : Array Slot), va_P (dC, dI) classes (wY ty ad mo_rows mo_columns mo_marks mo_letters mo_mate mo_made mo_nodes mo_sort mo_from mo_to mo_begin mo_other mo_states mo_kinds mo_nodeOf mo_steps mo_emissions mo_length mo_text mo_worked mo_values mo_hits mo_hitAt mo_hitLength mo_written mo_listState mo_listAt mo_listLength mo_stack) H → va_D A (wY ty ad mo_rows mo_columns mo_marks mo_letters mo_mate mo_made mo_nodes mo_sort mo_from mo_to mo_begin mo_other mo_states mo_kinds mo_nodeOf mo_steps mo_emissions mo_length mo_text mo_worked mo_values mo_hits mo_hitAt mo_hitLength mo_written mo_listState mo_listAt mo_listLength mo_stack) → va_S A s.heap H locs → lv_has ls 10 [(0, .ref (ad 0)), (1, .int a1), (2, .int a2), (3, .int a3), (4, .int a4), (5, .int (mo_kinds (Int32.toNatClampNeg a1)))] → f_Mo_by_J21 mo_begin mo_other mo_kinds mo_nodeOf mo_steps mo_emissions mo_text mo_values a1 a2 a3 a4 t0_21 = some (r0) → W p l e rm_Mo_by s m (List.toArray [.ref (ad 0), .int a1, .int a2, .int a3, .int a4]) below meth c H locs 0 0 Q (F0 m 21 ls [.int t0_21]) := by
    intro t0_21 H locs ls hP hD hS hl hf
    rw [f_Mo_by_J21] at hf
    refine lv_istore (lv' := [(6, .int t0_21), (0, .ref (ad 0)), (1, .int a1), (2, .int a2), (3, .int a3), (4, .int a4), (5, .int (mo_kinds (Int32.toNatClampNeg a1)))]) hx hb d_Mo_by_21 hl (by decide) rfl (fun ls hl => ?_)
    refine lv_iload hx hb d_Mo_by_23 (lv_at hl 6 rfl) ?_
    obtain ⟨r4, hc5, hf⟩ := ob1_inv hf
    refine xk_i (xrunS (As := [.int (mo_kinds (Int32.toNatClampNeg a1))]) (rest := []) ⟨hx, hb, hml, hown, hts⟩ (c_Mo_emitsRight l dC dI ty ad ta H.size mo_rows mo_columns mo_marks mo_letters mo_mate mo_made mo_nodes mo_sort mo_from mo_to mo_begin mo_other mo_states mo_kinds mo_nodeOf mo_steps mo_emissions mo_length mo_text mo_worked mo_values mo_hits mo_hitAt mo_hitLength mo_written mo_listState mo_listAt mo_listLength mo_stack (mo_kinds (Int32.toNatClampNeg a1)) r4 hc5) z_Mo_165 ⟨⟨rfl, rfl⟩, by decide, by decide⟩ hK hP hD hN hS hA rfl hl.1 rfl (Nat.le_of_ble_eq_true rfl) d_Mo_by_25 ⟨Nat.zero_le _, Nat.zero_le _⟩) hS hD rfl hA (fun H locs hP hD hS => ?_)
    refine W.eq (g2 := F0 m 28 ls [.int r4]) rfl ?_
    have J36 : ∀ (t0_36 : Int32) (H : Heap) (locs : List Loc) (ls : Array Slot), va_P (dC, dI) classes (wY ty ad mo_rows mo_columns mo_marks mo_letters mo_mate mo_made mo_nodes mo_sort mo_from mo_to mo_begin mo_other mo_states mo_kinds mo_nodeOf mo_steps mo_emissions mo_length mo_text mo_worked mo_values mo_hits mo_hitAt mo_hitLength mo_written mo_listState mo_listAt mo_listLength mo_stack) H → va_D A (wY ty ad mo_rows mo_columns mo_marks mo_letters mo_mate mo_made mo_nodes mo_sort mo_from mo_to mo_begin mo_other mo_states mo_kinds mo_nodeOf mo_steps mo_emissions mo_length mo_text mo_worked mo_values mo_hits mo_hitAt mo_hitLength mo_written mo_listState mo_listAt mo_listLength mo_stack) → va_S A s.heap H locs → lv_has ls 10 [(0, .ref (ad 0)), (1, .int a1), (2, .int a2), (3, .int a3), (4, .int a4), (6, .int t0_21)] → f_Mo_by_J36 mo_begin mo_other mo_kinds mo_nodeOf mo_steps mo_emissions mo_text mo_values a1 a2 a3 a4 t0_21 t0_36 = some (r0) → W p l e rm_Mo_by s m (List.toArray [.ref (ad 0), .int a1, .int a2, .int a3, .int a4]) below meth c H locs 0 0 Q (F0 m 36 ls [.int t0_36]) := by
      intro t0_36 H locs ls hP hD hS hl hf
      rw [f_Mo_by_J36] at hf
      refine lv_istore (lv' := [(7, .int t0_36), (0, .ref (ad 0)), (1, .int a1), (2, .int a2), (3, .int a3), (4, .int a4), (6, .int t0_21)]) hx hb d_Mo_by_36 hl (by decide) rfl (fun ls hl => ?_)
      refine lv_aload_n hx hb d_Mo_by_38 rfl (lv_at hl 1 rfl) ?_
      refine lv_iload_n hx hb d_Mo_by_39 rfl (lv_at hl 2 rfl) ?_
      refine lv_iload_n hx hb d_Mo_by_40 rfl (lv_at hl 3 rfl) ?_
      obtain ⟨r6, hc7, hf⟩ := ob1_inv hf
      refine xk_i (xrunV (C := R_Mo) (As := [.int a1, .int a2]) (rest := []) ⟨hx, hb, hml, hown, hts⟩ (c_Mo_targetOf l dC dI ty ad ta H.size mo_rows mo_columns mo_marks mo_letters mo_mate mo_made mo_nodes mo_sort mo_from mo_to mo_begin mo_other mo_states mo_kinds mo_nodeOf mo_steps mo_emissions mo_length mo_text mo_worked mo_values mo_hits mo_hitAt mo_hitLength mo_written mo_listState mo_listAt mo_listLength mo_stack a1 a2 r6 hc7) z_Mo_119 ⟨⟨rfl, rfl⟩, by decide, by decide⟩ hK hP hD hN hS hA (va_recv hK hP (ci := 8) (q0 := 0) rfl rfl) rfl hl.1 rfl (Nat.le_of_ble_eq_true rfl) d_Mo_by_41 ⟨Nat.zero_le _, Nat.zero_le _⟩) hS hD rfl hA (fun H locs hP hD hS => ?_)
      refine W.eq (g2 := F0 m 44 ls [.int r6]) rfl ?_
      refine lv_istore (lv' := [(8, .int r6), (7, .int t0_36), (0, .ref (ad 0)), (1, .int a1), (2, .int a2), (3, .int a3), (4, .int a4), (6, .int t0_21)]) hx hb d_Mo_by_44 hl (by decide) rfl (fun ls hl => ?_)
      refine lv_iload hx hb d_Mo_by_46 (lv_at hl 0 rfl) ?_
      refine lv_if_lt (tgt := 61) hx hb d_Mo_by_48 (by decide) (fun c8 => ?_) (fun c8 => ?_)
      · have hf := xif_t c8 hf
        refine lv_ldc (v := -1000000) hx hb hown (hts _ m_825) d_Mo_by_61 ?_
        obtain rfl := os1 hf
        exact hret H locs _ _ _ d_Mo_by_63 rfl hP hS
      · have hf := xif_f c8 hf
        refine lv_iload hx hb d_Mo_by_51 (lv_at hl 6 rfl) ?_
        refine lv_iload hx hb d_Mo_by_53 (lv_at hl 7 rfl) ?_
        refine lv_iload hx hb d_Mo_by_55 (lv_at hl 1 rfl) ?_
        refine lv_iadd hx hb d_Mo_by_57 ?_
        refine lv_icmp_ge (tgt := 64) hx hb d_Mo_by_58 (by decide) (fun c9 => ?_) (fun c9 => ?_)
        · have hf := xif_t c9 hf
          refine lv_aload_n hx hb d_Mo_by_64 rfl (lv_at hl 2 rfl) ?_
          refine va_get (D := (dC, dI)) (ci := 8) (v := .ref (ad 14)) (C := R_Mo) (T := F_Mo) (N := 29) hx hb hts iw_Mo hown hK hP 0 rfl rfl 20 (by decide) (hts _ m_737) (fun _ h9 => h9) rfl d_Mo_by_65 ?_
          refine lv_iload hx hb d_Mo_by_68 (lv_at hl 0 rfl) ?_
          refine lv_iload_n hx hb d_Mo_by_70 rfl (lv_at hl 5 rfl) ?_
          refine lv_iload hx hb d_Mo_by_71 (lv_at hl 7 rfl) ?_
          refine lv_iadd hx hb d_Mo_by_73 ?_
          refine lv_iload hx hb d_Mo_by_74 (lv_at hl 6 rfl) ?_
          refine lv_iload hx hb d_Mo_by_76 (lv_at hl 7 rfl) ?_
          refine lv_isub hx hb d_Mo_by_78 ?_
          refine lv_iload hx hb d_Mo_by_79 (lv_at hl 1 rfl) ?_
          refine lv_isub hx hb d_Mo_by_81 ?_
          obtain ⟨r10, hc11, hf⟩ := ob1_inv hf
          refine xk_i (xrunS (As := [.int r6, .int (a3 + t0_21), .int ((a4 - t0_21) - t0_36)]) (rest := [.ref (ad 14)]) ⟨hx, hb, hml, hown, hts⟩ (c_Mo_cell l dC dI ty ad ta H.size mo_rows mo_columns mo_marks mo_letters mo_mate mo_made mo_nodes mo_sort mo_from mo_to mo_begin mo_other mo_states mo_kinds mo_nodeOf mo_steps mo_emissions mo_length mo_text mo_worked mo_values mo_hits mo_hitAt mo_hitLength mo_written mo_listState mo_listAt mo_listLength mo_stack r6 (a3 + t0_21) ((a4 - t0_21) - t0_36) r10 hc11) z_Mo_168 ⟨⟨rfl, rfl⟩, by decide, by decide⟩ hK hP hD hN hS hA rfl hl.1 rfl (Nat.le_of_ble_eq_true rfl) d_Mo_by_82 ⟨Nat.zero_le _, Nat.zero_le _⟩) hS hD rfl hA (fun H locs hP hD hS => ?_)
          refine W.eq (g2 := F0 m 85 ls [.int r10, .ref (ad 14)]) rfl ?_
          obtain ⟨hi12, hf⟩ := gdi hf
          refine va_iald hx hb hK hP 14 0 rfl rfl hi12 d_Mo_by_85 ?_
          refine lv_istore (lv' := [(9, .int (mo_values (Int32.toNatClampNeg r10))), (8, .int r6), (7, .int t0_36), (0, .ref (ad 0)), (1, .int a1), (2, .int a2), (3, .int a3), (4, .int a4), (6, .int t0_21)]) hx hb d_Mo_by_86 hl (by decide) rfl (fun ls hl => ?_)
          refine lv_iload hx hb d_Mo_by_88 (lv_at hl 0 rfl) ?_
          refine lv_ldc (v := -1000000) hx hb hown (hts _ m_825) d_Mo_by_90 ?_
          refine lv_icmp_ne (tgt := 100) hx hb d_Mo_by_92 (by decide) (fun c13 => ?_) (fun c13 => ?_)
          · have hf := xif_f c13 hf
            refine lv_aload_n hx hb d_Mo_by_100 rfl (lv_at hl 3 rfl) ?_
            refine lv_iload_n hx hb d_Mo_by_101 rfl (lv_at hl 4 rfl) ?_
            refine lv_iload_n hx hb d_Mo_by_102 rfl (lv_at hl 6 rfl) ?_
            refine lv_iload hx hb d_Mo_by_103 (lv_at hl 7 rfl) ?_
            obtain ⟨r14, hc15, hf⟩ := ob1_inv hf
            refine xk_i (xrunV (C := R_Mo) (As := [.int a1, .int a3, .int a4]) (rest := []) ⟨hx, hb, hml, hown, hts⟩ (c_Mo_letterScore l dC dI ty ad ta H.size mo_rows mo_columns mo_marks mo_letters mo_mate mo_made mo_nodes mo_sort mo_from mo_to mo_begin mo_other mo_states mo_kinds mo_nodeOf mo_steps mo_emissions mo_length mo_text mo_worked mo_values mo_hits mo_hitAt mo_hitLength mo_written mo_listState mo_listAt mo_listLength mo_stack a1 a3 a4 r14 hc15) z_Mo_171 ⟨⟨rfl, rfl⟩, by decide, by decide⟩ hK hP hD hN hS hA (va_recv hK hP (ci := 8) (q0 := 0) rfl rfl) rfl hl.1 rfl (Nat.le_of_ble_eq_true rfl) d_Mo_by_105 ⟨Nat.zero_le _, Nat.zero_le _⟩) hS hD rfl hA (fun H locs hP hD hS => ?_)
            refine W.eq (g2 := F0 m 108 ls [.int r14]) rfl ?_
            refine lv_aload_n hx hb d_Mo_by_108 rfl (lv_at hl 3 rfl) ?_
            refine va_get (D := (dC, dI)) (ci := 8) (v := .ref (ad 11)) (C := R_Mo) (T := F_Mo) (N := 29) hx hb hts iw_Mo hown hK hP 0 rfl rfl 15 (by decide) (hts _ m_732) (fun _ h9 => h9) rfl d_Mo_by_109 ?_
            refine lv_bipush (v := 8) hx hb d_Mo_by_112 (by decide) ?_
            refine lv_iload_n hx hb d_Mo_by_114 rfl (lv_at hl 4 rfl) ?_
            refine lv_imul hx hb d_Mo_by_115 ?_
            refine lv_iload_n hx hb d_Mo_by_116 rfl (lv_at hl 5 rfl) ?_
            refine lv_iadd hx hb d_Mo_by_117 ?_
            obtain ⟨hi16, hf⟩ := gdi hf
            refine va_iald hx hb hK hP 11 0 rfl rfl hi16 d_Mo_by_118 ?_
            refine lv_iadd hx hb d_Mo_by_119 ?_
            refine lv_iload hx hb d_Mo_by_120 (lv_at hl 0 rfl) ?_
            refine lv_iadd hx hb d_Mo_by_122 ?_
            obtain rfl := os1 hf
            exact hret H locs _ _ _ d_Mo_by_123 rfl hP hS
          · have hf := xif_t c13 hf
            refine lv_ldc (v := -1000000) hx hb hown (hts _ m_825) d_Mo_by_95 ?_
            refine lv_goto (tgt := 123) hx hb d_Mo_by_97 (by decide) ?_
            obtain rfl := os1 hf
            exact hret H locs _ _ _ d_Mo_by_123 rfl hP hS
        · have hf := xif_f c9 hf
          refine lv_ldc (v := -1000000) hx hb hown (hts _ m_825) d_Mo_by_61 ?_
          obtain rfl := os1 hf
          exact hret H locs _ _ _ d_Mo_by_63 rfl hP hS
    refine lv_if_eq (tgt := 35) hx hb d_Mo_by_28 (by decide) (fun c17 => ?_) (fun c17 => ?_)
    · have hf := xif_t c17 hf
      refine lv_iconst (v := 0) hx hb d_Mo_by_35 (by decide) ?_
      exact J36 (0 : Int32) _ _ _ hP hD hS (lv_sub hl [1, 2, 3, 4, 5, 0] rfl) hf
    · have hf := xif_f c17 hf
      refine lv_iconst (v := 1) hx hb d_Mo_by_31 (by decide) ?_
      refine lv_goto (tgt := 36) hx hb d_Mo_by_32 (by decide) ?_
      exact J36 (1 : Int32) _ _ _ hP hD hS (lv_sub hl [1, 2, 3, 4, 5, 0] rfl) hf
  refine lv_if_eq (tgt := 20) hx hb d_Mo_by_13 (by decide) (fun c18 => ?_) (fun c18 => ?_)
  · have hf := xif_t c18 hf
    refine lv_iconst (v := 0) hx hb d_Mo_by_20 (by decide) ?_
    exact J21 (0 : Int32) _ _ _ hP hD hS (lv_sub hl [1, 2, 3, 4, 5, 0] rfl) hf
  · have hf := xif_f c18 hf
    refine lv_iconst (v := 1) hx hb d_Mo_by_16 (by decide) ?_
    refine lv_goto (tgt := 21) hx hb d_Mo_by_17 (by decide) ?_
    exact J21 (1 : Int32) _ _ _ hP hD hS (lv_sub hl [1, 2, 3, 4, 5, 0] rfl) hf
