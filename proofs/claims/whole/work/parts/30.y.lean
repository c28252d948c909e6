/-! pure functions and contracts of Mo_bySplit, Mo_better, Mo_work (written by wip/gen) -/
def f_Mo_bySplit (mo_begin : (Nat → Int32)) (mo_other : (Nat → Int32)) (mo_kinds : (Nat → Int32)) (mo_nodeOf : (Nat → Int32)) (mo_values : (Nat → Int32)) (a1 : Int32) (a2 : Int32) (a3 : Int32) (a4 : Int32) : Option (Int32) := ob1 (f_Mo_targetOf mo_begin mo_other mo_kinds mo_nodeOf a1 (0 : Int32)) (fun r1 => ob1 (f_Mo_cell r1 a3 a2) (fun r3 => gd (xin r3 15600) (ob1 (f_Mo_targetOf mo_begin mo_other mo_kinds mo_nodeOf a1 (1 : Int32)) (fun r6 => ob1 (f_Mo_cell r6 (a3 + a2) (a4 - a2)) (fun r8 => gd (xin r8 15600) (if (mo_values (Int32.toNatClampNeg r3)) = (-1000000 : Int32) then (some ((-1000000 : Int32))) else (if (mo_values (Int32.toNatClampNeg r8)) = (-1000000 : Int32) then (some ((-1000000 : Int32))) else (some (((mo_values (Int32.toNatClampNeg r3)) + (mo_values (Int32.toNatClampNeg r8))))))))))))
set_option maxHeartbeats 4000000 in
set_option maxRecDepth 100000 in
theorem c_Mo_bySplit (l : Launch) (dC : Nat → ClassId) (dI : Nat → Nat → Nat) (ty : Nat → ClassId) (ad : Nat → Nat) (ta : Nat → Nat) (sz : Nat) (mo_rows : Int32) (mo_columns : Int32) (mo_marks : (Nat → Int32)) (mo_letters : (Nat → Int32)) (mo_mate : (Nat → Int32)) (mo_made : Int32) (mo_nodes : Int32) (mo_sort : (Nat → Int32)) (mo_from : (Nat → Int32)) (mo_to : (Nat → Int32)) (mo_begin : (Nat → Int32)) (mo_other : (Nat → Int32)) (mo_states : Int32) (mo_kinds : (Nat → Int32)) (mo_nodeOf : (Nat → Int32)) (mo_steps : (Nat → Int32)) (mo_emissions : (Nat → Int32)) (mo_length : Int32) (mo_text : (Nat → Int32)) (mo_worked : Int32) (mo_values : (Nat → Int32)) (mo_hits : Int32) (mo_hitAt : (Nat → Int32)) (mo_hitLength : (Nat → Int32)) (mo_written : Int32) (mo_listState : (Nat → Int32)) (mo_listAt : (Nat → Int32)) (mo_listLength : (Nat → Int32)) (mo_stack : (Nat → Int32)) (a1 : Int32) (a2 : Int32) (a3 : Int32) (a4 : Int32) (r0 : Int32) (hf : f_Mo_bySplit mo_begin mo_other mo_kinds mo_nodeOf mo_values a1 a2 a3 a4 = some (r0)) : Met l y_Mo_bySplit (.code y_Mo_bySplit prog_10_method_35_code 7 (some .int) :: gw) rm_Mo_bySplit (xPre ta (dC, dI) classes (tys3 ty) (wY ty ad mo_rows mo_columns mo_marks mo_letters mo_mate mo_made mo_nodes mo_sort mo_from mo_to mo_begin mo_other mo_states mo_kinds mo_nodeOf mo_steps mo_emissions mo_length mo_text mo_worked mo_values mo_hits mo_hitAt mo_hitLength mo_written mo_listState mo_listAt mo_listLength mo_stack) sz [.ref (ad 0), .int a1, .int a2, .int a3, .int a4]) (xQi (dC, dI) classes (wY ty ad mo_rows mo_columns mo_marks mo_letters mo_mate mo_made mo_nodes mo_sort mo_from mo_to mo_begin mo_other mo_states mo_kinds mo_nodeOf mo_steps mo_emissions mo_length mo_text mo_worked mo_values mo_hits mo_hitAt mo_hitLength mo_written mo_listState mo_listAt mo_listLength mo_stack) (wY ty ad mo_rows mo_columns mo_marks mo_letters mo_mate mo_made mo_nodes mo_sort mo_from mo_to mo_begin mo_other mo_states mo_kinds mo_nodeOf mo_steps mo_emissions mo_length mo_text mo_worked mo_values mo_hits mo_hitAt mo_hitLength mo_written mo_listState mo_listAt mo_listLength mo_stack) sz r0) 0 0 (va_A (wY ty ad mo_rows mo_columns mo_marks mo_letters mo_mate mo_made mo_nodes mo_sort mo_from mo_to mo_begin mo_other mo_states mo_kinds mo_nodeOf mo_steps mo_emissions mo_length mo_text mo_worked mo_values mo_hits mo_hitAt mo_hitLength mo_written mo_listState mo_listAt mo_listLength mo_stack) sz) := by
  refine xmet_i rfl (Nat.le_of_ble_eq_true rfl) ?_
  intro p e s m below meth c A ls Q hx hb hml hts hown hK hN hA hP hD hS hl hret
  replace hown : s.vm.findClass R_Mo = some m.cls := hown
  have hl : lv_has ls 7 [(0, .ref (ad 0)), (1, .int a1), (2, .int a2), (3, .int a3), (4, .int a4)] := hl
  rw [f_Mo_bySplit] at hf
  obtain ⟨H, eH⟩ : ∃ H : Heap, H = s.heap := ⟨_, rfl⟩
  obtain ⟨locs, eL⟩ : ∃ L : List Loc, L = [] := ⟨_, rfl⟩
  have hP : va_P (dC, dI) classes (wY ty ad mo_rows mo_columns mo_marks mo_letters mo_mate mo_made mo_nodes mo_sort mo_from mo_to mo_begin mo_other mo_states mo_kinds mo_nodeOf mo_steps mo_emissions mo_length mo_text mo_worked mo_values mo_hits mo_hitAt mo_hitLength mo_written mo_listState mo_listAt mo_listLength mo_stack) H := by rw [eH]; exact hP
  have hS : va_S A s.heap H locs := by rw [eH, eL]; exact hS
  rw [← eL]
  suffices hgoal : W p l e rm_Mo_bySplit s m (List.toArray [.ref (ad 0), .int a1, .int a2, .int a3, .int a4]) below meth c H locs 0 0 Q (F0 m 0 ls []) by rw [eH] at hgoal; exact hgoal
  clear eH eL
  refine lv_aload_n hx hb d_Mo_bySplit_0 rfl (lv_at hl 0 rfl) ?_
  refine va_get (D := (dC, dI)) (ci := 8) (v := .ref (ad 14)) (C := R_Mo) (T := F_Mo) (N := 29) hx hb hts iw_Mo hown hK hP 0 rfl rfl 20 (by decide) (hts _ m_737) (fun _ h9 => h9) rfl d_Mo_bySplit_1 ?_
  refine lv_aload_n hx hb d_Mo_bySplit_4 rfl (lv_at hl 0 rfl) ?_
  refine lv_iload_n hx hb d_Mo_bySplit_5 rfl (lv_at hl 1 rfl) ?_
  refine lv_iconst (v := 0) hx hb d_Mo_bySplit_6 (by decide) ?_
  obtain ⟨r1, hc2, hf⟩ := ob1_inv hf
  refine xk_i (xrunV (C := R_Mo) (As := [.int a1, .int (0 : Int32)]) (rest := [.ref (ad 14)]) ⟨hx, hb, hml, hown, hts⟩ (c_Mo_targetOf l dC dI ty ad ta H.size mo_rows mo_columns mo_marks mo_letters mo_mate mo_made mo_nodes mo_sort mo_from mo_to mo_begin mo_other mo_states mo_kinds mo_nodeOf mo_steps mo_emissions mo_length mo_text mo_worked mo_values mo_hits mo_hitAt mo_hitLength mo_written mo_listState mo_listAt mo_listLength mo_stack a1 (0 : Int32) r1 hc2) z_Mo_119 ⟨⟨rfl, rfl⟩, by decide, by decide⟩ hK hP hD hN hS hA (va_recv hK hP (ci := 8) (q0 := 0) rfl rfl) rfl hl.1 rfl (Nat.le_of_ble_eq_true rfl) d_Mo_bySplit_7 ⟨Nat.zero_le _, Nat.zero_le _⟩) hS hD rfl hA (fun H locs hP hD hS => ?_)
  refine W.eq (g2 := F0 m 10 ls [.int r1, .ref (ad 14)]) rfl ?_
  refine lv_iload_n hx hb d_Mo_bySplit_10 rfl (lv_at hl 3 rfl) ?_
  refine lv_iload_n hx hb d_Mo_bySplit_11 rfl (lv_at hl 2 rfl) ?_
  obtain ⟨r3, hc4, hf⟩ := ob1_inv hf
  refine xk_i (xrunS (As := [.int r1, .int a3, .int a2]) (rest := [.ref (ad 14)]) ⟨hx, hb, hml, hown, hts⟩ (c_Mo_cell l dC dI ty ad ta H.size mo_rows mo_columns mo_marks mo_letters mo_mate mo_made mo_nodes mo_sort mo_from mo_to mo_begin mo_other mo_states mo_kinds mo_nodeOf mo_steps mo_emissions mo_length mo_text mo_worked mo_values mo_hits mo_hitAt mo_hitLength mo_written mo_listState mo_listAt mo_listLength mo_stack r1 a3 a2 r3 hc4) z_Mo_168 ⟨⟨rfl, rfl⟩, by decide, by decide⟩ hK hP hD hN hS hA rfl hl.1 rfl (Nat.le_of_ble_eq_true rfl) d_Mo_bySplit_12 ⟨Nat.zero_le _, Nat.zero_le _⟩) hS hD rfl hA (fun H locs hP hD hS => ?_)
  refine W.eq (g2 := F0 m 15 ls [.int r3, .ref (ad 14)]) rfl ?_
  obtain ⟨hi5, hf⟩ := gdi hf
  refine va_iald hx hb hK hP 14 0 rfl rfl hi5 d_Mo_bySplit_15 ?_
  refine lv_istore (lv' := [(5, .int (mo_values (Int32.toNatClampNeg r3))), (0, .ref (ad 0)), (1, .int a1), (2, .int a2), (3, .int a3), (4, .int a4)]) hx hb d_Mo_bySplit_16 hl (by decide) rfl (fun ls hl => ?_)
  refine lv_aload_n hx hb d_Mo_bySplit_18 rfl (lv_at hl 1 rfl) ?_
  refine va_get (D := (dC, dI)) (ci := 8) (v := .ref (ad 14)) (C := R_Mo) (T := F_Mo) (N := 29) hx hb hts iw_Mo hown hK hP 0 rfl rfl 20 (by decide) (hts _ m_737) (fun _ h9 => h9) rfl d_Mo_bySplit_19 ?_
  refine lv_aload_n hx hb d_Mo_bySplit_22 rfl (lv_at hl 1 rfl) ?_
  refine lv_iload_n hx hb d_Mo_bySplit_23 rfl (lv_at hl 2 rfl) ?_
  refine lv_iconst (v := 1) hx hb d_Mo_bySplit_24 (by decide) ?_
  obtain ⟨r6, hc7, hf⟩ := ob1_inv hf
  refine xk_i (xrunV (C := R_Mo) (As := [.int a1, .int (1 : Int32)]) (rest := [.ref (ad 14)]) ⟨hx, hb, hml, hown, hts⟩ (c_Mo_targetOf l dC dI ty ad ta H.size mo_rows mo_columns mo_marks mo_letters mo_mate mo_made mo_nodes mo_sort mo_from mo_to mo_begin mo_other mo_states mo_kinds mo_nodeOf mo_steps mo_emissions mo_length mo_text mo_worked mo_values mo_hits mo_hitAt mo_hitLength mo_written mo_listState mo_listAt mo_listLength mo_stack a1 (1 : Int32) r6 hc7) z_Mo_119 ⟨⟨rfl, rfl⟩, by decide, by decide⟩ hK hP hD hN hS hA (va_recv hK hP (ci := 8) (q0 := 0) rfl rfl) rfl hl.1 rfl (Nat.le_of_ble_eq_true rfl) d_Mo_bySplit_25 ⟨Nat.zero_le _, Nat.zero_le _⟩) hS hD rfl hA (fun H locs hP hD hS => ?_)
  refine W.eq (g2 := F0 m 28 ls [.int r6, .ref (ad 14)]) rfl ?_
  refine lv_iload_n hx hb d_Mo_bySplit_28 rfl (lv_at hl 4 rfl) ?_
  refine lv_iload_n hx hb d_Mo_bySplit_29 rfl (lv_at hl 3 rfl) ?_
  refine lv_iadd hx hb d_Mo_bySplit_30 ?_
  refine lv_iload hx hb d_Mo_bySplit_31 (lv_at hl 5 rfl) ?_
  refine lv_iload_n hx hb d_Mo_bySplit_33 rfl (lv_at hl 3 rfl) ?_
  refine lv_isub hx hb d_Mo_bySplit_34 ?_
  obtain ⟨r8, hc9, hf⟩ := ob1_inv hf
  refine xk_i (xrunS (As := [.int r6, .int (a3 + a2), .int (a4 - a2)]) (rest := [.ref (ad 14)]) ⟨hx, hb, hml, hown, hts⟩ (c_Mo_cell l dC dI ty ad ta H.size mo_rows mo_columns mo_marks mo_letters mo_mate mo_made mo_nodes mo_sort mo_from mo_to mo_begin mo_other mo_states mo_kinds mo_nodeOf mo_steps mo_emissions mo_length mo_text mo_worked mo_values mo_hits mo_hitAt mo_hitLength mo_written mo_listState mo_listAt mo_listLength mo_stack r6 (a3 + a2) (a4 - a2) r8 hc9) z_Mo_168 ⟨⟨rfl, rfl⟩, by decide, by decide⟩ hK hP hD hN hS hA rfl hl.1 rfl (Nat.le_of_ble_eq_true rfl) d_Mo_bySplit_35 ⟨Nat.zero_le _, Nat.zero_le _⟩) hS hD rfl hA (fun H locs hP hD hS => ?_)
  refine W.eq (g2 := F0 m 38 ls [.int r8, .ref (ad 14)]) rfl ?_
  obtain ⟨hi10, hf⟩ := gdi hf
  refine va_iald hx hb hK hP 14 0 rfl rfl hi10 d_Mo_bySplit_38 ?_
  refine lv_istore (lv' := [(6, .int (mo_values (Int32.toNatClampNeg r8))), (5, .int (mo_values (Int32.toNatClampNeg r3))), (0, .ref (ad 0)), (1, .int a1), (2, .int a2), (3, .int a3), (4, .int a4)]) hx hb d_Mo_bySplit_39 hl (by decide) rfl (fun ls hl => ?_)
  refine lv_iload hx hb d_Mo_bySplit_41 (lv_at hl 1 rfl) ?_
  refine lv_ldc (v := -1000000) hx hb hown (hts _ m_825) d_Mo_bySplit_43 ?_
  refine lv_icmp_eq (tgt := 55) hx hb d_Mo_bySplit_45 (by decide) (fun c11 => ?_) (fun c11 => ?_)
  · have hf := xif_t c11 hf
    refine lv_ldc (v := -1000000) hx hb hown (hts _ m_825) d_Mo_bySplit_55 ?_
    refine lv_goto (tgt := 65) hx hb d_Mo_bySplit_57 (by decide) ?_
    obtain rfl := os1 hf
    exact hret H locs _ _ _ d_Mo_bySplit_65 rfl hP hS
  · have hf := xif_f c11 hf
    refine lv_iload hx hb d_Mo_bySplit_48 (lv_at hl 0 rfl) ?_
    refine lv_ldc (v := -1000000) hx hb hown (hts _ m_825) d_Mo_bySplit_50 ?_
    refine lv_icmp_ne (tgt := 60) hx hb d_Mo_bySplit_52 (by decide) (fun c12 => ?_) (fun c12 => ?_)
    · have hf := xif_f c12 hf
      refine lv_iload hx hb d_Mo_bySplit_60 (lv_at hl 1 rfl) ?_
      refine lv_iload hx hb d_Mo_bySplit_62 (lv_at hl 0 rfl) ?_
      refine lv_iadd hx hb d_Mo_bySplit_64 ?_
      obtain rfl := os1 hf
      exact hret H locs _ _ _ d_Mo_bySplit_65 rfl hP hS
    · have hf := xif_t c12 hf
      refine lv_ldc (v := -1000000) hx hb hown (hts _ m_825) d_Mo_bySplit_55 ?_
      refine lv_goto (tgt := 65) hx hb d_Mo_bySplit_57 (by decide) ?_
      obtain rfl := os1 hf
      exact hret H locs _ _ _ d_Mo_bySplit_65 rfl hP hS
def f_Mo_better_K83_133  (x4_83 : Int32) (x5_83 : Int32) : Option (Int32) := some (x4_83)
def f_Mo_better_L83 (mo_begin : (Nat → Int32)) (mo_other : (Nat → Int32)) (mo_kinds : (Nat → Int32)) (mo_nodeOf : (Nat → Int32)) (mo_values : (Nat → Int32)) (a1 : Int32) (a2 : Int32) (a3 : Int32) (k83_133 : (Int32 → Int32 → Option (Int32))) : Nat → Int32 → Int32 → Option (Int32)
  | 0, _, _ => none
  | n83 + 1, x4_83, x5_83 => if a3 < x5_83 then (k83_133 x4_83 x5_83) else (gd (xin a1 48) (if (mo_kinds (Int32.toNatClampNeg a1)) = (7 : Int32) then (ob1 (f_Mo_bySplit mo_begin mo_other mo_kinds mo_nodeOf mo_values a1 x5_83 a2 a3) (fun r12 => if r12 ≤ x4_83 then ((f_Mo_better_L83 mo_begin mo_other mo_kinds mo_nodeOf mo_values a1 a2 a3 k83_133 n83) x4_83 (x5_83 + (1 : Int32))) else ((f_Mo_better_L83 mo_begin mo_other mo_kinds mo_nodeOf mo_values a1 a2 a3 k83_133 n83) r12 (x5_83 + (1 : Int32))))) else (k83_133 x4_83 x5_83)))
def f_Mo_better_K29_80 (mo_begin : (Nat → Int32)) (mo_other : (Nat → Int32)) (mo_kinds : (Nat → Int32)) (mo_nodeOf : (Nat → Int32)) (mo_values : (Nat → Int32)) (a1 : Int32) (a2 : Int32) (a3 : Int32) (x4_29 : Int32) (x5_29 : Int32) : Option (Int32) := f_Mo_better_L83 mo_begin mo_other mo_kinds mo_nodeOf mo_values a1 a2 a3 (f_Mo_better_K83_133) 1000 x4_29 (0 : Int32)
def f_Mo_better_L29 (mo_begin : (Nat → Int32)) (mo_other : (Nat → Int32)) (mo_kinds : (Nat → Int32)) (mo_nodeOf : (Nat → Int32)) (mo_steps : (Nat → Int32)) (mo_emissions : (Nat → Int32)) (mo_text : (Nat → Int32)) (mo_values : (Nat → Int32)) (a1 : Int32) (a2 : Int32) (a3 : Int32) (k29_80 : (Int32 → Int32 → Option (Int32))) : Nat → Int32 → Int32 → Option (Int32)
  | 0, _, _ => none
  | n29 + 1, x4_29, x5_29 => if (8 : Int32) ≤ x5_29 then (k29_80 x4_29 x5_29) else (gd (xin a1 48) (if (mo_kinds (Int32.toNatClampNeg a1)) = (7 : Int32) then (k29_80 x4_29 x5_29) else (ob1 (f_Mo_by mo_begin mo_other mo_kinds mo_nodeOf mo_steps mo_emissions mo_text mo_values a1 x5_29 a2 a3) (fun r6 => if r6 ≤ x4_29 then ((f_Mo_better_L29 mo_begin mo_other mo_kinds mo_nodeOf mo_steps mo_emissions mo_text mo_values a1 a2 a3 k29_80 n29) x4_29 (x5_29 + (1 : Int32))) else ((f_Mo_better_L29 mo_begin mo_other mo_kinds mo_nodeOf mo_steps mo_emissions mo_text mo_values a1 a2 a3 k29_80 n29) r6 (x5_29 + (1 : Int32)))))))
def f_Mo_better (mo_begin : (Nat → Int32)) (mo_other : (Nat → Int32)) (mo_kinds : (Nat → Int32)) (mo_nodeOf : (Nat → Int32)) (mo_steps : (Nat → Int32)) (mo_emissions : (Nat → Int32)) (mo_text : (Nat → Int32)) (mo_values : (Nat → Int32)) (a1 : Int32) (a2 : Int32) (a3 : Int32) : Option (Int32) := gd (xin a1 48) (if (mo_kinds (Int32.toNatClampNeg a1)) = (8 : Int32) then (if a3 = (0 : Int32) then (some ((0 : Int32))) else (some ((-1000000 : Int32)))) else (f_Mo_better_L29 mo_begin mo_other mo_kinds mo_nodeOf mo_steps mo_emissions mo_text mo_values a1 a2 a3 (f_Mo_better_K29_80 mo_begin mo_other mo_kinds mo_nodeOf mo_values a1 a2 a3) 1000 (-1000000 : Int32) (0 : Int32)))
set_option maxHeartbeats 4000000 in
set_option maxRecDepth 100000 in
theorem c_Mo_better (l : Launch) (dC : Nat → ClassId) (dI : Nat → Nat → Nat) (ty : Nat → ClassId) (ad : Nat → Nat) (ta : Nat → Nat) (sz : Nat) (mo_rows : Int32) (mo_columns : Int32) (mo_marks : (Nat → Int32)) (mo_letters : (Nat → Int32)) (mo_mate : (Nat → Int32)) (mo_made : Int32) (mo_nodes : Int32) (mo_sort : (Nat → Int32)) (mo_from : (Nat → Int32)) (mo_to : (Nat → Int32)) (mo_begin : (Nat → Int32)) (mo_other : (Nat → Int32)) (mo_states : Int32) (mo_kinds : (Nat → Int32)) (mo_nodeOf : (Nat → Int32)) (mo_steps : (Nat → Int32)) (mo_emissions : (Nat → Int32)) (mo_length : Int32) (mo_text : (Nat → Int32)) (mo_worked : Int32) (mo_values : (Nat → Int32)) (mo_hits : Int32) (mo_hitAt : (Nat → Int32)) (mo_hitLength : (Nat → Int32)) (mo_written : Int32) (mo_listState : (Nat → Int32)) (mo_listAt : (Nat → Int32)) (mo_listLength : (Nat → Int32)) (mo_stack : (Nat → Int32)) (a1 : Int32) (a2 : Int32) (a3 : Int32) (r0 : Int32) (hf : f_Mo_better mo_begin mo_other mo_kinds mo_nodeOf mo_steps mo_emissions mo_text mo_values a1 a2 a3 = some (r0)) : Met l y_Mo_better (.code y_Mo_better prog_10_method_36_code 7 (some .int) :: gw) rm_Mo_better (xPre ta (dC, dI) classes (tys3 ty) (wY ty ad mo_rows mo_columns mo_marks mo_letters mo_mate mo_made mo_nodes mo_sort mo_from mo_to mo_begin mo_other mo_states mo_kinds mo_nodeOf mo_steps mo_emissions mo_length mo_text mo_worked mo_values mo_hits mo_hitAt mo_hitLength mo_written mo_listState mo_listAt mo_listLength mo_stack) sz [.ref (ad 0), .int a1, .int a2, .int a3]) (xQi (dC, dI) classes (wY ty ad mo_rows mo_columns mo_marks mo_letters mo_mate mo_made mo_nodes mo_sort mo_from mo_to mo_begin mo_other mo_states mo_kinds mo_nodeOf mo_steps mo_emissions mo_length mo_text mo_worked mo_values mo_hits mo_hitAt mo_hitLength mo_written mo_listState mo_listAt mo_listLength mo_stack) (wY ty ad mo_rows mo_columns mo_marks mo_letters mo_mate mo_made mo_nodes mo_sort mo_from mo_to mo_begin mo_other mo_states mo_kinds mo_nodeOf mo_steps mo_emissions mo_length mo_text mo_worked mo_values mo_hits mo_hitAt mo_hitLength mo_written mo_listState mo_listAt mo_listLength mo_stack) sz r0) 0 0 (va_A (wY ty ad mo_rows mo_columns mo_marks mo_letters mo_mate mo_made mo_nodes mo_sort mo_from mo_to mo_begin mo_other mo_states mo_kinds mo_nodeOf mo_steps mo_emissions mo_length mo_text mo_worked mo_values mo_hits mo_hitAt mo_hitLength mo_written mo_listState mo_listAt mo_listLength mo_stack) sz) := by
  refine xmet_i rfl (Nat.le_of_ble_eq_true rfl) ?_
  intro p e s m below meth c A ls Q hx hb hml hts hown hK hN hA hP hD hS hl hret
  replace hown : s.vm.findClass R_Mo = some m.cls := hown
  have hl : lv_has ls 7 [(0, .ref (ad 0)), (1, .int a1), (2, .int a2), (3, .int a3)] := hl
  rw [f_Mo_better] at hf
  obtain ⟨H, eH⟩ : ∃ H : Heap, H = s.heap := ⟨_, rfl⟩
  obtain ⟨locs, eL⟩ : ∃ L : List Loc, L = [] := ⟨_, rfl⟩
  have hP : va_P (dC, dI) classes (wY ty ad mo_rows mo_columns mo_marks mo_letters mo_mate mo_made mo_nodes mo_sort mo_from mo_to mo_begin mo_other mo_states mo_kinds mo_nodeOf mo_steps mo_emissions mo_length mo_text mo_worked mo_values mo_hits mo_hitAt mo_hitLength mo_written mo_listState mo_listAt mo_listLength mo_stack) H := by rw [eH]; exact hP
  have hS : va_S A s.heap H locs := by rw [eH, eL]; exact hS
  rw [← eL]
  suffices hgoal : W p l e rm_Mo_better s m (List.toArray [.ref (ad 0), .int a1, .int a2, .int a3]) below meth c H locs 0 0 Q (F0 m 0 ls []) by rw [eH] at hgoal; exact hgoal
  clear eH eL
  refine lv_aload_n hx hb d_Mo_better_0 rfl (lv_at hl 0 rfl) ?_
  refine va_get (D := (dC, dI)) (ci := 8) (v := .ref (ad 9)) (C := R_Mo) (T := F_Mo) (N := 29) hx hb hts iw_Mo hown hK hP 0 rfl rfl 13 (by decide) (hts _ m_730) (fun _ h9 => h9) rfl d_Mo_better_1 ?_
  refine lv_iload_n hx hb d_Mo_better_4 rfl (lv_at hl 1 rfl) ?_
  obtain ⟨hi1, hf⟩ := gdi hf
  refine va_iald hx hb hK hP 9 0 rfl rfl hi1 d_Mo_better_5 ?_
  refine lv_bipush (v := 8) hx hb d_Mo_better_6 (by decide) ?_
  refine lv_icmp_ne (tgt := 22) hx hb d_Mo_better_8 (by decide) (fun c2 => ?_) (fun c2 => ?_)
  · have hf := xif_f c2 hf
    refine lv_ldc (v := -1000000) hx hb hown (hts _ m_825) d_Mo_better_22 ?_
    refine lv_istore (lv' := [(4, .int (-1000000 : Int32)), (0, .ref (ad 0)), (1, .int a1), (2, .int a2), (3, .int a3)]) hx hb d_Mo_better_24 hl (by decide) rfl (fun ls hl => ?_)
    refine lv_iconst (v := 0) hx hb d_Mo_better_26 (by decide) ?_
    refine lv_istore (lv' := [(5, .int (0 : Int32)), (4, .int (-1000000 : Int32)), (0, .ref (ad 0)), (1, .int a1), (2, .int a2), (3, .int a3)]) hx hb d_Mo_better_27 hl (by decide) rfl (fun ls hl => ?_)
    have K29_80 : ∀ (x4_29 : Int32) (x5_29 : Int32) (H : Heap) (locs : List Loc) (ls : Array Slot), va_P (dC, dI) classes (wY ty ad mo_rows mo_columns mo_marks mo_letters mo_mate mo_made mo_nodes mo_sort mo_from mo_to mo_begin mo_other mo_states mo_kinds mo_nodeOf mo_steps mo_emissions mo_length mo_text mo_worked mo_values mo_hits mo_hitAt mo_hitLength mo_written mo_listState mo_listAt mo_listLength mo_stack) H → va_D A (wY ty ad mo_rows mo_columns mo_marks mo_letters mo_mate mo_made mo_nodes mo_sort mo_from mo_to mo_begin mo_other mo_states mo_kinds mo_nodeOf mo_steps mo_emissions mo_length mo_text mo_worked mo_values mo_hits mo_hitAt mo_hitLength mo_written mo_listState mo_listAt mo_listLength mo_stack) → va_S A s.heap H locs → lv_has ls 7 [(0, .ref (ad 0)), (1, .int a1), (2, .int a2), (3, .int a3), (4, .int x4_29)] → f_Mo_better_K29_80 mo_begin mo_other mo_kinds mo_nodeOf mo_values a1 a2 a3 x4_29 x5_29 = some (r0) → W p l e rm_Mo_better s m (List.toArray [.ref (ad 0), .int a1, .int a2, .int a3]) below meth c H locs 0 0 Q (F0 m 80 ls []) := by
      intro x4_29 x5_29 H locs ls hP hD hS hl hf
      rw [f_Mo_better_K29_80] at hf
      refine lv_iconst (v := 0) hx hb d_Mo_better_80 (by decide) ?_
      refine lv_istore (lv' := [(5, .int (0 : Int32)), (0, .ref (ad 0)), (1, .int a1), (2, .int a2), (3, .int a3), (4, .int x4_29)]) hx hb d_Mo_better_81 hl (by decide) rfl (fun ls hl => ?_)
      have K83_133 : ∀ (x4_83 : Int32) (x5_83 : Int32) (H : Heap) (locs : List Loc) (ls : Array Slot), va_P (dC, dI) classes (wY ty ad mo_rows mo_columns mo_marks mo_letters mo_mate mo_made mo_nodes mo_sort mo_from mo_to mo_begin mo_other mo_states mo_kinds mo_nodeOf mo_steps mo_emissions mo_length mo_text mo_worked mo_values mo_hits mo_hitAt mo_hitLength mo_written mo_listState mo_listAt mo_listLength mo_stack) H → va_D A (wY ty ad mo_rows mo_columns mo_marks mo_letters mo_mate mo_made mo_nodes mo_sort mo_from mo_to mo_begin mo_other mo_states mo_kinds mo_nodeOf mo_steps mo_emissions mo_length mo_text mo_worked mo_values mo_hits mo_hitAt mo_hitLength mo_written mo_listState mo_listAt mo_listLength mo_stack) → va_S A s.heap H locs → lv_has ls 7 [(4, .int x4_83)] → f_Mo_better_K83_133 x4_83 x5_83 = some (r0) → W p l e rm_Mo_better s m (List.toArray [.ref (ad 0), .int a1, .int a2, .int a3]) below meth c H locs 0 0 Q (F0 m 133 ls []) := by
        intro x4_83 x5_83 H locs ls hP hD hS hl hf
        rw [f_Mo_better_K83_133] at hf
        refine lv_iload hx hb d_Mo_better_133 (lv_at hl 0 rfl) ?_
        obtain rfl := os1 hf
        exact hret H locs _ _ _ d_Mo_better_135 rfl hP hS
      have L83 : ∀ (n83 : Nat), ∀ (x4_83 : Int32) (x5_83 : Int32) (H : Heap) (locs : List Loc) (ls : Array Slot), va_P (dC, dI) classes (wY ty ad mo_rows mo_columns mo_marks mo_letters mo_mate mo_made mo_nodes mo_sort mo_from mo_to mo_begin mo_other mo_states mo_kinds mo_nodeOf mo_steps mo_emissions mo_length mo_text mo_worked mo_values mo_hits mo_hitAt mo_hitLength mo_written mo_listState mo_listAt mo_listLength mo_stack) H → va_D A (wY ty ad mo_rows mo_columns mo_marks mo_letters mo_mate mo_made mo_nodes mo_sort mo_from mo_to mo_begin mo_other mo_states mo_kinds mo_nodeOf mo_steps mo_emissions mo_length mo_text mo_worked mo_values mo_hits mo_hitAt mo_hitLength mo_written mo_listState mo_listAt mo_listLength mo_stack) → va_S A s.heap H locs → lv_has ls 7 [(0, .ref (ad 0)), (1, .int a1), (2, .int a2), (3, .int a3), (4, .int x4_83), (5, .int x5_83)] → f_Mo_better_L83 mo_begin mo_other mo_kinds mo_nodeOf mo_values a1 a2 a3 (f_Mo_better_K83_133) n83 x4_83 x5_83 = some (r0) → W p l e rm_Mo_better s m (List.toArray [.ref (ad 0), .int a1, .int a2, .int a3]) below meth c H locs 0 0 Q (F0 m 83 ls []) := by
        intro n83
        induction n83 with
        | zero =>
          intro x4_83 x5_83 H locs ls hP hD hS hl hf
          rw [f_Mo_better_L83] at hf
          cases hf
        | succ n83 ih83 =>
          intro x4_83 x5_83 H locs ls hP hD hS hl hf
          rw [f_Mo_better_L83] at hf
          refine lv_iload hx hb d_Mo_better_83 (lv_at hl 5 rfl) ?_
          refine lv_iload_n hx hb d_Mo_better_85 rfl (lv_at hl 3 rfl) ?_
          refine lv_icmp_gt (tgt := 133) hx hb d_Mo_better_86 (by decide) (fun c9 => ?_) (fun c9 => ?_)
          · have hf := xif_t c9 hf
            exact K83_133 x4_83 x5_83 _ _ _ hP hD hS (lv_sub hl [4] rfl) hf
          · have hf := xif_f c9 hf
            refine lv_aload_n hx hb d_Mo_better_89 rfl (lv_at hl 0 rfl) ?_
            refine va_get (D := (dC, dI)) (ci := 8) (v := .ref (ad 9)) (C := R_Mo) (T := F_Mo) (N := 29) hx hb hts iw_Mo hown hK hP 0 rfl rfl 13 (by decide) (hts _ m_730) (fun _ h9 => h9) rfl d_Mo_better_90 ?_
            refine lv_iload_n hx hb d_Mo_better_93 rfl (lv_at hl 1 rfl) ?_
            obtain ⟨hi10, hf⟩ := gdi hf
            refine va_iald hx hb hK hP 9 0 rfl rfl hi10 d_Mo_better_94 ?_
            refine lv_bipush (v := 7) hx hb d_Mo_better_95 (by decide) ?_
            refine lv_icmp_ne (tgt := 133) hx hb d_Mo_better_97 (by decide) (fun c11 => ?_) (fun c11 => ?_)
            · have hf := xif_f c11 hf
              exact K83_133 x4_83 x5_83 _ _ _ hP hD hS (lv_sub hl [4] rfl) hf
            · have hf := xif_t c11 hf
              refine lv_aload_n hx hb d_Mo_better_100 rfl (lv_at hl 0 rfl) ?_
              refine lv_iload_n hx hb d_Mo_better_101 rfl (lv_at hl 1 rfl) ?_
              refine lv_iload hx hb d_Mo_better_102 (lv_at hl 5 rfl) ?_
              refine lv_iload_n hx hb d_Mo_better_104 rfl (lv_at hl 2 rfl) ?_
              refine lv_iload_n hx hb d_Mo_better_105 rfl (lv_at hl 3 rfl) ?_
              obtain ⟨r12, hc13, hf⟩ := ob1_inv hf
              refine xk_i (xrunV (C := R_Mo) (As := [.int a1, .int x5_83, .int a2, .int a3]) (rest := []) ⟨hx, hb, hml, hown, hts⟩ (c_Mo_bySplit l dC dI ty ad ta H.size mo_rows mo_columns mo_marks mo_letters mo_mate mo_made mo_nodes mo_sort mo_from mo_to mo_begin mo_other mo_states mo_kinds mo_nodeOf mo_steps mo_emissions mo_length mo_text mo_worked mo_values mo_hits mo_hitAt mo_hitLength mo_written mo_listState mo_listAt mo_listLength mo_stack a1 x5_83 a2 a3 r12 hc13) z_Mo_177 ⟨⟨rfl, rfl⟩, by decide, by decide⟩ hK hP hD hN hS hA (va_recv hK hP (ci := 8) (q0 := 0) rfl rfl) rfl hl.1 rfl (Nat.le_of_ble_eq_true rfl) d_Mo_better_106 ⟨Nat.zero_le _, Nat.zero_le _⟩) hS hD rfl hA (fun H locs hP hD hS => ?_)
              refine W.eq (g2 := F0 m 109 ls [.int r12]) rfl ?_
              refine lv_istore (lv' := [(6, .int r12), (0, .ref (ad 0)), (1, .int a1), (2, .int a2), (3, .int a3), (4, .int x4_83), (5, .int x5_83)]) hx hb d_Mo_better_109 hl (by decide) rfl (fun ls hl => ?_)
              refine lv_iload hx hb d_Mo_better_111 (lv_at hl 0 rfl) ?_
              refine lv_iload hx hb d_Mo_better_113 (lv_at hl 5 rfl) ?_
              refine lv_icmp_le (tgt := 123) hx hb d_Mo_better_115 (by decide) (fun c14 => ?_) (fun c14 => ?_)
              · have hf := xif_t c14 hf
                refine lv_iload hx hb d_Mo_better_123 (lv_at hl 5 rfl) ?_
                refine lv_istore (lv' := [(4, .int x4_83), (6, .int r12), (0, .ref (ad 0)), (1, .int a1), (2, .int a2), (3, .int a3), (5, .int x5_83)]) hx hb d_Mo_better_125 hl (by decide) rfl (fun ls hl => ?_)
                refine lv_iinc (v := (x5_83 + (1 : Int32))) (lv' := [(5, .int (x5_83 + (1 : Int32))), (4, .int x4_83), (6, .int r12), (0, .ref (ad 0)), (1, .int a1), (2, .int a2), (3, .int a3)]) hx hb d_Mo_better_127 hl (k := 6) rfl rfl (by decide) rfl (fun ls hl => ?_)
                refine lv_goto (tgt := 83) hx hb d_Mo_better_130 (by decide) ?_
                exact ih83 x4_83 (x5_83 + (1 : Int32)) _ _ _ hP hD hS (lv_sub hl [3, 4, 5, 6, 1, 0] rfl) hf
              · have hf := xif_f c14 hf
                refine lv_iload hx hb d_Mo_better_118 (lv_at hl 0 rfl) ?_
                refine lv_goto (tgt := 125) hx hb d_Mo_better_120 (by decide) ?_
                refine lv_istore (lv' := [(4, .int r12), (6, .int r12), (0, .ref (ad 0)), (1, .int a1), (2, .int a2), (3, .int a3), (5, .int x5_83)]) hx hb d_Mo_better_125 hl (by decide) rfl (fun ls hl => ?_)
                refine lv_iinc (v := (x5_83 + (1 : Int32))) (lv' := [(5, .int (x5_83 + (1 : Int32))), (4, .int r12), (6, .int r12), (0, .ref (ad 0)), (1, .int a1), (2, .int a2), (3, .int a3)]) hx hb d_Mo_better_127 hl (k := 6) rfl rfl (by decide) rfl (fun ls hl => ?_)
                refine lv_goto (tgt := 83) hx hb d_Mo_better_130 (by decide) ?_
                exact ih83 r12 (x5_83 + (1 : Int32)) _ _ _ hP hD hS (lv_sub hl [3, 4, 5, 6, 1, 0] rfl) hf
      exact L83 1000 x4_29 (0 : Int32) _ _ _ hP hD hS (lv_sub hl [1, 2, 3, 4, 5, 0] rfl) hf
    have L29 : ∀ (n29 : Nat), ∀ (x4_29 : Int32) (x5_29 : Int32) (H : Heap) (locs : List Loc) (ls : Array Slot), va_P (dC, dI) classes (wY ty ad mo_rows mo_columns mo_marks mo_letters mo_mate mo_made mo_nodes mo_sort mo_from mo_to mo_begin mo_other mo_states mo_kinds mo_nodeOf mo_steps mo_emissions mo_length mo_text mo_worked mo_values mo_hits mo_hitAt mo_hitLength mo_written mo_listState mo_listAt mo_listLength mo_stack) H → va_D A (wY ty ad mo_rows mo_columns mo_marks mo_letters mo_mate mo_made mo_nodes mo_sort mo_from mo_to mo_begin mo_other mo_states mo_kinds mo_nodeOf mo_steps mo_emissions mo_length mo_text mo_worked mo_values mo_hits mo_hitAt mo_hitLength mo_written mo_listState mo_listAt mo_listLength mo_stack) → va_S A s.heap H locs → lv_has ls 7 [(0, .ref (ad 0)), (1, .int a1), (2, .int a2), (3, .int a3), (4, .int x4_29), (5, .int x5_29)] → f_Mo_better_L29 mo_begin mo_other mo_kinds mo_nodeOf mo_steps mo_emissions mo_text mo_values a1 a2 a3 (f_Mo_better_K29_80 mo_begin mo_other mo_kinds mo_nodeOf mo_values a1 a2 a3) n29 x4_29 x5_29 = some (r0) → W p l e rm_Mo_better s m (List.toArray [.ref (ad 0), .int a1, .int a2, .int a3]) below meth c H locs 0 0 Q (F0 m 29 ls []) := by
      intro n29
      induction n29 with
      | zero =>
        intro x4_29 x5_29 H locs ls hP hD hS hl hf
        rw [f_Mo_better_L29] at hf
        cases hf
      | succ n29 ih29 =>
        intro x4_29 x5_29 H locs ls hP hD hS hl hf
        rw [f_Mo_better_L29] at hf
        refine lv_iload hx hb d_Mo_better_29 (lv_at hl 5 rfl) ?_
        refine lv_bipush (v := 8) hx hb d_Mo_better_31 (by decide) ?_
        refine lv_icmp_ge (tgt := 80) hx hb d_Mo_better_33 (by decide) (fun c3 => ?_) (fun c3 => ?_)
        · have hf := xif_t c3 hf
          exact K29_80 x4_29 x5_29 _ _ _ hP hD hS (lv_sub hl [0, 1, 2, 3, 4] rfl) hf
        · have hf := xif_f c3 hf
          refine lv_aload_n hx hb d_Mo_better_36 rfl (lv_at hl 0 rfl) ?_
          refine va_get (D := (dC, dI)) (ci := 8) (v := .ref (ad 9)) (C := R_Mo) (T := F_Mo) (N := 29) hx hb hts iw_Mo hown hK hP 0 rfl rfl 13 (by decide) (hts _ m_730) (fun _ h9 => h9) rfl d_Mo_better_37 ?_
          refine lv_iload_n hx hb d_Mo_better_40 rfl (lv_at hl 1 rfl) ?_
          obtain ⟨hi4, hf⟩ := gdi hf
          refine va_iald hx hb hK hP 9 0 rfl rfl hi4 d_Mo_better_41 ?_
          refine lv_bipush (v := 7) hx hb d_Mo_better_42 (by decide) ?_
          refine lv_icmp_eq (tgt := 80) hx hb d_Mo_better_44 (by decide) (fun c5 => ?_) (fun c5 => ?_)
          · have hf := xif_t c5 hf
            exact K29_80 x4_29 x5_29 _ _ _ hP hD hS (lv_sub hl [0, 1, 2, 3, 4] rfl) hf
          · have hf := xif_f c5 hf
            refine lv_aload_n hx hb d_Mo_better_47 rfl (lv_at hl 0 rfl) ?_
            refine lv_iload_n hx hb d_Mo_better_48 rfl (lv_at hl 1 rfl) ?_
            refine lv_iload hx hb d_Mo_better_49 (lv_at hl 5 rfl) ?_
            refine lv_iload_n hx hb d_Mo_better_51 rfl (lv_at hl 2 rfl) ?_
            refine lv_iload_n hx hb d_Mo_better_52 rfl (lv_at hl 3 rfl) ?_
            obtain ⟨r6, hc7, hf⟩ := ob1_inv hf
            refine xk_i (xrunV (C := R_Mo) (As := [.int a1, .int x5_29, .int a2, .int a3]) (rest := []) ⟨hx, hb, hml, hown, hts⟩ (c_Mo_by l dC dI ty ad ta H.size mo_rows mo_columns mo_marks mo_letters mo_mate mo_made mo_nodes mo_sort mo_from mo_to mo_begin mo_other mo_states mo_kinds mo_nodeOf mo_steps mo_emissions mo_length mo_text mo_worked mo_values mo_hits mo_hitAt mo_hitLength mo_written mo_listState mo_listAt mo_listLength mo_stack a1 x5_29 a2 a3 r6 hc7) z_Mo_174 ⟨⟨rfl, rfl⟩, by decide, by decide⟩ hK hP hD hN hS hA (va_recv hK hP (ci := 8) (q0 := 0) rfl rfl) rfl hl.1 rfl (Nat.le_of_ble_eq_true rfl) d_Mo_better_53 ⟨Nat.zero_le _, Nat.zero_le _⟩) hS hD rfl hA (fun H locs hP hD hS => ?_)
            refine W.eq (g2 := F0 m 56 ls [.int r6]) rfl ?_
            refine lv_istore (lv' := [(6, .int r6), (0, .ref (ad 0)), (1, .int a1), (2, .int a2), (3, .int a3), (4, .int x4_29), (5, .int x5_29)]) hx hb d_Mo_better_56 hl (by decide) rfl (fun ls hl => ?_)
            refine lv_iload hx hb d_Mo_better_58 (lv_at hl 0 rfl) ?_
            refine lv_iload hx hb d_Mo_better_60 (lv_at hl 5 rfl) ?_
            refine lv_icmp_le (tgt := 70) hx hb d_Mo_better_62 (by decide) (fun c8 => ?_) (fun c8 => ?_)
            · have hf := xif_t c8 hf
              refine lv_iload hx hb d_Mo_better_70 (lv_at hl 5 rfl) ?_
              refine lv_istore (lv' := [(4, .int x4_29), (6, .int r6), (0, .ref (ad 0)), (1, .int a1), (2, .int a2), (3, .int a3), (5, .int x5_29)]) hx hb d_Mo_better_72 hl (by decide) rfl (fun ls hl => ?_)
              refine lv_iinc (v := (x5_29 + (1 : Int32))) (lv' := [(5, .int (x5_29 + (1 : Int32))), (4, .int x4_29), (6, .int r6), (0, .ref (ad 0)), (1, .int a1), (2, .int a2), (3, .int a3)]) hx hb d_Mo_better_74 hl (k := 6) rfl rfl (by decide) rfl (fun ls hl => ?_)
              refine lv_goto (tgt := 29) hx hb d_Mo_better_77 (by decide) ?_
              exact ih29 x4_29 (x5_29 + (1 : Int32)) _ _ _ hP hD hS (lv_sub hl [3, 4, 5, 6, 1, 0] rfl) hf
            · have hf := xif_f c8 hf
              refine lv_iload hx hb d_Mo_better_65 (lv_at hl 0 rfl) ?_
              refine lv_goto (tgt := 72) hx hb d_Mo_better_67 (by decide) ?_
              refine lv_istore (lv' := [(4, .int r6), (6, .int r6), (0, .ref (ad 0)), (1, .int a1), (2, .int a2), (3, .int a3), (5, .int x5_29)]) hx hb d_Mo_better_72 hl (by decide) rfl (fun ls hl => ?_)
              refine lv_iinc (v := (x5_29 + (1 : Int32))) (lv' := [(5, .int (x5_29 + (1 : Int32))), (4, .int r6), (6, .int r6), (0, .ref (ad 0)), (1, .int a1), (2, .int a2), (3, .int a3)]) hx hb d_Mo_better_74 hl (k := 6) rfl rfl (by decide) rfl (fun ls hl => ?_)
              refine lv_goto (tgt := 29) hx hb d_Mo_better_77 (by decide) ?_
              exact ih29 r6 (x5_29 + (1 : Int32)) _ _ _ hP hD hS (lv_sub hl [3, 4, 5, 6, 1, 0] rfl) hf
    exact L29 1000 (-1000000 : Int32) (0 : Int32) _ _ _ hP hD hS (lv_sub hl [2, 3, 4, 5, 1, 0] rfl) hf
  · have hf := xif_t c2 hf
    refine lv_iload_n hx hb d_Mo_better_11 rfl (lv_at hl 3 rfl) ?_
    refine lv_if_ne (tgt := 19) hx hb d_Mo_better_12 (by decide) (fun c15 => ?_) (fun c15 => ?_)
    · have hf := xif_f c15 hf
      refine lv_ldc (v := -1000000) hx hb hown (hts _ m_825) d_Mo_better_19 ?_
      obtain rfl := os1 hf
      exact hret H locs _ _ _ d_Mo_better_21 rfl hP hS
    · have hf := xif_t c15 hf
      refine lv_iconst (v := 0) hx hb d_Mo_better_15 (by decide) ?_
      refine lv_goto (tgt := 21) hx hb d_Mo_better_16 (by decide) ?_
      obtain rfl := os1 hf
      exact hret H locs _ _ _ d_Mo_better_21 rfl hP hS
def f_Mo_work_J117 (x2_46 : Int32) (x3_52 : Int32) (x4_63 : Int32) (mo_values_63 : (Nat → Int32)) (rec63 : (Int32 → Int32 → (Nat → Int32) → Option (Int32 × (Nat → Int32)))) (r9 : Int32) (t0_117 : Int32) : Option (Int32 × (Nat → Int32)) := ob1 (f_Mo_cell x2_46 x3_52 x4_63) (fun r11 => gd (xin r11 15600) (rec63 t0_117 (x4_63 + (1 : Int32)) (upd mo_values_63 (Int32.toNatClampNeg r11) r9)))
def f_Mo_work_J112 (x2_46 : Int32) (x3_52 : Int32) (x4_63 : Int32) (mo_values_63 : (Nat → Int32)) (rec63 : (Int32 → Int32 → (Nat → Int32) → Option (Int32 × (Nat → Int32)))) (r9 : Int32)  : Option (Int32 × (Nat → Int32)) := f_Mo_work_J117 x2_46 x3_52 x4_63 mo_values_63 rec63 r9 (1 : Int32)
def f_Mo_work_K63_138 (x3_52 : Int32) (rec52 : (Int32 → Int32 → (Nat → Int32) → Option (Int32 × (Nat → Int32)))) (x1_63 : Int32) (x4_63 : Int32) (mo_values_63 : (Nat → Int32)) : Option (Int32 × (Nat → Int32)) := rec52 x1_63 (x3_52 + (1 : Int32)) mo_values_63
def f_Mo_work_L63 (mo_begin : (Nat → Int32)) (mo_other : (Nat → Int32)) (mo_kinds : (Nat → Int32)) (mo_nodeOf : (Nat → Int32)) (mo_steps : (Nat → Int32)) (mo_emissions : (Nat → Int32)) (mo_length : Int32) (mo_text : (Nat → Int32)) (x2_46 : Int32) (x3_52 : Int32) (k63_138 : (Int32 → Int32 → (Nat → Int32) → Option (Int32 × (Nat → Int32)))) : Nat → Int32 → Int32 → (Nat → Int32) → Option (Int32 × (Nat → Int32))
  | 0, _, _, _ => none
  | n63 + 1, x1_63, x4_63, mo_values_63 => if (12 : Int32) < x4_63 then (k63_138 x1_63 x4_63 mo_values_63) else (if mo_length < (x3_52 + x4_63) then (k63_138 x1_63 x4_63 mo_values_63) else (ob1 (f_Mo_better mo_begin mo_other mo_kinds mo_nodeOf mo_steps mo_emissions mo_text mo_values_63 x2_46 x3_52 x4_63) (fun r9 => if x1_63 = (0 : Int32) then (ob1 (f_Mo_cell x2_46 x3_52 x4_63) (fun r15 => gd (xin r15 15600) (if r9 ≤ (mo_values_63 (Int32.toNatClampNeg r15)) then (f_Mo_work_J117 x2_46 x3_52 x4_63 mo_values_63 (f_Mo_work_L63 mo_begin mo_other mo_kinds mo_nodeOf mo_steps mo_emissions mo_length mo_text x2_46 x3_52 k63_138 n63) r9 (0 : Int32)) else (f_Mo_work_J112 x2_46 x3_52 x4_63 mo_values_63 (f_Mo_work_L63 mo_begin mo_other mo_kinds mo_nodeOf mo_steps mo_emissions mo_length mo_text x2_46 x3_52 k63_138 n63) r9)))) else (f_Mo_work_J112 x2_46 x3_52 x4_63 mo_values_63 (f_Mo_work_L63 mo_begin mo_other mo_kinds mo_nodeOf mo_steps mo_emissions mo_length mo_text x2_46 x3_52 k63_138 n63) r9))))
def f_Mo_work_K52_144 (x2_46 : Int32) (rec46 : (Int32 → Int32 → (Nat → Int32) → Option (Int32 × (Nat → Int32)))) (x1_52 : Int32) (x3_52 : Int32) (mo_values_52 : (Nat → Int32)) : Option (Int32 × (Nat → Int32)) := rec46 x1_52 (x2_46 + (-1 : Int32)) mo_values_52
def f_Mo_work_L52 (mo_begin : (Nat → Int32)) (mo_other : (Nat → Int32)) (mo_kinds : (Nat → Int32)) (mo_nodeOf : (Nat → Int32)) (mo_steps : (Nat → Int32)) (mo_emissions : (Nat → Int32)) (mo_length : Int32) (mo_text : (Nat → Int32)) (x2_46 : Int32) (k52_144 : (Int32 → Int32 → (Nat → Int32) → Option (Int32 × (Nat → Int32)))) : Nat → Int32 → Int32 → (Nat → Int32) → Option (Int32 × (Nat → Int32))
  | 0, _, _, _ => none
  | n52 + 1, x1_52, x3_52, mo_values_52 => if mo_length < x3_52 then (k52_144 x1_52 x3_52 mo_values_52) else (f_Mo_work_L63 mo_begin mo_other mo_kinds mo_nodeOf mo_steps mo_emissions mo_length mo_text x2_46 x3_52 (f_Mo_work_K63_138 x3_52 (f_Mo_work_L52 mo_begin mo_other mo_kinds mo_nodeOf mo_steps mo_emissions mo_length mo_text x2_46 k52_144 n52)) 1000 x1_52 (0 : Int32) mo_values_52)
def f_Mo_work_K46_150 (rec33 : (Int32 → (Nat → Int32) → Option (Int32 × (Nat → Int32)))) (x1_46 : Int32) (x2_46 : Int32) (mo_values_46 : (Nat → Int32)) : Option (Int32 × (Nat → Int32)) := rec33 x1_46 mo_values_46
def f_Mo_work_L46 (mo_begin : (Nat → Int32)) (mo_other : (Nat → Int32)) (mo_kinds : (Nat → Int32)) (mo_nodeOf : (Nat → Int32)) (mo_steps : (Nat → Int32)) (mo_emissions : (Nat → Int32)) (mo_length : Int32) (mo_text : (Nat → Int32)) (k46_150 : (Int32 → Int32 → (Nat → Int32) → Option (Int32 × (Nat → Int32)))) : Nat → Int32 → Int32 → (Nat → Int32) → Option (Int32 × (Nat → Int32))
  | 0, _, _, _ => none
  | n46 + 1, x1_46, x2_46, mo_values_46 => if x2_46 < (0 : Int32) then (k46_150 x1_46 x2_46 mo_values_46) else (f_Mo_work_L52 mo_begin mo_other mo_kinds mo_nodeOf mo_steps mo_emissions mo_length mo_text x2_46 (f_Mo_work_K52_144 x2_46 (f_Mo_work_L46 mo_begin mo_other mo_kinds mo_nodeOf mo_steps mo_emissions mo_length mo_text k46_150 n46)) 1000 x1_46 (0 : Int32) mo_values_46)
def f_Mo_work_K33_153  (x1_33 : Int32) (mo_values_33 : (Nat → Int32)) : Option (Int32 × (Nat → Int32)) := some ((1 : Int32), mo_values_33)
def f_Mo_work_L33 (mo_begin : (Nat → Int32)) (mo_other : (Nat → Int32)) (mo_states : Int32) (mo_kinds : (Nat → Int32)) (mo_nodeOf : (Nat → Int32)) (mo_steps : (Nat → Int32)) (mo_emissions : (Nat → Int32)) (mo_length : Int32) (mo_text : (Nat → Int32)) (k33_153 : (Int32 → (Nat → Int32) → Option (Int32 × (Nat → Int32)))) : Nat → Int32 → (Nat → Int32) → Option (Int32 × (Nat → Int32))
  | 0, _, _ => none
  | n33 + 1, x1_33, mo_values_33 => if x1_33 = (0 : Int32) then (k33_153 x1_33 mo_values_33) else (f_Mo_work_L46 mo_begin mo_other mo_kinds mo_nodeOf mo_steps mo_emissions mo_length mo_text (f_Mo_work_K46_150 (f_Mo_work_L33 mo_begin mo_other mo_states mo_kinds mo_nodeOf mo_steps mo_emissions mo_length mo_text k33_153 n33)) 1000 (0 : Int32) (mo_states - (1 : Int32)) mo_values_33)
def f_Mo_work_K10_31 (mo_begin : (Nat → Int32)) (mo_other : (Nat → Int32)) (mo_states : Int32) (mo_kinds : (Nat → Int32)) (mo_nodeOf : (Nat → Int32)) (mo_steps : (Nat → Int32)) (mo_emissions : (Nat → Int32)) (mo_length : Int32) (mo_text : (Nat → Int32)) (x1_10 : Int32) (mo_values_10 : (Nat → Int32)) : Option (Int32 × (Nat → Int32)) := f_Mo_work_L33 mo_begin mo_other mo_states mo_kinds mo_nodeOf mo_steps mo_emissions mo_length mo_text (f_Mo_work_K33_153) 1000 (1 : Int32) mo_values_10
def f_Mo_work_L10 (k10_31 : (Int32 → (Nat → Int32) → Option (Int32 × (Nat → Int32)))) : Nat → Int32 → (Nat → Int32) → Option (Int32 × (Nat → Int32))
  | 0, _, _ => none
  | n10 + 1, x1_10, mo_values_10 => if (15600 : Int32) ≤ x1_10 then (k10_31 x1_10 mo_values_10) else (gd (xin x1_10 15600) ((f_Mo_work_L10 k10_31 n10) (x1_10 + (1 : Int32)) (upd mo_values_10 (Int32.toNatClampNeg x1_10) (-1000000 : Int32))))
def f_Mo_work (mo_begin : (Nat → Int32)) (mo_other : (Nat → Int32)) (mo_states : Int32) (mo_kinds : (Nat → Int32)) (mo_nodeOf : (Nat → Int32)) (mo_steps : (Nat → Int32)) (mo_emissions : (Nat → Int32)) (mo_length : Int32) (mo_text : (Nat → Int32)) (mo_worked : Int32) (mo_values : (Nat → Int32)) : Option (Int32 × (Nat → Int32)) := if mo_worked = (0 : Int32) then (f_Mo_work_L10 (f_Mo_work_K10_31 mo_begin mo_other mo_states mo_kinds mo_nodeOf mo_steps mo_emissions mo_length mo_text) 16000 (0 : Int32) mo_values) else (some (mo_worked, mo_values))
set_option maxHeartbeats 4000000 in
set_option maxRecDepth 100000 in
theorem c_Mo_work (l : Launch) (dC : Nat → ClassId) (dI : Nat → Nat → Nat) (ty : Nat → ClassId) (ad : Nat → Nat) (ta : Nat → Nat) (sz : Nat) (mo_rows : Int32) (mo_columns : Int32) (mo_marks : (Nat → Int32)) (mo_letters : (Nat → Int32)) (mo_mate : (Nat → Int32)) (mo_made : Int32) (mo_nodes : Int32) (mo_sort : (Nat → Int32)) (mo_from : (Nat → Int32)) (mo_to : (Nat → Int32)) (mo_begin : (Nat → Int32)) (mo_other : (Nat → Int32)) (mo_states : Int32) (mo_kinds : (Nat → Int32)) (mo_nodeOf : (Nat → Int32)) (mo_steps : (Nat → Int32)) (mo_emissions : (Nat → Int32)) (mo_length : Int32) (mo_text : (Nat → Int32)) (mo_worked : Int32) (mo_values : (Nat → Int32)) (mo_hits : Int32) (mo_hitAt : (Nat → Int32)) (mo_hitLength : (Nat → Int32)) (mo_written : Int32) (mo_listState : (Nat → Int32)) (mo_listAt : (Nat → Int32)) (mo_listLength : (Nat → Int32)) (mo_stack : (Nat → Int32))  (n_mo_worked : Int32) (n_mo_values : (Nat → Int32)) (hf : f_Mo_work mo_begin mo_other mo_states mo_kinds mo_nodeOf mo_steps mo_emissions mo_length mo_text mo_worked mo_values = some (n_mo_worked, n_mo_values)) : Met l y_Mo_work (.code y_Mo_work prog_10_method_37_code 6 none :: gw) rm_Mo_work (xPre ta (dC, dI) classes (tys3 ty) (wY ty ad mo_rows mo_columns mo_marks mo_letters mo_mate mo_made mo_nodes mo_sort mo_from mo_to mo_begin mo_other mo_states mo_kinds mo_nodeOf mo_steps mo_emissions mo_length mo_text mo_worked mo_values mo_hits mo_hitAt mo_hitLength mo_written mo_listState mo_listAt mo_listLength mo_stack) sz [.ref (ad 0)]) (xQv (dC, dI) classes (wY ty ad mo_rows mo_columns mo_marks mo_letters mo_mate mo_made mo_nodes mo_sort mo_from mo_to mo_begin mo_other mo_states mo_kinds mo_nodeOf mo_steps mo_emissions mo_length mo_text mo_worked mo_values mo_hits mo_hitAt mo_hitLength mo_written mo_listState mo_listAt mo_listLength mo_stack) (wY ty ad mo_rows mo_columns mo_marks mo_letters mo_mate mo_made mo_nodes mo_sort mo_from mo_to mo_begin mo_other mo_states mo_kinds mo_nodeOf mo_steps mo_emissions mo_length mo_text n_mo_worked n_mo_values mo_hits mo_hitAt mo_hitLength mo_written mo_listState mo_listAt mo_listLength mo_stack) sz) 0 0 (va_A (wY ty ad mo_rows mo_columns mo_marks mo_letters mo_mate mo_made mo_nodes mo_sort mo_from mo_to mo_begin mo_other mo_states mo_kinds mo_nodeOf mo_steps mo_emissions mo_length mo_text mo_worked mo_values mo_hits mo_hitAt mo_hitLength mo_written mo_listState mo_listAt mo_listLength mo_stack) sz) := by
  refine xmet_v rfl (Nat.le_of_ble_eq_true rfl) ?_
  intro p e s m below meth c A ls Q hx hb hml hts hown hK hN hA hP hD hS hl hret
  replace hown : s.vm.findClass R_Mo = some m.cls := hown
  have hl : lv_has ls 6 [(0, .ref (ad 0))] := hl
  rw [f_Mo_work] at hf
  obtain ⟨H, eH⟩ : ∃ H : Heap, H = s.heap := ⟨_, rfl⟩
  obtain ⟨locs, eL⟩ : ∃ L : List Loc, L = [] := ⟨_, rfl⟩
  have hP : va_P (dC, dI) classes (wY ty ad mo_rows mo_columns mo_marks mo_letters mo_mate mo_made mo_nodes mo_sort mo_from mo_to mo_begin mo_other mo_states mo_kinds mo_nodeOf mo_steps mo_emissions mo_length mo_text mo_worked mo_values mo_hits mo_hitAt mo_hitLength mo_written mo_listState mo_listAt mo_listLength mo_stack) H := by rw [eH]; exact hP
  have hS : va_S A s.heap H locs := by rw [eH, eL]; exact hS
  rw [← eL]
  suffices hgoal : W p l e rm_Mo_work s m (List.toArray [.ref (ad 0)]) below meth c H locs 0 0 Q (F0 m 0 ls []) by rw [eH] at hgoal; exact hgoal
  clear eH eL
  refine lv_aload_n hx hb d_Mo_work_0 rfl (lv_at hl 0 rfl) ?_
  refine va_get (D := (dC, dI)) (ci := 8) (v := .int mo_worked) (C := R_Mo) (T := F_Mo) (N := 29) hx hb hts iw_Mo hown hK hP 0 rfl rfl 19 (by decide) (hts _ m_736) (fun _ h9 => h9) rfl d_Mo_work_1 ?_
  refine lv_if_eq (tgt := 8) hx hb d_Mo_work_4 (by decide) (fun c1 => ?_) (fun c1 => ?_)
  · have hf := xif_t c1 hf
    refine lv_iconst (v := 0) hx hb d_Mo_work_8 (by decide) ?_
    refine lv_istore_n (lv' := [(1, .int (0 : Int32)), (0, .ref (ad 0))]) hx hb d_Mo_work_9 rfl hl (by decide) rfl (fun ls hl => ?_)
    have K10_31 : ∀ (x1_10 : Int32) (mo_values_10 : (Nat → Int32)) (H : Heap) (locs : List Loc) (ls : Array Slot), va_P (dC, dI) classes (wY ty ad mo_rows mo_columns mo_marks mo_letters mo_mate mo_made mo_nodes mo_sort mo_from mo_to mo_begin mo_other mo_states mo_kinds mo_nodeOf mo_steps mo_emissions mo_length mo_text mo_worked mo_values_10 mo_hits mo_hitAt mo_hitLength mo_written mo_listState mo_listAt mo_listLength mo_stack) H → va_D A (wY ty ad mo_rows mo_columns mo_marks mo_letters mo_mate mo_made mo_nodes mo_sort mo_from mo_to mo_begin mo_other mo_states mo_kinds mo_nodeOf mo_steps mo_emissions mo_length mo_text mo_worked mo_values_10 mo_hits mo_hitAt mo_hitLength mo_written mo_listState mo_listAt mo_listLength mo_stack) → va_S A s.heap H locs → lv_has ls 6 [(0, .ref (ad 0))] → f_Mo_work_K10_31 mo_begin mo_other mo_states mo_kinds mo_nodeOf mo_steps mo_emissions mo_length mo_text x1_10 mo_values_10 = some (n_mo_worked, n_mo_values) → W p l e rm_Mo_work s m (List.toArray [.ref (ad 0)]) below meth c H locs 0 0 Q (F0 m 31 ls []) := by
      intro x1_10 mo_values_10 H locs ls hP hD hS hl hf
      rw [f_Mo_work_K10_31] at hf
      refine lv_iconst (v := 1) hx hb d_Mo_work_31 (by decide) ?_
      refine lv_istore_n (lv' := [(1, .int (1 : Int32)), (0, .ref (ad 0))]) hx hb d_Mo_work_32 rfl hl (by decide) rfl (fun ls hl => ?_)
      have K33_153 : ∀ (x1_33 : Int32) (mo_values_33 : (Nat → Int32)) (H : Heap) (locs : List Loc) (ls : Array Slot), va_P (dC, dI) classes (wY ty ad mo_rows mo_columns mo_marks mo_letters mo_mate mo_made mo_nodes mo_sort mo_from mo_to mo_begin mo_other mo_states mo_kinds mo_nodeOf mo_steps mo_emissions mo_length mo_text mo_worked mo_values_33 mo_hits mo_hitAt mo_hitLength mo_written mo_listState mo_listAt mo_listLength mo_stack) H → va_D A (wY ty ad mo_rows mo_columns mo_marks mo_letters mo_mate mo_made mo_nodes mo_sort mo_from mo_to mo_begin mo_other mo_states mo_kinds mo_nodeOf mo_steps mo_emissions mo_length mo_text mo_worked mo_values_33 mo_hits mo_hitAt mo_hitLength mo_written mo_listState mo_listAt mo_listLength mo_stack) → va_S A s.heap H locs → lv_has ls 6 [(0, .ref (ad 0))] → f_Mo_work_K33_153 x1_33 mo_values_33 = some (n_mo_worked, n_mo_values) → W p l e rm_Mo_work s m (List.toArray [.ref (ad 0)]) below meth c H locs 0 0 Q (F0 m 153 ls []) := by
        intro x1_33 mo_values_33 H locs ls hP hD hS hl hf
        rw [f_Mo_work_K33_153] at hf
        refine lv_aload_n hx hb d_Mo_work_153 rfl (lv_at hl 0 rfl) ?_
        refine lv_iconst (v := 1) hx hb d_Mo_work_154 (by decide) ?_
        refine va_put (D := (dC, dI)) (ci := 8) (v := .int (1 : Int32)) (ty := .boolean) (C := R_Mo) (T := F_Mo) (N := 29) hx hb hts iw_Mo t_Mo t_Mo_ok n_Mo hown hK hP hD hS 0 rfl rfl 19 (by decide) (hts _ m_736) (fun _ h9 => h9) rfl (by decide +kernel) rfl rfl (Nat.le_of_ble_eq_true rfl) d_Mo_work_155 (fun H locs hP hD hS => ?_)
        have hP : va_P (dC, dI) classes (wY ty ad mo_rows mo_columns mo_marks mo_letters mo_mate mo_made mo_nodes mo_sort mo_from mo_to mo_begin mo_other mo_states mo_kinds mo_nodeOf mo_steps mo_emissions mo_length mo_text (1 : Int32) mo_values_33 mo_hits mo_hitAt mo_hitLength mo_written mo_listState mo_listAt mo_listLength mo_stack) H := hP
        have hD : va_D A (wY ty ad mo_rows mo_columns mo_marks mo_letters mo_mate mo_made mo_nodes mo_sort mo_from mo_to mo_begin mo_other mo_states mo_kinds mo_nodeOf mo_steps mo_emissions mo_length mo_text (1 : Int32) mo_values_33 mo_hits mo_hitAt mo_hitLength mo_written mo_listState mo_listAt mo_listLength mo_stack) := hD
        obtain ⟨rfl, rfl⟩ := os2 hf
        exact hret H locs _ _ d_Mo_work_158 hP hS
      have L33 : ∀ (n33 : Nat), ∀ (x1_33 : Int32) (mo_values_33 : (Nat → Int32)) (H : Heap) (locs : List Loc) (ls : Array Slot), va_P (dC, dI) classes (wY ty ad mo_rows mo_columns mo_marks mo_letters mo_mate mo_made mo_nodes mo_sort mo_from mo_to mo_begin mo_other mo_states mo_kinds mo_nodeOf mo_steps mo_emissions mo_length mo_text mo_worked mo_values_33 mo_hits mo_hitAt mo_hitLength mo_written mo_listState mo_listAt mo_listLength mo_stack) H → va_D A (wY ty ad mo_rows mo_columns mo_marks mo_letters mo_mate mo_made mo_nodes mo_sort mo_from mo_to mo_begin mo_other mo_states mo_kinds mo_nodeOf mo_steps mo_emissions mo_length mo_text mo_worked mo_values_33 mo_hits mo_hitAt mo_hitLength mo_written mo_listState mo_listAt mo_listLength mo_stack) → va_S A s.heap H locs → lv_has ls 6 [(0, .ref (ad 0)), (1, .int x1_33)] → f_Mo_work_L33 mo_begin mo_other mo_states mo_kinds mo_nodeOf mo_steps mo_emissions mo_length mo_text (f_Mo_work_K33_153) n33 x1_33 mo_values_33 = some (n_mo_worked, n_mo_values) → W p l e rm_Mo_work s m (List.toArray [.ref (ad 0)]) below meth c H locs 0 0 Q (F0 m 33 ls []) := by
        intro n33
        induction n33 with
        | zero =>
          intro x1_33 mo_values_33 H locs ls hP hD hS hl hf
          rw [f_Mo_work_L33] at hf
          cases hf
        | succ n33 ih33 =>
          intro x1_33 mo_values_33 H locs ls hP hD hS hl hf
          rw [f_Mo_work_L33] at hf
          refine lv_iload_n hx hb d_Mo_work_33 rfl (lv_at hl 1 rfl) ?_
          refine lv_if_eq (tgt := 153) hx hb d_Mo_work_34 (by decide) (fun c4 => ?_) (fun c4 => ?_)
          · have hf := xif_t c4 hf
            exact K33_153 x1_33 mo_values_33 _ _ _ hP hD hS (lv_sub hl [0] rfl) hf
          · have hf := xif_f c4 hf
            refine lv_iconst (v := 0) hx hb d_Mo_work_37 (by decide) ?_
            refine lv_istore_n (lv' := [(1, .int (0 : Int32)), (0, .ref (ad 0))]) hx hb d_Mo_work_38 rfl hl (by decide) rfl (fun ls hl => ?_)
            refine lv_aload_n hx hb d_Mo_work_39 rfl (lv_at hl 1 rfl) ?_
            refine va_get (D := (dC, dI)) (ci := 8) (v := .int mo_states) (C := R_Mo) (T := F_Mo) (N := 29) hx hb hts iw_Mo hown hK hP 0 rfl rfl 12 (by decide) (hts _ m_729) (fun _ h9 => h9) rfl d_Mo_work_40 ?_
            refine lv_iconst (v := 1) hx hb d_Mo_work_43 (by decide) ?_
            refine lv_isub hx hb d_Mo_work_44 ?_
            refine lv_istore_n (lv' := [(2, .int (mo_states - (1 : Int32))), (1, .int (0 : Int32)), (0, .ref (ad 0))]) hx hb d_Mo_work_45 rfl hl (by decide) rfl (fun ls hl => ?_)
            have K46_150 : ∀ (x1_46 : Int32) (x2_46 : Int32) (mo_values_46 : (Nat → Int32)) (H : Heap) (locs : List Loc) (ls : Array Slot), va_P (dC, dI) classes (wY ty ad mo_rows mo_columns mo_marks mo_letters mo_mate mo_made mo_nodes mo_sort mo_from mo_to mo_begin mo_other mo_states mo_kinds mo_nodeOf mo_steps mo_emissions mo_length mo_text mo_worked mo_values_46 mo_hits mo_hitAt mo_hitLength mo_written mo_listState mo_listAt mo_listLength mo_stack) H → va_D A (wY ty ad mo_rows mo_columns mo_marks mo_letters mo_mate mo_made mo_nodes mo_sort mo_from mo_to mo_begin mo_other mo_states mo_kinds mo_nodeOf mo_steps mo_emissions mo_length mo_text mo_worked mo_values_46 mo_hits mo_hitAt mo_hitLength mo_written mo_listState mo_listAt mo_listLength mo_stack) → va_S A s.heap H locs → lv_has ls 6 [(0, .ref (ad 0)), (1, .int x1_46)] → f_Mo_work_K46_150 (f_Mo_work_L33 mo_begin mo_other mo_states mo_kinds mo_nodeOf mo_steps mo_emissions mo_length mo_text (f_Mo_work_K33_153) n33) x1_46 x2_46 mo_values_46 = some (n_mo_worked, n_mo_values) → W p l e rm_Mo_work s m (List.toArray [.ref (ad 0)]) below meth c H locs 0 0 Q (F0 m 150 ls []) := by
              intro x1_46 x2_46 mo_values_46 H locs ls hP hD hS hl hf
              rw [f_Mo_work_K46_150] at hf
              refine lv_goto (tgt := 33) hx hb d_Mo_work_150 (by decide) ?_
              exact ih33 x1_46 mo_values_46 _ _ _ hP hD hS (lv_sub hl [0, 1] rfl) hf
            have L46 : ∀ (n46 : Nat), ∀ (x1_46 : Int32) (x2_46 : Int32) (mo_values_46 : (Nat → Int32)) (H : Heap) (locs : List Loc) (ls : Array Slot), va_P (dC, dI) classes (wY ty ad mo_rows mo_columns mo_marks mo_letters mo_mate mo_made mo_nodes mo_sort mo_from mo_to mo_begin mo_other mo_states mo_kinds mo_nodeOf mo_steps mo_emissions mo_length mo_text mo_worked mo_values_46 mo_hits mo_hitAt mo_hitLength mo_written mo_listState mo_listAt mo_listLength mo_stack) H → va_D A (wY ty ad mo_rows mo_columns mo_marks mo_letters mo_mate mo_made mo_nodes mo_sort mo_from mo_to mo_begin mo_other mo_states mo_kinds mo_nodeOf mo_steps mo_emissions mo_length mo_text mo_worked mo_values_46 mo_hits mo_hitAt mo_hitLength mo_written mo_listState mo_listAt mo_listLength mo_stack) → va_S A s.heap H locs → lv_has ls 6 [(0, .ref (ad 0)), (1, .int x1_46), (2, .int x2_46)] → f_Mo_work_L46 mo_begin mo_other mo_kinds mo_nodeOf mo_steps mo_emissions mo_length mo_text (f_Mo_work_K46_150 (f_Mo_work_L33 mo_begin mo_other mo_states mo_kinds mo_nodeOf mo_steps mo_emissions mo_length mo_text (f_Mo_work_K33_153) n33)) n46 x1_46 x2_46 mo_values_46 = some (n_mo_worked, n_mo_values) → W p l e rm_Mo_work s m (List.toArray [.ref (ad 0)]) below meth c H locs 0 0 Q (F0 m 46 ls []) := by
              intro n46
              induction n46 with
              | zero =>
                intro x1_46 x2_46 mo_values_46 H locs ls hP hD hS hl hf
                rw [f_Mo_work_L46] at hf
                cases hf
              | succ n46 ih46 =>
                intro x1_46 x2_46 mo_values_46 H locs ls hP hD hS hl hf
                rw [f_Mo_work_L46] at hf
                refine lv_iload_n hx hb d_Mo_work_46 rfl (lv_at hl 2 rfl) ?_
                refine lv_if_lt (tgt := 150) hx hb d_Mo_work_47 (by decide) (fun c5 => ?_) (fun c5 => ?_)
                · have hf := xif_t c5 hf
                  exact K46_150 x1_46 x2_46 mo_values_46 _ _ _ hP hD hS (lv_sub hl [0, 1] rfl) hf
                · have hf := xif_f c5 hf
                  refine lv_iconst (v := 0) hx hb d_Mo_work_50 (by decide) ?_
                  refine lv_istore_n (lv' := [(3, .int (0 : Int32)), (0, .ref (ad 0)), (1, .int x1_46), (2, .int x2_46)]) hx hb d_Mo_work_51 rfl hl (by decide) rfl (fun ls hl => ?_)
                  have K52_144 : ∀ (x1_52 : Int32) (x3_52 : Int32) (mo_values_52 : (Nat → Int32)) (H : Heap) (locs : List Loc) (ls : Array Slot), va_P (dC, dI) classes (wY ty ad mo_rows mo_columns mo_marks mo_letters mo_mate mo_made mo_nodes mo_sort mo_from mo_to mo_begin mo_other mo_states mo_kinds mo_nodeOf mo_steps mo_emissions mo_length mo_text mo_worked mo_values_52 mo_hits mo_hitAt mo_hitLength mo_written mo_listState mo_listAt mo_listLength mo_stack) H → va_D A (wY ty ad mo_rows mo_columns mo_marks mo_letters mo_mate mo_made mo_nodes mo_sort mo_from mo_to mo_begin mo_other mo_states mo_kinds mo_nodeOf mo_steps mo_emissions mo_length mo_text mo_worked mo_values_52 mo_hits mo_hitAt mo_hitLength mo_written mo_listState mo_listAt mo_listLength mo_stack) → va_S A s.heap H locs → lv_has ls 6 [(0, .ref (ad 0)), (1, .int x1_52), (2, .int x2_46)] → f_Mo_work_K52_144 x2_46 (f_Mo_work_L46 mo_begin mo_other mo_kinds mo_nodeOf mo_steps mo_emissions mo_length mo_text (f_Mo_work_K46_150 (f_Mo_work_L33 mo_begin mo_other mo_states mo_kinds mo_nodeOf mo_steps mo_emissions mo_length mo_text (f_Mo_work_K33_153) n33)) n46) x1_52 x3_52 mo_values_52 = some (n_mo_worked, n_mo_values) → W p l e rm_Mo_work s m (List.toArray [.ref (ad 0)]) below meth c H locs 0 0 Q (F0 m 144 ls []) := by
                    intro x1_52 x3_52 mo_values_52 H locs ls hP hD hS hl hf
                    rw [f_Mo_work_K52_144] at hf
                    refine lv_iinc (v := (x2_46 + (-1 : Int32))) (lv' := [(2, .int (x2_46 + (-1 : Int32))), (0, .ref (ad 0)), (1, .int x1_52)]) hx hb d_Mo_work_144 hl (k := 2) rfl rfl (by decide) rfl (fun ls hl => ?_)
                    refine lv_goto (tgt := 46) hx hb d_Mo_work_147 (by decide) ?_
                    exact ih46 x1_52 (x2_46 + (-1 : Int32)) mo_values_52 _ _ _ hP hD hS (lv_sub hl [1, 2, 0] rfl) hf
                  have L52 : ∀ (n52 : Nat), ∀ (x1_52 : Int32) (x3_52 : Int32) (mo_values_52 : (Nat → Int32)) (H : Heap) (locs : List Loc) (ls : Array Slot), va_P (dC, dI) classes (wY ty ad mo_rows mo_columns mo_marks mo_letters mo_mate mo_made mo_nodes mo_sort mo_from mo_to mo_begin mo_other mo_states mo_kinds mo_nodeOf mo_steps mo_emissions mo_length mo_text mo_worked mo_values_52 mo_hits mo_hitAt mo_hitLength mo_written mo_listState mo_listAt mo_listLength mo_stack) H → va_D A (wY ty ad mo_rows mo_columns mo_marks mo_letters mo_mate mo_made mo_nodes mo_sort mo_from mo_to mo_begin mo_other mo_states mo_kinds mo_nodeOf mo_steps mo_emissions mo_length mo_text mo_worked mo_values_52 mo_hits mo_hitAt mo_hitLength mo_written mo_listState mo_listAt mo_listLength mo_stack) → va_S A s.heap H locs → lv_has ls 6 [(0, .ref (ad 0)), (1, .int x1_52), (2, .int x2_46), (3, .int x3_52)] → f_Mo_work_L52 mo_begin mo_other mo_kinds mo_nodeOf mo_steps mo_emissions mo_length mo_text x2_46 (f_Mo_work_K52_144 x2_46 (f_Mo_work_L46 mo_begin mo_other mo_kinds mo_nodeOf mo_steps mo_emissions mo_length mo_text (f_Mo_work_K46_150 (f_Mo_work_L33 mo_begin mo_other mo_states mo_kinds mo_nodeOf mo_steps mo_emissions mo_length mo_text (f_Mo_work_K33_153) n33)) n46)) n52 x1_52 x3_52 mo_values_52 = some (n_mo_worked, n_mo_values) → W p l e rm_Mo_work s m (List.toArray [.ref (ad 0)]) below meth c H locs 0 0 Q (F0 m 52 ls []) := by
                    intro n52
                    induction n52 with
                    | zero =>
                      intro x1_52 x3_52 mo_values_52 H locs ls hP hD hS hl hf
                      rw [f_Mo_work_L52] at hf
                      cases hf
                    | succ n52 ih52 =>
                      intro x1_52 x3_52 mo_values_52 H locs ls hP hD hS hl hf
                      rw [f_Mo_work_L52] at hf
                      refine lv_iload_n hx hb d_Mo_work_52 rfl (lv_at hl 3 rfl) ?_
                      refine lv_aload_n hx hb d_Mo_work_53 rfl (lv_at hl 0 rfl) ?_
                      refine va_get (D := (dC, dI)) (ci := 8) (v := .int mo_length) (C := R_Mo) (T := F_Mo) (N := 29) hx hb hts iw_Mo hown hK hP 0 rfl rfl 17 (by decide) (hts _ m_734) (fun _ h9 => h9) rfl d_Mo_work_54 ?_
                      refine lv_icmp_gt (tgt := 144) hx hb d_Mo_work_57 (by decide) (fun c6 => ?_) (fun c6 => ?_)
                      · have hf := xif_t c6 hf
                        exact K52_144 x1_52 x3_52 mo_values_52 _ _ _ hP hD hS (lv_sub hl [0, 1, 2] rfl) hf
                      · have hf := xif_f c6 hf
                        refine lv_iconst (v := 0) hx hb d_Mo_work_60 (by decide) ?_
                        refine lv_istore (lv' := [(4, .int (0 : Int32)), (0, .ref (ad 0)), (1, .int x1_52), (2, .int x2_46), (3, .int x3_52)]) hx hb d_Mo_work_61 hl (by decide) rfl (fun ls hl => ?_)
                        have K63_138 : ∀ (x1_63 : Int32) (x4_63 : Int32) (mo_values_63 : (Nat → Int32)) (H : Heap) (locs : List Loc) (ls : Array Slot), va_P (dC, dI) classes (wY ty ad mo_rows mo_columns mo_marks mo_letters mo_mate mo_made mo_nodes mo_sort mo_from mo_to mo_begin mo_other mo_states mo_kinds mo_nodeOf mo_steps mo_emissions mo_length mo_text mo_worked mo_values_63 mo_hits mo_hitAt mo_hitLength mo_written mo_listState mo_listAt mo_listLength mo_stack) H → va_D A (wY ty ad mo_rows mo_columns mo_marks mo_letters mo_mate mo_made mo_nodes mo_sort mo_from mo_to mo_begin mo_other mo_states mo_kinds mo_nodeOf mo_steps mo_emissions mo_length mo_text mo_worked mo_values_63 mo_hits mo_hitAt mo_hitLength mo_written mo_listState mo_listAt mo_listLength mo_stack) → va_S A s.heap H locs → lv_has ls 6 [(0, .ref (ad 0)), (1, .int x1_63), (2, .int x2_46), (3, .int x3_52)] → f_Mo_work_K63_138 x3_52 (f_Mo_work_L52 mo_begin mo_other mo_kinds mo_nodeOf mo_steps mo_emissions mo_length mo_text x2_46 (f_Mo_work_K52_144 x2_46 (f_Mo_work_L46 mo_begin mo_other mo_kinds mo_nodeOf mo_steps mo_emissions mo_length mo_text (f_Mo_work_K46_150 (f_Mo_work_L33 mo_begin mo_other mo_states mo_kinds mo_nodeOf mo_steps mo_emissions mo_length mo_text (f_Mo_work_K33_153) n33)) n46)) n52) x1_63 x4_63 mo_values_63 = some (n_mo_worked, n_mo_values) → W p l e rm_Mo_work s m (List.toArray [.ref (ad 0)]) below meth c H locs 0 0 Q (F0 m 138 ls []) := by
                          intro x1_63 x4_63 mo_values_63 H locs ls hP hD hS hl hf
                          rw [f_Mo_work_K63_138] at hf
                          refine lv_iinc (v := (x3_52 + (1 : Int32))) (lv' := [(3, .int (x3_52 + (1 : Int32))), (0, .ref (ad 0)), (1, .int x1_63), (2, .int x2_46)]) hx hb d_Mo_work_138 hl (k := 3) rfl rfl (by decide) rfl (fun ls hl => ?_)
                          refine lv_goto (tgt := 52) hx hb d_Mo_work_141 (by decide) ?_
                          exact ih52 x1_63 (x3_52 + (1 : Int32)) mo_values_63 _ _ _ hP hD hS (lv_sub hl [1, 2, 3, 0] rfl) hf
                        have L63 : ∀ (n63 : Nat), ∀ (x1_63 : Int32) (x4_63 : Int32) (mo_values_63 : (Nat → Int32)) (H : Heap) (locs : List Loc) (ls : Array Slot), va_P (dC, dI) classes (wY ty ad mo_rows mo_columns mo_marks mo_letters mo_mate mo_made mo_nodes mo_sort mo_from mo_to mo_begin mo_other mo_states mo_kinds mo_nodeOf mo_steps mo_emissions mo_length mo_text mo_worked mo_values_63 mo_hits mo_hitAt mo_hitLength mo_written mo_listState mo_listAt mo_listLength mo_stack) H → va_D A (wY ty ad mo_rows mo_columns mo_marks mo_letters mo_mate mo_made mo_nodes mo_sort mo_from mo_to mo_begin mo_other mo_states mo_kinds mo_nodeOf mo_steps mo_emissions mo_length mo_text mo_worked mo_values_63 mo_hits mo_hitAt mo_hitLength mo_written mo_listState mo_listAt mo_listLength mo_stack) → va_S A s.heap H locs → lv_has ls 6 [(0, .ref (ad 0)), (1, .int x1_63), (2, .int x2_46), (3, .int x3_52), (4, .int x4_63)] → f_Mo_work_L63 mo_begin mo_other mo_kinds mo_nodeOf mo_steps mo_emissions mo_length mo_text x2_46 x3_52 (f_Mo_work_K63_138 x3_52 (f_Mo_work_L52 mo_begin mo_other mo_kinds mo_nodeOf mo_steps mo_emissions mo_length mo_text x2_46 (f_Mo_work_K52_144 x2_46 (f_Mo_work_L46 mo_begin mo_other mo_kinds mo_nodeOf mo_steps mo_emissions mo_length mo_text (f_Mo_work_K46_150 (f_Mo_work_L33 mo_begin mo_other mo_states mo_kinds mo_nodeOf mo_steps mo_emissions mo_length mo_text (f_Mo_work_K33_153) n33)) n46)) n52)) n63 x1_63 x4_63 mo_values_63 = some (n_mo_worked, n_mo_values) → W p l e rm_Mo_work s m (List.toArray [.ref (ad 0)]) below meth c H locs 0 0 Q (F0 m 63 ls []) := by
                          intro n63
                          induction n63 with
                          | zero =>
                            intro x1_63 x4_63 mo_values_63 H locs ls hP hD hS hl hf
                            rw [f_Mo_work_L63] at hf
                            cases hf
                          | succ n63 ih63 =>
                            intro x1_63 x4_63 mo_values_63 H locs ls hP hD hS hl hf
                            rw [f_Mo_work_L63] at hf
                            refine lv_iload hx hb d_Mo_work_63 (lv_at hl 4 rfl) ?_
                            refine lv_bipush (v := 12) hx hb d_Mo_work_65 (by decide) ?_
                            refine lv_icmp_gt (tgt := 138) hx hb d_Mo_work_67 (by decide) (fun c7 => ?_) (fun c7 => ?_)
                            · have hf := xif_t c7 hf
                              exact K63_138 x1_63 x4_63 mo_values_63 _ _ _ hP hD hS (lv_sub hl [0, 1, 2, 3] rfl) hf
                            · have hf := xif_f c7 hf
                              refine lv_iload_n hx hb d_Mo_work_70 rfl (lv_at hl 3 rfl) ?_
                              refine lv_iload hx hb d_Mo_work_71 (lv_at hl 4 rfl) ?_
                              refine lv_iadd hx hb d_Mo_work_73 ?_
                              refine lv_aload_n hx hb d_Mo_work_74 rfl (lv_at hl 0 rfl) ?_
                              refine va_get (D := (dC, dI)) (ci := 8) (v := .int mo_length) (C := R_Mo) (T := F_Mo) (N := 29) hx hb hts iw_Mo hown hK hP 0 rfl rfl 17 (by decide) (hts _ m_734) (fun _ h9 => h9) rfl d_Mo_work_75 ?_
                              refine lv_icmp_gt (tgt := 138) hx hb d_Mo_work_78 (by decide) (fun c8 => ?_) (fun c8 => ?_)
                              · have hf := xif_t c8 hf
                                exact K63_138 x1_63 x4_63 mo_values_63 _ _ _ hP hD hS (lv_sub hl [0, 1, 2, 3] rfl) hf
                              · have hf := xif_f c8 hf
                                refine lv_aload_n hx hb d_Mo_work_81 rfl (lv_at hl 0 rfl) ?_
                                refine lv_iload_n hx hb d_Mo_work_82 rfl (lv_at hl 2 rfl) ?_
                                refine lv_iload_n hx hb d_Mo_work_83 rfl (lv_at hl 3 rfl) ?_
                                refine lv_iload hx hb d_Mo_work_84 (lv_at hl 4 rfl) ?_
                                obtain ⟨r9, hc10, hf⟩ := ob1_inv hf
                                refine xk_i (xrunV (C := R_Mo) (As := [.int x2_46, .int x3_52, .int x4_63]) (rest := []) ⟨hx, hb, hml, hown, hts⟩ (c_Mo_better l dC dI ty ad ta H.size mo_rows mo_columns mo_marks mo_letters mo_mate mo_made mo_nodes mo_sort mo_from mo_to mo_begin mo_other mo_states mo_kinds mo_nodeOf mo_steps mo_emissions mo_length mo_text mo_worked mo_values_63 mo_hits mo_hitAt mo_hitLength mo_written mo_listState mo_listAt mo_listLength mo_stack x2_46 x3_52 x4_63 r9 hc10) z_Mo_180 ⟨⟨rfl, rfl⟩, by decide, by decide⟩ hK hP hD hN hS hA (va_recv hK hP (ci := 8) (q0 := 0) rfl rfl) rfl hl.1 rfl (Nat.le_of_ble_eq_true rfl) d_Mo_work_86 ⟨Nat.zero_le _, Nat.zero_le _⟩) hS hD rfl hA (fun H locs hP hD hS => ?_)
                                refine W.eq (g2 := F0 m 89 ls [.int r9]) rfl ?_
                                refine lv_istore (lv' := [(5, .int r9), (0, .ref (ad 0)), (1, .int x1_63), (2, .int x2_46), (3, .int x3_52), (4, .int x4_63)]) hx hb d_Mo_work_89 hl (by decide) rfl (fun ls hl => ?_)
                                refine lv_iload_n hx hb d_Mo_work_91 rfl (lv_at hl 2 rfl) ?_
                                have J117 : ∀ (t0_117 : Int32) (H : Heap) (locs : List Loc) (ls : Array Slot), va_P (dC, dI) classes (wY ty ad mo_rows mo_columns mo_marks mo_letters mo_mate mo_made mo_nodes mo_sort mo_from mo_to mo_begin mo_other mo_states mo_kinds mo_nodeOf mo_steps mo_emissions mo_length mo_text mo_worked mo_values_63 mo_hits mo_hitAt mo_hitLength mo_written mo_listState mo_listAt mo_listLength mo_stack) H → va_D A (wY ty ad mo_rows mo_columns mo_marks mo_letters mo_mate mo_made mo_nodes mo_sort mo_from mo_to mo_begin mo_other mo_states mo_kinds mo_nodeOf mo_steps mo_emissions mo_length mo_text mo_worked mo_values_63 mo_hits mo_hitAt mo_hitLength mo_written mo_listState mo_listAt mo_listLength mo_stack) → va_S A s.heap H locs → lv_has ls 6 [(0, .ref (ad 0)), (2, .int x2_46), (3, .int x3_52), (4, .int x4_63), (5, .int r9)] → f_Mo_work_J117 x2_46 x3_52 x4_63 mo_values_63 (f_Mo_work_L63 mo_begin mo_other mo_kinds mo_nodeOf mo_steps mo_emissions mo_length mo_text x2_46 x3_52 (f_Mo_work_K63_138 x3_52 (f_Mo_work_L52 mo_begin mo_other mo_kinds mo_nodeOf mo_steps mo_emissions mo_length mo_text x2_46 (f_Mo_work_K52_144 x2_46 (f_Mo_work_L46 mo_begin mo_other mo_kinds mo_nodeOf mo_steps mo_emissions mo_length mo_text (f_Mo_work_K46_150 (f_Mo_work_L33 mo_begin mo_other mo_states mo_kinds mo_nodeOf mo_steps mo_emissions mo_length mo_text (f_Mo_work_K33_153) n33)) n46)) n52)) n63) r9 t0_117 = some (n_mo_worked, n_mo_values) → W p l e rm_Mo_work s m (List.toArray [.ref (ad 0)]) below meth c H locs 0 0 Q (F0 m 117 ls [.int t0_117]) := by
                                  intro t0_117 H locs ls hP hD hS hl hf
                                  rw [f_Mo_work_J117] at hf
                                  refine lv_istore_n (lv' := [(1, .int t0_117), (0, .ref (ad 0)), (2, .int x2_46), (3, .int x3_52), (4, .int x4_63), (5, .int r9)]) hx hb d_Mo_work_117 rfl hl (by decide) rfl (fun ls hl => ?_)
                                  refine lv_aload_n hx hb d_Mo_work_118 rfl (lv_at hl 1 rfl) ?_
                                  refine va_get (D := (dC, dI)) (ci := 8) (v := .ref (ad 14)) (C := R_Mo) (T := F_Mo) (N := 29) hx hb hts iw_Mo hown hK hP 0 rfl rfl 20 (by decide) (hts _ m_737) (fun _ h9 => h9) rfl d_Mo_work_119 ?_
                                  refine lv_iload_n hx hb d_Mo_work_122 rfl (lv_at hl 2 rfl) ?_
                                  refine lv_iload_n hx hb d_Mo_work_123 rfl (lv_at hl 3 rfl) ?_
                                  refine lv_iload hx hb d_Mo_work_124 (lv_at hl 4 rfl) ?_
                                  obtain ⟨r11, hc12, hf⟩ := ob1_inv hf
                                  refine xk_i (xrunS (As := [.int x2_46, .int x3_52, .int x4_63]) (rest := [.ref (ad 14)]) ⟨hx, hb, hml, hown, hts⟩ (c_Mo_cell l dC dI ty ad ta H.size mo_rows mo_columns mo_marks mo_letters mo_mate mo_made mo_nodes mo_sort mo_from mo_to mo_begin mo_other mo_states mo_kinds mo_nodeOf mo_steps mo_emissions mo_length mo_text mo_worked mo_values_63 mo_hits mo_hitAt mo_hitLength mo_written mo_listState mo_listAt mo_listLength mo_stack x2_46 x3_52 x4_63 r11 hc12) z_Mo_168 ⟨⟨rfl, rfl⟩, by decide, by decide⟩ hK hP hD hN hS hA rfl hl.1 rfl (Nat.le_of_ble_eq_true rfl) d_Mo_work_126 ⟨Nat.zero_le _, Nat.zero_le _⟩) hS hD rfl hA (fun H locs hP hD hS => ?_)
                                  refine W.eq (g2 := F0 m 129 ls [.int r11, .ref (ad 14)]) rfl ?_
                                  refine lv_iload hx hb d_Mo_work_129 (lv_at hl 5 rfl) ?_
                                  obtain ⟨hi13, hf⟩ := gdi hf
                                  refine va_iast hx hb hK hP hD hS 14 0 rfl rfl hi13 d_Mo_work_131 (fun H locs hP hD hS => ?_)
                                  have hP : va_P (dC, dI) classes (wY ty ad mo_rows mo_columns mo_marks mo_letters mo_mate mo_made mo_nodes mo_sort mo_from mo_to mo_begin mo_other mo_states mo_kinds mo_nodeOf mo_steps mo_emissions mo_length mo_text mo_worked (upd mo_values_63 (Int32.toNatClampNeg r11) r9) mo_hits mo_hitAt mo_hitLength mo_written mo_listState mo_listAt mo_listLength mo_stack) H := hP
                                  have hD : va_D A (wY ty ad mo_rows mo_columns mo_marks mo_letters mo_mate mo_made mo_nodes mo_sort mo_from mo_to mo_begin mo_other mo_states mo_kinds mo_nodeOf mo_steps mo_emissions mo_length mo_text mo_worked (upd mo_values_63 (Int32.toNatClampNeg r11) r9) mo_hits mo_hitAt mo_hitLength mo_written mo_listState mo_listAt mo_listLength mo_stack) := hD
                                  refine lv_iinc (v := (x4_63 + (1 : Int32))) (lv' := [(4, .int (x4_63 + (1 : Int32))), (1, .int t0_117), (0, .ref (ad 0)), (2, .int x2_46), (3, .int x3_52), (5, .int r9)]) hx hb d_Mo_work_132 hl (k := 4) rfl rfl (by decide) rfl (fun ls hl => ?_)
                                  refine lv_goto (tgt := 63) hx hb d_Mo_work_135 (by decide) ?_
                                  exact ih63 t0_117 (x4_63 + (1 : Int32)) (upd mo_values_63 (Int32.toNatClampNeg r11) r9) _ _ _ hP hD hS (lv_sub hl [2, 1, 3, 4, 0] rfl) hf
                                have J112 : ∀  (H : Heap) (locs : List Loc) (ls : Array Slot), va_P (dC, dI) classes (wY ty ad mo_rows mo_columns mo_marks mo_letters mo_mate mo_made mo_nodes mo_sort mo_from mo_to mo_begin mo_other mo_states mo_kinds mo_nodeOf mo_steps mo_emissions mo_length mo_text mo_worked mo_values_63 mo_hits mo_hitAt mo_hitLength mo_written mo_listState mo_listAt mo_listLength mo_stack) H → va_D A (wY ty ad mo_rows mo_columns mo_marks mo_letters mo_mate mo_made mo_nodes mo_sort mo_from mo_to mo_begin mo_other mo_states mo_kinds mo_nodeOf mo_steps mo_emissions mo_length mo_text mo_worked mo_values_63 mo_hits mo_hitAt mo_hitLength mo_written mo_listState mo_listAt mo_listLength mo_stack) → va_S A s.heap H locs → lv_has ls 6 [(0, .ref (ad 0)), (2, .int x2_46), (3, .int x3_52), (4, .int x4_63), (5, .int r9)] → f_Mo_work_J112 x2_46 x3_52 x4_63 mo_values_63 (f_Mo_work_L63 mo_begin mo_other mo_kinds mo_nodeOf mo_steps mo_emissions mo_length mo_text x2_46 x3_52 (f_Mo_work_K63_138 x3_52 (f_Mo_work_L52 mo_begin mo_other mo_kinds mo_nodeOf mo_steps mo_emissions mo_length mo_text x2_46 (f_Mo_work_K52_144 x2_46 (f_Mo_work_L46 mo_begin mo_other mo_kinds mo_nodeOf mo_steps mo_emissions mo_length mo_text (f_Mo_work_K46_150 (f_Mo_work_L33 mo_begin mo_other mo_states mo_kinds mo_nodeOf mo_steps mo_emissions mo_length mo_text (f_Mo_work_K33_153) n33)) n46)) n52)) n63) r9 = some (n_mo_worked, n_mo_values) → W p l e rm_Mo_work s m (List.toArray [.ref (ad 0)]) below meth c H locs 0 0 Q (F0 m 112 ls []) := by
                                  intro  H locs ls hP hD hS hl hf
                                  rw [f_Mo_work_J112] at hf
                                  refine lv_iconst (v := 1) hx hb d_Mo_work_112 (by decide) ?_
                                  refine lv_goto (tgt := 117) hx hb d_Mo_work_113 (by decide) ?_
                                  exact J117 (1 : Int32) _ _ _ hP hD hS (lv_sub hl [0, 1, 2, 3, 4] rfl) hf
                                refine lv_if_ne (tgt := 112) hx hb d_Mo_work_92 (by decide) (fun c14 => ?_) (fun c14 => ?_)
                                · have hf := xif_f c14 hf
                                  exact J112  _ _ _ hP hD hS (lv_sub hl [1, 3, 4, 5, 0] rfl) hf
                                · have hf := xif_t c14 hf
                                  refine lv_iload hx hb d_Mo_work_95 (lv_at hl 0 rfl) ?_
                                  refine lv_aload_n hx hb d_Mo_work_97 rfl (lv_at hl 1 rfl) ?_
                                  refine va_get (D := (dC, dI)) (ci := 8) (v := .ref (ad 14)) (C := R_Mo) (T := F_Mo) (N := 29) hx hb hts iw_Mo hown hK hP 0 rfl rfl 20 (by decide) (hts _ m_737) (fun _ h9 => h9) rfl d_Mo_work_98 ?_
                                  refine lv_iload_n hx hb d_Mo_work_101 rfl (lv_at hl 3 rfl) ?_
                                  refine lv_iload_n hx hb d_Mo_work_102 rfl (lv_at hl 4 rfl) ?_
                                  refine lv_iload hx hb d_Mo_work_103 (lv_at hl 5 rfl) ?_
                                  obtain ⟨r15, hc16, hf⟩ := ob1_inv hf
                                  refine xk_i (xrunS (As := [.int x2_46, .int x3_52, .int x4_63]) (rest := [.ref (ad 14), .int r9]) ⟨hx, hb, hml, hown, hts⟩ (c_Mo_cell l dC dI ty ad ta H.size mo_rows mo_columns mo_marks mo_letters mo_mate mo_made mo_nodes mo_sort mo_from mo_to mo_begin mo_other mo_states mo_kinds mo_nodeOf mo_steps mo_emissions mo_length mo_text mo_worked mo_values_63 mo_hits mo_hitAt mo_hitLength mo_written mo_listState mo_listAt mo_listLength mo_stack x2_46 x3_52 x4_63 r15 hc16) z_Mo_168 ⟨⟨rfl, rfl⟩, by decide, by decide⟩ hK hP hD hN hS hA rfl hl.1 rfl (Nat.le_of_ble_eq_true rfl) d_Mo_work_105 ⟨Nat.zero_le _, Nat.zero_le _⟩) hS hD rfl hA (fun H locs hP hD hS => ?_)
                                  refine W.eq (g2 := F0 m 108 ls [.int r15, .ref (ad 14), .int r9]) rfl ?_
                                  obtain ⟨hi17, hf⟩ := gdi hf
                                  refine va_iald hx hb hK hP 14 0 rfl rfl hi17 d_Mo_work_108 ?_
                                  refine lv_icmp_le (tgt := 116) hx hb d_Mo_work_109 (by decide) (fun c18 => ?_) (fun c18 => ?_)
                                  · have hf := xif_t c18 hf
                                    refine lv_iconst (v := 0) hx hb d_Mo_work_116 (by decide) ?_
                                    exact J117 (0 : Int32) _ _ _ hP hD hS (lv_sub hl [1, 3, 4, 5, 0] rfl) hf
                                  · have hf := xif_f c18 hf
                                    exact J112  _ _ _ hP hD hS (lv_sub hl [1, 3, 4, 5, 0] rfl) hf
                        exact L63 1000 x1_52 (0 : Int32) mo_values_52 _ _ _ hP hD hS (lv_sub hl [1, 2, 3, 4, 0] rfl) hf
                  exact L52 1000 x1_46 (0 : Int32) mo_values_46 _ _ _ hP hD hS (lv_sub hl [1, 2, 3, 0] rfl) hf
            exact L46 1000 (0 : Int32) (mo_states - (1 : Int32)) mo_values_33 _ _ _ hP hD hS (lv_sub hl [2, 1, 0] rfl) hf
      exact L33 1000 (1 : Int32) mo_values_10 _ _ _ hP hD hS (lv_sub hl [1, 0] rfl) hf
    have L10 : ∀ (n10 : Nat), ∀ (x1_10 : Int32) (mo_values_10 : (Nat → Int32)) (H : Heap) (locs : List Loc) (ls : Array Slot), va_P (dC, dI) classes (wY ty ad mo_rows mo_columns mo_marks mo_letters mo_mate mo_made mo_nodes mo_sort mo_from mo_to mo_begin mo_other mo_states mo_kinds mo_nodeOf mo_steps mo_emissions mo_length mo_text mo_worked mo_values_10 mo_hits mo_hitAt mo_hitLength mo_written mo_listState mo_listAt mo_listLength mo_stack) H → va_D A (wY ty ad mo_rows mo_columns mo_marks mo_letters mo_mate mo_made mo_nodes mo_sort mo_from mo_to mo_begin mo_other mo_states mo_kinds mo_nodeOf mo_steps mo_emissions mo_length mo_text mo_worked mo_values_10 mo_hits mo_hitAt mo_hitLength mo_written mo_listState mo_listAt mo_listLength mo_stack) → va_S A s.heap H locs → lv_has ls 6 [(0, .ref (ad 0)), (1, .int x1_10)] → f_Mo_work_L10 (f_Mo_work_K10_31 mo_begin mo_other mo_states mo_kinds mo_nodeOf mo_steps mo_emissions mo_length mo_text) n10 x1_10 mo_values_10 = some (n_mo_worked, n_mo_values) → W p l e rm_Mo_work s m (List.toArray [.ref (ad 0)]) below meth c H locs 0 0 Q (F0 m 10 ls []) := by
      intro n10
      induction n10 with
      | zero =>
        intro x1_10 mo_values_10 H locs ls hP hD hS hl hf
        rw [f_Mo_work_L10] at hf
        cases hf
      | succ n10 ih10 =>
        intro x1_10 mo_values_10 H locs ls hP hD hS hl hf
        rw [f_Mo_work_L10] at hf
        refine lv_iload_n hx hb d_Mo_work_10 rfl (lv_at hl 1 rfl) ?_
        refine lv_sipush (v := 15600) hx hb d_Mo_work_11 (by decide) ?_
        refine lv_icmp_ge (tgt := 31) hx hb d_Mo_work_14 (by decide) (fun c2 => ?_) (fun c2 => ?_)
        · have hf := xif_t c2 hf
          exact K10_31 x1_10 mo_values_10 _ _ _ hP hD hS (lv_sub hl [0] rfl) hf
        · have hf := xif_f c2 hf
          refine lv_aload_n hx hb d_Mo_work_17 rfl (lv_at hl 0 rfl) ?_
          refine va_get (D := (dC, dI)) (ci := 8) (v := .ref (ad 14)) (C := R_Mo) (T := F_Mo) (N := 29) hx hb hts iw_Mo hown hK hP 0 rfl rfl 20 (by decide) (hts _ m_737) (fun _ h9 => h9) rfl d_Mo_work_18 ?_
          refine lv_iload_n hx hb d_Mo_work_21 rfl (lv_at hl 1 rfl) ?_
          refine lv_ldc (v := -1000000) hx hb hown (hts _ m_825) d_Mo_work_22 ?_
          obtain ⟨hi3, hf⟩ := gdi hf
          refine va_iast hx hb hK hP hD hS 14 0 rfl rfl hi3 d_Mo_work_24 (fun H locs hP hD hS => ?_)
          have hP : va_P (dC, dI) classes (wY ty ad mo_rows mo_columns mo_marks mo_letters mo_mate mo_made mo_nodes mo_sort mo_from mo_to mo_begin mo_other mo_states mo_kinds mo_nodeOf mo_steps mo_emissions mo_length mo_text mo_worked (upd mo_values_10 (Int32.toNatClampNeg x1_10) (-1000000 : Int32)) mo_hits mo_hitAt mo_hitLength mo_written mo_listState mo_listAt mo_listLength mo_stack) H := hP
          have hD : va_D A (wY ty ad mo_rows mo_columns mo_marks mo_letters mo_mate mo_made mo_nodes mo_sort mo_from mo_to mo_begin mo_other mo_states mo_kinds mo_nodeOf mo_steps mo_emissions mo_length mo_text mo_worked (upd mo_values_10 (Int32.toNatClampNeg x1_10) (-1000000 : Int32)) mo_hits mo_hitAt mo_hitLength mo_written mo_listState mo_listAt mo_listLength mo_stack) := hD
          refine lv_iinc (v := (x1_10 + (1 : Int32))) (lv' := [(1, .int (x1_10 + (1 : Int32))), (0, .ref (ad 0))]) hx hb d_Mo_work_25 hl (k := 1) rfl rfl (by decide) rfl (fun ls hl => ?_)
          refine lv_goto (tgt := 10) hx hb d_Mo_work_28 (by decide) ?_
          exact ih10 (x1_10 + (1 : Int32)) (upd mo_values_10 (Int32.toNatClampNeg x1_10) (-1000000 : Int32)) _ _ _ hP hD hS (lv_sub hl [1, 0] rfl) hf
    exact L10 16000 (0 : Int32) mo_values _ _ _ hP hD hS (lv_sub hl [1, 0] rfl) hf
  · have hf := xif_f c1 hf
    obtain ⟨rfl, rfl⟩ := os2 hf
    exact hret H locs _ _ d_Mo_work_7 hP hS
