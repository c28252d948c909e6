/-! pure functions and contracts of Mo_value, Mo_free, Mo_scan (written by wip/gen) -/
def f_Mo_value (mo_made : Int32) (mo_begin : (Nat → Int32)) (mo_other : (Nat → Int32)) (mo_states : Int32) (mo_kinds : (Nat → Int32)) (mo_nodeOf : (Nat → Int32)) (mo_steps : (Nat → Int32)) (mo_emissions : (Nat → Int32)) (mo_length : Int32) (mo_text : (Nat → Int32)) (mo_worked : Int32) (mo_values : (Nat → Int32)) (a1 : Int32) (a2 : Int32) (a3 : Int32) : Option (Int32 × Int32 × (Nat → Int32)) := ob1 (f_Mo_isState mo_made mo_states a1) (fun r1 => if r1 = (0 : Int32) then (some ((-1000000 : Int32), mo_worked, mo_values)) else (if a2 < (0 : Int32) then (some ((-1000000 : Int32), mo_worked, mo_values)) else (if a3 < (0 : Int32) then (some ((-1000000 : Int32), mo_worked, mo_values)) else (if (12 : Int32) < a3 then (some ((-1000000 : Int32), mo_worked, mo_values)) else (if mo_length < a2 then (some ((-1000000 : Int32), mo_worked, mo_values)) else (if (a2 + a3) ≤ mo_length then (ob2 (f_Mo_work mo_begin mo_other mo_states mo_kinds mo_nodeOf mo_steps mo_emissions mo_length mo_text mo_worked mo_values) (fun w9 w10 => ob1 (f_Mo_cell a1 a2 a3) (fun r12 => gd (xin r12 15600) (some ((w10 (Int32.toNatClampNeg r12)), w9, w10))))) else (some ((-1000000 : Int32), mo_worked, mo_values))))))))
set_option maxHeartbeats 4000000 in
set_option maxRecDepth 100000 in
theorem c_Mo_value (l : Launch) (dC : Nat → ClassId) (dI : Nat → Nat → Nat) (ty : Nat → ClassId) (ad : Nat → Nat) (ta : Nat → Nat) (sz : Nat) (mo_rows : Int32) (mo_columns : Int32) (mo_marks : (Nat → Int32)) (mo_letters : (Nat → Int32)) (mo_mate : (Nat → Int32)) (mo_made : Int32) (mo_nodes : Int32) (mo_sort : (Nat → Int32)) (mo_from : (Nat → Int32)) (mo_to : (Nat → Int32)) (mo_begin : (Nat → Int32)) (mo_other : (Nat → Int32)) (mo_states : Int32) (mo_kinds : (Nat → Int32)) (mo_nodeOf : (Nat → Int32)) (mo_steps : (Nat → Int32)) (mo_emissions : (Nat → Int32)) (mo_length : Int32) (mo_text : (Nat → Int32)) (mo_worked : Int32) (mo_values : (Nat → Int32)) (mo_hits : Int32) (mo_hitAt : (Nat → Int32)) (mo_hitLength : (Nat → Int32)) (mo_written : Int32) (mo_listState : (Nat → Int32)) (mo_listAt : (Nat → Int32)) (mo_listLength : (Nat → Int32)) (mo_stack : (Nat → Int32)) (a1 : Int32) (a2 : Int32) (a3 : Int32) (r0 : Int32) (n_mo_worked : Int32) (n_mo_values : (Nat → Int32)) (hf : f_Mo_value mo_made mo_begin mo_other mo_states mo_kinds mo_nodeOf mo_steps mo_emissions mo_length mo_text mo_worked mo_values a1 a2 a3 = some (r0, n_mo_worked, n_mo_values)) : Met l y_Mo_value (.code y_Mo_value prog_10_method_38_code 4 (some .int) :: gw) rm_Mo_value (xPre ta (dC, dI) classes (tys3 ty) (wY ty ad mo_rows mo_columns mo_marks mo_letters mo_mate mo_made mo_nodes mo_sort mo_from mo_to mo_begin mo_other mo_states mo_kinds mo_nodeOf mo_steps mo_emissions mo_length mo_text mo_worked mo_values mo_hits mo_hitAt mo_hitLength mo_written mo_listState mo_listAt mo_listLength mo_stack) sz [.ref (ad 0), .int a1, .int a2, .int a3]) (xQi (dC, dI) classes (wY ty ad mo_rows mo_columns mo_marks mo_letters mo_mate mo_made mo_nodes mo_sort mo_from mo_to mo_begin mo_other mo_states mo_kinds mo_nodeOf mo_steps mo_emissions mo_length mo_text mo_worked mo_values mo_hits mo_hitAt mo_hitLength mo_written mo_listState mo_listAt mo_listLength mo_stack) (wY ty ad mo_rows mo_columns mo_marks mo_letters mo_mate mo_made mo_nodes mo_sort mo_from mo_to mo_begin mo_other mo_states mo_kinds mo_nodeOf mo_steps mo_emissions mo_length mo_text n_mo_worked n_mo_values mo_hits mo_hitAt mo_hitLength mo_written mo_listState mo_listAt mo_listLength mo_stack) sz r0) 0 0 (va_A (wY ty ad mo_rows mo_columns mo_marks mo_letters mo_mate mo_made mo_nodes mo_sort mo_from mo_to mo_begin mo_other mo_states mo_kinds mo_nodeOf mo_steps mo_emissions mo_length mo_text mo_worked mo_values mo_hits mo_hitAt mo_hitLength mo_written mo_listState mo_listAt mo_listLength mo_stack) sz) := by
  refine xmet_i rfl (Nat.le_of_ble_eq_true rfl) ?_
  intro p e s m below meth c A ls Q hx hb hml hts hown hK hN hA hP hD hS hl hret
  replace hown : s.vm.findClass R_Mo = some m.cls := hown
  have hl : lv_has ls 4 [(0, .ref (ad 0)), (1, .int a1), (2, .int a2), (3, .int a3)] := hl
  rw [f_Mo_value] at hf
  obtain ⟨H, eH⟩ : ∃ H : Heap, H = s.heap := ⟨_, rfl⟩
  obtain ⟨locs, eL⟩ : ∃ L : List Loc, L = [] := ⟨_, rfl⟩
  have hP : va_P (dC, dI) classes (wY ty ad mo_rows mo_columns mo_marks mo_letters mo_mate mo_made mo_nodes mo_sort mo_from mo_to mo_begin mo_other mo_states mo_kinds mo_nodeOf mo_steps mo_emissions mo_length mo_text mo_worked mo_values mo_hits mo_hitAt mo_hitLength mo_written mo_listState mo_listAt mo_listLength mo_stack) H := by rw [eH]; exact hP
  have hS : va_S A s.heap H locs := by rw [eH, eL]; exact hS
  rw [← eL]
  suffices hgoal : W p l e rm_Mo_value s m (List.toArray [.ref (ad 0), .int a1, .int a2, .int a3]) below meth c H locs 0 0 Q (F0 m 0 ls []) by rw [eH] at hgoal; exact hgoal
  clear eH eL
  refine lv_aload_n hx hb d_Mo_value_0 rfl (lv_at hl 0 rfl) ?_
  refine lv_iload_n hx hb d_Mo_value_1 rfl (lv_at hl 1 rfl) ?_
  obtain ⟨r1, hc2, hf⟩ := ob1_inv hf
  refine xk_i (xrunV (C := R_Mo) (As := [.int a1]) (rest := []) ⟨hx, hb, hml, hown, hts⟩ (c_Mo_isState l dC dI ty ad ta H.size mo_rows mo_columns mo_marks mo_letters mo_mate mo_made mo_nodes mo_sort mo_from mo_to mo_begin mo_other mo_states mo_kinds mo_nodeOf mo_steps mo_emissions mo_length mo_text mo_worked mo_values mo_hits mo_hitAt mo_hitLength mo_written mo_listState mo_listAt mo_listLength mo_stack a1 r1 hc2) z_Mo_153 ⟨⟨rfl, rfl⟩, by decide, by decide⟩ hK hP hD hN hS hA (va_recv hK hP (ci := 8) (q0 := 0) rfl rfl) rfl hl.1 rfl (Nat.le_of_ble_eq_true rfl) d_Mo_value_2 ⟨Nat.zero_le _, Nat.zero_le _⟩) hS hD rfl hA (fun H locs hP hD hS => ?_)
  refine W.eq (g2 := F0 m 5 ls [.int r1]) rfl ?_
  refine lv_if_eq (tgt := 40) hx hb d_Mo_value_5 (by decide) (fun c3 => ?_) (fun c3 => ?_)
  · have hf := xif_t c3 hf
    refine lv_ldc (v := -1000000) hx hb hown (hts _ m_825) d_Mo_value_40 ?_
    obtain ⟨rfl, rfl, rfl⟩ := os3 hf
    exact hret H locs _ _ _ d_Mo_value_42 rfl hP hS
  · have hf := xif_f c3 hf
    refine lv_iload_n hx hb d_Mo_value_8 rfl (lv_at hl 2 rfl) ?_
    refine lv_if_lt (tgt := 40) hx hb d_Mo_value_9 (by decide) (fun c4 => ?_) (fun c4 => ?_)
    · have hf := xif_t c4 hf
      refine lv_ldc (v := -1000000) hx hb hown (hts _ m_825) d_Mo_value_40 ?_
      obtain ⟨rfl, rfl, rfl⟩ := os3 hf
      exact hret H locs _ _ _ d_Mo_value_42 rfl hP hS
    · have hf := xif_f c4 hf
      refine lv_iload_n hx hb d_Mo_value_12 rfl (lv_at hl 3 rfl) ?_
      refine lv_if_lt (tgt := 40) hx hb d_Mo_value_13 (by decide) (fun c5 => ?_) (fun c5 => ?_)
      · have hf := xif_t c5 hf
        refine lv_ldc (v := -1000000) hx hb hown (hts _ m_825) d_Mo_value_40 ?_
        obtain ⟨rfl, rfl, rfl⟩ := os3 hf
        exact hret H locs _ _ _ d_Mo_value_42 rfl hP hS
      · have hf := xif_f c5 hf
        refine lv_iload_n hx hb d_Mo_value_16 rfl (lv_at hl 3 rfl) ?_
        refine lv_bipush (v := 12) hx hb d_Mo_value_17 (by decide) ?_
        refine lv_icmp_gt (tgt := 40) hx hb d_Mo_value_19 (by decide) (fun c6 => ?_) (fun c6 => ?_)
        · have hf := xif_t c6 hf
          refine lv_ldc (v := -1000000) hx hb hown (hts _ m_825) d_Mo_value_40 ?_
          obtain ⟨rfl, rfl, rfl⟩ := os3 hf
          exact hret H locs _ _ _ d_Mo_value_42 rfl hP hS
        · have hf := xif_f c6 hf
          refine lv_iload_n hx hb d_Mo_value_22 rfl (lv_at hl 2 rfl) ?_
          refine lv_aload_n hx hb d_Mo_value_23 rfl (lv_at hl 0 rfl) ?_
          refine va_get (D := (dC, dI)) (ci := 8) (v := .int mo_length) (C := R_Mo) (T := F_Mo) (N := 29) hx hb hts iw_Mo hown hK hP 0 rfl rfl 17 (by decide) (hts _ m_734) (fun _ h9 => h9) rfl d_Mo_value_24 ?_
          refine lv_icmp_gt (tgt := 40) hx hb d_Mo_value_27 (by decide) (fun c7 => ?_) (fun c7 => ?_)
          · have hf := xif_t c7 hf
            refine lv_ldc (v := -1000000) hx hb hown (hts _ m_825) d_Mo_value_40 ?_
            obtain ⟨rfl, rfl, rfl⟩ := os3 hf
            exact hret H locs _ _ _ d_Mo_value_42 rfl hP hS
          · have hf := xif_f c7 hf
            refine lv_iload_n hx hb d_Mo_value_30 rfl (lv_at hl 2 rfl) ?_
            refine lv_iload_n hx hb d_Mo_value_31 rfl (lv_at hl 3 rfl) ?_
            refine lv_iadd hx hb d_Mo_value_32 ?_
            refine lv_aload_n hx hb d_Mo_value_33 rfl (lv_at hl 0 rfl) ?_
            refine va_get (D := (dC, dI)) (ci := 8) (v := .int mo_length) (C := R_Mo) (T := F_Mo) (N := 29) hx hb hts iw_Mo hown hK hP 0 rfl rfl 17 (by decide) (hts _ m_734) (fun _ h9 => h9) rfl d_Mo_value_34 ?_
            refine lv_icmp_le (tgt := 43) hx hb d_Mo_value_37 (by decide) (fun c8 => ?_) (fun c8 => ?_)
            · have hf := xif_t c8 hf
              refine lv_aload_n hx hb d_Mo_value_43 rfl (lv_at hl 0 rfl) ?_
              obtain ⟨w9, w10, hc11, hf⟩ := ob2_inv hf
              refine xk_v (xrunV (C := R_Mo) (As := []) (rest := []) ⟨hx, hb, hml, hown, hts⟩ (c_Mo_work l dC dI ty ad ta H.size mo_rows mo_columns mo_marks mo_letters mo_mate mo_made mo_nodes mo_sort mo_from mo_to mo_begin mo_other mo_states mo_kinds mo_nodeOf mo_steps mo_emissions mo_length mo_text mo_worked mo_values mo_hits mo_hitAt mo_hitLength mo_written mo_listState mo_listAt mo_listLength mo_stack  w9 w10 hc11) z_Mo_183 ⟨⟨rfl, rfl⟩, by decide, by decide⟩ hK hP hD hN hS hA (va_recv hK hP (ci := 8) (q0 := 0) rfl rfl) rfl hl.1 rfl (Nat.le_of_ble_eq_true rfl) d_Mo_value_44 ⟨Nat.zero_le _, Nat.zero_le _⟩) hS hD rfl hA (fun H locs hP hD hS => ?_)
              refine W.eq (g2 := F0 m 47 ls []) rfl ?_
              refine lv_aload_n hx hb d_Mo_value_47 rfl (lv_at hl 0 rfl) ?_
              refine va_get (D := (dC, dI)) (ci := 8) (v := .ref (ad 14)) (C := R_Mo) (T := F_Mo) (N := 29) hx hb hts iw_Mo hown hK hP 0 rfl rfl 20 (by decide) (hts _ m_737) (fun _ h9 => h9) rfl d_Mo_value_48 ?_
              refine lv_iload_n hx hb d_Mo_value_51 rfl (lv_at hl 1 rfl) ?_
              refine lv_iload_n hx hb d_Mo_value_52 rfl (lv_at hl 2 rfl) ?_
              refine lv_iload_n hx hb d_Mo_value_53 rfl (lv_at hl 3 rfl) ?_
              obtain ⟨r12, hc13, hf⟩ := ob1_inv hf
              refine xk_i (xrunS (As := [.int a1, .int a2, .int a3]) (rest := [.ref (ad 14)]) ⟨hx, hb, hml, hown, hts⟩ (c_Mo_cell l dC dI ty ad ta H.size mo_rows mo_columns mo_marks mo_letters mo_mate mo_made mo_nodes mo_sort mo_from mo_to mo_begin mo_other mo_states mo_kinds mo_nodeOf mo_steps mo_emissions mo_length mo_text w9 w10 mo_hits mo_hitAt mo_hitLength mo_written mo_listState mo_listAt mo_listLength mo_stack a1 a2 a3 r12 hc13) z_Mo_168 ⟨⟨rfl, rfl⟩, by decide, by decide⟩ hK hP hD hN hS hA rfl hl.1 rfl (Nat.le_of_ble_eq_true rfl) d_Mo_value_54 ⟨Nat.zero_le _, Nat.zero_le _⟩) hS hD rfl hA (fun H locs hP hD hS => ?_)
              refine W.eq (g2 := F0 m 57 ls [.int r12, .ref (ad 14)]) rfl ?_
              obtain ⟨hi14, hf⟩ := gdi hf
              refine va_iald hx hb hK hP 14 0 rfl rfl hi14 d_Mo_value_57 ?_
              obtain ⟨rfl, rfl, rfl⟩ := os3 hf
              exact hret H locs _ _ _ d_Mo_value_58 rfl hP hS
            · have hf := xif_f c8 hf
              refine lv_ldc (v := -1000000) hx hb hown (hts _ m_825) d_Mo_value_40 ?_
              obtain ⟨rfl, rfl, rfl⟩ := os3 hf
              exact hret H locs _ _ _ d_Mo_value_42 rfl hP hS
def f_Mo_free_K5_62  (x3_5 : Int32) (x4_5 : Int32) : Option (Int32) := gd (xbool x3_5) (some (x3_5))
def f_Mo_free_L5 (mo_hits : Int32) (mo_hitAt : (Nat → Int32)) (mo_hitLength : (Nat → Int32)) (a1 : Int32) (a2 : Int32) (k5_62 : (Int32 → Int32 → Option (Int32))) : Nat → Int32 → Int32 → Option (Int32)
  | 0, _, _ => none
  | n5 + 1, x3_5, x4_5 => if mo_hits ≤ x4_5 then (k5_62 x3_5 x4_5) else (if x3_5 = (0 : Int32) then ((f_Mo_free_L5 mo_hits mo_hitAt mo_hitLength a1 a2 k5_62 n5) (0 : Int32) (x4_5 + (1 : Int32))) else (gd (xin x4_5 24) (if (a1 + a2) ≤ (mo_hitAt (Int32.toNatClampNeg x4_5)) then ((f_Mo_free_L5 mo_hits mo_hitAt mo_hitLength a1 a2 k5_62 n5) (1 : Int32) (x4_5 + (1 : Int32))) else (gd (xin x4_5 24) (gd (xin x4_5 24) (if a1 < ((mo_hitAt (Int32.toNatClampNeg x4_5)) + (mo_hitLength (Int32.toNatClampNeg x4_5))) then ((f_Mo_free_L5 mo_hits mo_hitAt mo_hitLength a1 a2 k5_62 n5) (0 : Int32) (x4_5 + (1 : Int32))) else ((f_Mo_free_L5 mo_hits mo_hitAt mo_hitLength a1 a2 k5_62 n5) (1 : Int32) (x4_5 + (1 : Int32)))))))))
def f_Mo_free (mo_hits : Int32) (mo_hitAt : (Nat → Int32)) (mo_hitLength : (Nat → Int32)) (a1 : Int32) (a2 : Int32) : Option (Int32) := f_Mo_free_L5 mo_hits mo_hitAt mo_hitLength a1 a2 (f_Mo_free_K5_62) 1000 (1 : Int32) (0 : Int32)
set_option maxHeartbeats 4000000 in
set_option maxRecDepth 100000 in
theorem c_Mo_free (l : Launch) (dC : Nat → ClassId) (dI : Nat → Nat → Nat) (ty : Nat → ClassId) (ad : Nat → Nat) (ta : Nat → Nat) (sz : Nat) (mo_rows : Int32) (mo_columns : Int32) (mo_marks : (Nat → Int32)) (mo_letters : (Nat → Int32)) (mo_mate : (Nat → Int32)) (mo_made : Int32) (mo_nodes : Int32) (mo_sort : (Nat → Int32)) (mo_from : (Nat → Int32)) (mo_to : (Nat → Int32)) (mo_begin : (Nat → Int32)) (mo_other : (Nat → Int32)) (mo_states : Int32) (mo_kinds : (Nat → Int32)) (mo_nodeOf : (Nat → Int32)) (mo_steps : (Nat → Int32)) (mo_emissions : (Nat → Int32)) (mo_length : Int32) (mo_text : (Nat → Int32)) (mo_worked : Int32) (mo_values : (Nat → Int32)) (mo_hits : Int32) (mo_hitAt : (Nat → Int32)) (mo_hitLength : (Nat → Int32)) (mo_written : Int32) (mo_listState : (Nat → Int32)) (mo_listAt : (Nat → Int32)) (mo_listLength : (Nat → Int32)) (mo_stack : (Nat → Int32)) (a1 : Int32) (a2 : Int32) (r0 : Int32) (hf : f_Mo_free mo_hits mo_hitAt mo_hitLength a1 a2 = some (r0)) : Met l y_Mo_free (.code y_Mo_free prog_10_method_39_code 5 (some .boolean) :: gw) rm_Mo_free (xPre ta (dC, dI) classes (tys3 ty) (wY ty ad mo_rows mo_columns mo_marks mo_letters mo_mate mo_made mo_nodes mo_sort mo_from mo_to mo_begin mo_other mo_states mo_kinds mo_nodeOf mo_steps mo_emissions mo_length mo_text mo_worked mo_values mo_hits mo_hitAt mo_hitLength mo_written mo_listState mo_listAt mo_listLength mo_stack) sz [.ref (ad 0), .int a1, .int a2]) (xQi (dC, dI) classes (wY ty ad mo_rows mo_columns mo_marks mo_letters mo_mate mo_made mo_nodes mo_sort mo_from mo_to mo_begin mo_other mo_states mo_kinds mo_nodeOf mo_steps mo_emissions mo_length mo_text mo_worked mo_values mo_hits mo_hitAt mo_hitLength mo_written mo_listState mo_listAt mo_listLength mo_stack) (wY ty ad mo_rows mo_columns mo_marks mo_letters mo_mate mo_made mo_nodes mo_sort mo_from mo_to mo_begin mo_other mo_states mo_kinds mo_nodeOf mo_steps mo_emissions mo_length mo_text mo_worked mo_values mo_hits mo_hitAt mo_hitLength mo_written mo_listState mo_listAt mo_listLength mo_stack) sz r0) 0 0 (va_A (wY ty ad mo_rows mo_columns mo_marks mo_letters mo_mate mo_made mo_nodes mo_sort mo_from mo_to mo_begin mo_other mo_states mo_kinds mo_nodeOf mo_steps mo_emissions mo_length mo_text mo_worked mo_values mo_hits mo_hitAt mo_hitLength mo_written mo_listState mo_listAt mo_listLength mo_stack) sz) := by
  refine xmet_z rfl (Nat.le_of_ble_eq_true rfl) ?_
  intro p e s m below meth c A ls Q hx hb hml hts hown hK hN hA hP hD hS hl hret
  replace hown : s.vm.findClass R_Mo = some m.cls := hown
  have hl : lv_has ls 5 [(0, .ref (ad 0)), (1, .int a1), (2, .int a2)] := hl
  rw [f_Mo_free] at hf
  obtain ⟨H, eH⟩ : ∃ H : Heap, H = s.heap := ⟨_, rfl⟩
  obtain ⟨locs, eL⟩ : ∃ L : List Loc, L = [] := ⟨_, rfl⟩
  have hP : va_P (dC, dI) classes (wY ty ad mo_rows mo_columns mo_marks mo_letters mo_mate mo_made mo_nodes mo_sort mo_from mo_to mo_begin mo_other mo_states mo_kinds mo_nodeOf mo_steps mo_emissions mo_length mo_text mo_worked mo_values mo_hits mo_hitAt mo_hitLength mo_written mo_listState mo_listAt mo_listLength mo_stack) H := by rw [eH]; exact hP
  have hS : va_S A s.heap H locs := by rw [eH, eL]; exact hS
  rw [← eL]
  suffices hgoal : W p l e rm_Mo_free s m (List.toArray [.ref (ad 0), .int a1, .int a2]) below meth c H locs 0 0 Q (F0 m 0 ls []) by rw [eH] at hgoal; exact hgoal
  clear eH eL
  refine lv_iconst (v := 1) hx hb d_Mo_free_0 (by decide) ?_
  refine lv_istore_n (lv' := [(3, .int (1 : Int32)), (0, .ref (ad 0)), (1, .int a1), (2, .int a2)]) hx hb d_Mo_free_1 rfl hl (by decide) rfl (fun ls hl => ?_)
  refine lv_iconst (v := 0) hx hb d_Mo_free_2 (by decide) ?_
  refine lv_istore (lv' := [(4, .int (0 : Int32)), (3, .int (1 : Int32)), (0, .ref (ad 0)), (1, .int a1), (2, .int a2)]) hx hb d_Mo_free_3 hl (by decide) rfl (fun ls hl => ?_)
  have K5_62 : ∀ (x3_5 : Int32) (x4_5 : Int32) (H : Heap) (locs : List Loc) (ls : Array Slot), va_P (dC, dI) classes (wY ty ad mo_rows mo_columns mo_marks mo_letters mo_mate mo_made mo_nodes mo_sort mo_from mo_to mo_begin mo_other mo_states mo_kinds mo_nodeOf mo_steps mo_emissions mo_length mo_text mo_worked mo_values mo_hits mo_hitAt mo_hitLength mo_written mo_listState mo_listAt mo_listLength mo_stack) H → va_D A (wY ty ad mo_rows mo_columns mo_marks mo_letters mo_mate mo_made mo_nodes mo_sort mo_from mo_to mo_begin mo_other mo_states mo_kinds mo_nodeOf mo_steps mo_emissions mo_length mo_text mo_worked mo_values mo_hits mo_hitAt mo_hitLength mo_written mo_listState mo_listAt mo_listLength mo_stack) → va_S A s.heap H locs → lv_has ls 5 [(3, .int x3_5)] → f_Mo_free_K5_62 x3_5 x4_5 = some (r0) → W p l e rm_Mo_free s m (List.toArray [.ref (ad 0), .int a1, .int a2]) below meth c H locs 0 0 Q (F0 m 62 ls []) := by
    intro x3_5 x4_5 H locs ls hP hD hS hl hf
    rw [f_Mo_free_K5_62] at hf
    refine lv_iload_n hx hb d_Mo_free_62 rfl (lv_at hl 0 rfl) ?_
    obtain ⟨hz8, hf⟩ := gd_inv hf
    obtain rfl := os1 hf
    exact hret H locs _ _ _ d_Mo_free_63 rfl (xbool_nar hz8) hP hS
  have L5 : ∀ (n5 : Nat), ∀ (x3_5 : Int32) (x4_5 : Int32) (H : Heap) (locs : List Loc) (ls : Array Slot), va_P (dC, dI) classes (wY ty ad mo_rows mo_columns mo_marks mo_letters mo_mate mo_made mo_nodes mo_sort mo_from mo_to mo_begin mo_other mo_states mo_kinds mo_nodeOf mo_steps mo_emissions mo_length mo_text mo_worked mo_values mo_hits mo_hitAt mo_hitLength mo_written mo_listState mo_listAt mo_listLength mo_stack) H → va_D A (wY ty ad mo_rows mo_columns mo_marks mo_letters mo_mate mo_made mo_nodes mo_sort mo_from mo_to mo_begin mo_other mo_states mo_kinds mo_nodeOf mo_steps mo_emissions mo_length mo_text mo_worked mo_values mo_hits mo_hitAt mo_hitLength mo_written mo_listState mo_listAt mo_listLength mo_stack) → va_S A s.heap H locs → lv_has ls 5 [(0, .ref (ad 0)), (1, .int a1), (2, .int a2), (3, .int x3_5), (4, .int x4_5)] → f_Mo_free_L5 mo_hits mo_hitAt mo_hitLength a1 a2 (f_Mo_free_K5_62) n5 x3_5 x4_5 = some (r0) → W p l e rm_Mo_free s m (List.toArray [.ref (ad 0), .int a1, .int a2]) below meth c H locs 0 0 Q (F0 m 5 ls []) := by
    intro n5
    induction n5 with
    | zero =>
      intro x3_5 x4_5 H locs ls hP hD hS hl hf
      rw [f_Mo_free_L5] at hf
      cases hf
    | succ n5 ih5 =>
      intro x3_5 x4_5 H locs ls hP hD hS hl hf
      rw [f_Mo_free_L5] at hf
      refine lv_iload hx hb d_Mo_free_5 (lv_at hl 4 rfl) ?_
      refine lv_aload_n hx hb d_Mo_free_7 rfl (lv_at hl 0 rfl) ?_
      refine va_get (D := (dC, dI)) (ci := 8) (v := .int mo_hits) (C := R_Mo) (T := F_Mo) (N := 29) hx hb hts iw_Mo hown hK hP 0 rfl rfl 21 (by decide) (hts _ m_738) (fun _ h9 => h9) rfl d_Mo_free_8 ?_
      refine lv_icmp_ge (tgt := 62) hx hb d_Mo_free_11 (by decide) (fun c1 => ?_) (fun c1 => ?_)
      · have hf := xif_t c1 hf
        exact K5_62 x3_5 x4_5 _ _ _ hP hD hS (lv_sub hl [3] rfl) hf
      · have hf := xif_f c1 hf
        refine lv_iload_n hx hb d_Mo_free_14 rfl (lv_at hl 3 rfl) ?_
        refine lv_if_eq (tgt := 54) hx hb d_Mo_free_15 (by decide) (fun c2 => ?_) (fun c2 => ?_)
        · have hf := xif_t c2 hf
          refine lv_iconst (v := 0) hx hb d_Mo_free_54 (by decide) ?_
          refine lv_istore_n (lv' := [(3, .int (0 : Int32)), (0, .ref (ad 0)), (1, .int a1), (2, .int a2), (4, .int x4_5)]) hx hb d_Mo_free_55 rfl hl (by decide) rfl (fun ls hl => ?_)
          refine lv_iinc (v := (x4_5 + (1 : Int32))) (lv' := [(4, .int (x4_5 + (1 : Int32))), (3, .int (0 : Int32)), (0, .ref (ad 0)), (1, .int a1), (2, .int a2)]) hx hb d_Mo_free_56 hl (k := 4) rfl rfl (by decide) rfl (fun ls hl => ?_)
          refine lv_goto (tgt := 5) hx hb d_Mo_free_59 (by decide) ?_
          exact ih5 (0 : Int32) (x4_5 + (1 : Int32)) _ _ _ hP hD hS (lv_sub hl [2, 3, 4, 1, 0] rfl) hf
        · have hf := xif_f c2 hf
          refine lv_iload_n hx hb d_Mo_free_18 rfl (lv_at hl 1 rfl) ?_
          refine lv_iload_n hx hb d_Mo_free_19 rfl (lv_at hl 2 rfl) ?_
          refine lv_iadd hx hb d_Mo_free_20 ?_
          refine lv_aload_n hx hb d_Mo_free_21 rfl (lv_at hl 0 rfl) ?_
          refine va_get (D := (dC, dI)) (ci := 8) (v := .ref (ad 15)) (C := R_Mo) (T := F_Mo) (N := 29) hx hb hts iw_Mo hown hK hP 0 rfl rfl 22 (by decide) (hts _ m_739) (fun _ h9 => h9) rfl d_Mo_free_22 ?_
          refine lv_iload hx hb d_Mo_free_25 (lv_at hl 4 rfl) ?_
          obtain ⟨hi3, hf⟩ := gdi hf
          refine va_iald hx hb hK hP 15 0 rfl rfl hi3 d_Mo_free_27 ?_
          refine lv_icmp_le (tgt := 50) hx hb d_Mo_free_28 (by decide) (fun c4 => ?_) (fun c4 => ?_)
          · have hf := xif_t c4 hf
            refine lv_iconst (v := 1) hx hb d_Mo_free_50 (by decide) ?_
            refine lv_goto (tgt := 55) hx hb d_Mo_free_51 (by decide) ?_
            refine lv_istore_n (lv' := [(3, .int (1 : Int32)), (0, .ref (ad 0)), (1, .int a1), (2, .int a2), (4, .int x4_5)]) hx hb d_Mo_free_55 rfl hl (by decide) rfl (fun ls hl => ?_)
            refine lv_iinc (v := (x4_5 + (1 : Int32))) (lv' := [(4, .int (x4_5 + (1 : Int32))), (3, .int (1 : Int32)), (0, .ref (ad 0)), (1, .int a1), (2, .int a2)]) hx hb d_Mo_free_56 hl (k := 4) rfl rfl (by decide) rfl (fun ls hl => ?_)
            refine lv_goto (tgt := 5) hx hb d_Mo_free_59 (by decide) ?_
            exact ih5 (1 : Int32) (x4_5 + (1 : Int32)) _ _ _ hP hD hS (lv_sub hl [2, 3, 4, 1, 0] rfl) hf
          · have hf := xif_f c4 hf
            refine lv_aload_n hx hb d_Mo_free_31 rfl (lv_at hl 0 rfl) ?_
            refine va_get (D := (dC, dI)) (ci := 8) (v := .ref (ad 15)) (C := R_Mo) (T := F_Mo) (N := 29) hx hb hts iw_Mo hown hK hP 0 rfl rfl 22 (by decide) (hts _ m_739) (fun _ h9 => h9) rfl d_Mo_free_32 ?_
            refine lv_iload hx hb d_Mo_free_35 (lv_at hl 4 rfl) ?_
            obtain ⟨hi5, hf⟩ := gdi hf
            refine va_iald hx hb hK hP 15 0 rfl rfl hi5 d_Mo_free_37 ?_
            refine lv_aload_n hx hb d_Mo_free_38 rfl (lv_at hl 0 rfl) ?_
            refine va_get (D := (dC, dI)) (ci := 8) (v := .ref (ad 16)) (C := R_Mo) (T := F_Mo) (N := 29) hx hb hts iw_Mo hown hK hP 0 rfl rfl 23 (by decide) (hts _ m_740) (fun _ h9 => h9) rfl d_Mo_free_39 ?_
            refine lv_iload hx hb d_Mo_free_42 (lv_at hl 4 rfl) ?_
            obtain ⟨hi6, hf⟩ := gdi hf
            refine va_iald hx hb hK hP 16 0 rfl rfl hi6 d_Mo_free_44 ?_
            refine lv_iadd hx hb d_Mo_free_45 ?_
            refine lv_iload_n hx hb d_Mo_free_46 rfl (lv_at hl 1 rfl) ?_
            refine lv_icmp_gt (tgt := 54) hx hb d_Mo_free_47 (by decide) (fun c7 => ?_) (fun c7 => ?_)
            · have hf := xif_t c7 hf
              refine lv_iconst (v := 0) hx hb d_Mo_free_54 (by decide) ?_
              refine lv_istore_n (lv' := [(3, .int (0 : Int32)), (0, .ref (ad 0)), (1, .int a1), (2, .int a2), (4, .int x4_5)]) hx hb d_Mo_free_55 rfl hl (by decide) rfl (fun ls hl => ?_)
              refine lv_iinc (v := (x4_5 + (1 : Int32))) (lv' := [(4, .int (x4_5 + (1 : Int32))), (3, .int (0 : Int32)), (0, .ref (ad 0)), (1, .int a1), (2, .int a2)]) hx hb d_Mo_free_56 hl (k := 4) rfl rfl (by decide) rfl (fun ls hl => ?_)
              refine lv_goto (tgt := 5) hx hb d_Mo_free_59 (by decide) ?_
              exact ih5 (0 : Int32) (x4_5 + (1 : Int32)) _ _ _ hP hD hS (lv_sub hl [2, 3, 4, 1, 0] rfl) hf
            · have hf := xif_f c7 hf
              refine lv_iconst (v := 1) hx hb d_Mo_free_50 (by decide) ?_
              refine lv_goto (tgt := 55) hx hb d_Mo_free_51 (by decide) ?_
              refine lv_istore_n (lv' := [(3, .int (1 : Int32)), (0, .ref (ad 0)), (1, .int a1), (2, .int a2), (4, .int x4_5)]) hx hb d_Mo_free_55 rfl hl (by decide) rfl (fun ls hl => ?_)
              refine lv_iinc (v := (x4_5 + (1 : Int32))) (lv' := [(4, .int (x4_5 + (1 : Int32))), (3, .int (1 : Int32)), (0, .ref (ad 0)), (1, .int a1), (2, .int a2)]) hx hb d_Mo_free_56 hl (k := 4) rfl rfl (by decide) rfl (fun ls hl => ?_)
              refine lv_goto (tgt := 5) hx hb d_Mo_free_59 (by decide) ?_
              exact ih5 (1 : Int32) (x4_5 + (1 : Int32)) _ _ _ hP hD hS (lv_sub hl [2, 3, 4, 1, 0] rfl) hf
  exact L5 1000 (1 : Int32) (0 : Int32) _ _ _ hP hD hS (lv_sub hl [2, 3, 4, 1, 0] rfl) hf
def f_Mo_scan_J119 (w5 : (Nat → Int32)) (mo_hits_32 : Int32) (mo_hitAt_32 : (Nat → Int32)) (mo_hitLength_32 : (Nat → Int32)) (x7_49 : Int32) (x4_61 : Int32) (x5_61 : Int32) (x6_61 : Int32) (x8_61 : Int32) (rec61 : (Int32 → Int32 → Int32 → Int32 → Option (Int32 × Int32 × (Nat → Int32) × Int32 × (Nat → Int32) × (Nat → Int32)))) (r11 : Int32)  : Option (Int32 × Int32 × (Nat → Int32) × Int32 × (Nat → Int32) × (Nat → Int32)) := ob1 (f_Mo_free mo_hits_32 mo_hitAt_32 mo_hitLength_32 x7_49 x8_61) (fun r16 => if r16 = (0 : Int32) then (rec61 x4_61 x5_61 x6_61 (x8_61 + (1 : Int32))) else (rec61 x7_49 x8_61 (w5 (Int32.toNatClampNeg r11)) (x8_61 + (1 : Int32))))
def f_Mo_scan_K61_148 (x7_49 : Int32) (rec49 : (Int32 → Int32 → Int32 → Int32 → Option (Int32 × Int32 × (Nat → Int32) × Int32 × (Nat → Int32) × (Nat → Int32)))) (x4_61 : Int32) (x5_61 : Int32) (x6_61 : Int32) (x8_61 : Int32) : Option (Int32 × Int32 × (Nat → Int32) × Int32 × (Nat → Int32) × (Nat → Int32)) := rec49 x4_61 x5_61 x6_61 (x7_49 + (1 : Int32))
def f_Mo_scan_L61 (mo_length : Int32) (a1 : Int32) (a2 : Int32) (w5 : (Nat → Int32)) (mo_hits_32 : Int32) (mo_hitAt_32 : (Nat → Int32)) (mo_hitLength_32 : (Nat → Int32)) (x7_49 : Int32) (k61_148 : (Int32 → Int32 → Int32 → Int32 → Option (Int32 × Int32 × (Nat → Int32) × Int32 × (Nat → Int32) × (Nat → Int32)))) : Nat → Int32 → Int32 → Int32 → Int32 → Option (Int32 × Int32 × (Nat → Int32) × Int32 × (Nat → Int32) × (Nat → Int32))
  | 0, _, _, _, _ => none
  | n61 + 1, x4_61, x5_61, x6_61, x8_61 => if a1 < x8_61 then (k61_148 x4_61 x5_61 x6_61 x8_61) else (if mo_length < (x7_49 + x8_61) then (k61_148 x4_61 x5_61 x6_61 x8_61) else (ob1 (f_Mo_cell (0 : Int32) x7_49 x8_61) (fun r11 => gd (xin r11 15600) (if (w5 (Int32.toNatClampNeg r11)) = (-1000000 : Int32) then ((f_Mo_scan_L61 mo_length a1 a2 w5 mo_hits_32 mo_hitAt_32 mo_hitLength_32 x7_49 k61_148 n61) x4_61 x5_61 x6_61 (x8_61 + (1 : Int32))) else (if (w5 (Int32.toNatClampNeg r11)) < a2 then ((f_Mo_scan_L61 mo_length a1 a2 w5 mo_hits_32 mo_hitAt_32 mo_hitLength_32 x7_49 k61_148 n61) x4_61 x5_61 x6_61 (x8_61 + (1 : Int32))) else (if x4_61 < (0 : Int32) then (f_Mo_scan_J119 w5 mo_hits_32 mo_hitAt_32 mo_hitLength_32 x7_49 x4_61 x5_61 x6_61 x8_61 (f_Mo_scan_L61 mo_length a1 a2 w5 mo_hits_32 mo_hitAt_32 mo_hitLength_32 x7_49 k61_148 n61) r11) else (if (w5 (Int32.toNatClampNeg r11)) ≤ x6_61 then ((f_Mo_scan_L61 mo_length a1 a2 w5 mo_hits_32 mo_hitAt_32 mo_hitLength_32 x7_49 k61_148 n61) x4_61 x5_61 x6_61 (x8_61 + (1 : Int32))) else (f_Mo_scan_J119 w5 mo_hits_32 mo_hitAt_32 mo_hitLength_32 x7_49 x4_61 x5_61 x6_61 x8_61 (f_Mo_scan_L61 mo_length a1 a2 w5 mo_hits_32 mo_hitAt_32 mo_hitLength_32 x7_49 k61_148 n61) r11))))))))
def f_Mo_scan_J164 (mo_hits_32 : Int32) (mo_hitAt_32 : (Nat → Int32)) (mo_hitLength_32 : (Nat → Int32)) (rec32 : (Int32 → Int32 → (Nat → Int32) → (Nat → Int32) → Option (Int32 × Int32 × (Nat → Int32) × Int32 × (Nat → Int32) × (Nat → Int32)))) (x4_49 : Int32) (x5_49 : Int32) (t0_164 : Int32) : Option (Int32 × Int32 × (Nat → Int32) × Int32 × (Nat → Int32) × (Nat → Int32)) := if t0_164 = (0 : Int32) then (rec32 t0_164 mo_hits_32 mo_hitAt_32 mo_hitLength_32) else (gd (xin mo_hits_32 24) (gd (xin mo_hits_32 24) (rec32 t0_164 (mo_hits_32 + (1 : Int32)) (upd mo_hitAt_32 (Int32.toNatClampNeg mo_hits_32) x4_49) (upd mo_hitLength_32 (Int32.toNatClampNeg mo_hits_32) x5_49))))
def f_Mo_scan_K49_154 (mo_hits_32 : Int32) (mo_hitAt_32 : (Nat → Int32)) (mo_hitLength_32 : (Nat → Int32)) (rec32 : (Int32 → Int32 → (Nat → Int32) → (Nat → Int32) → Option (Int32 × Int32 × (Nat → Int32) × Int32 × (Nat → Int32) × (Nat → Int32)))) (x4_49 : Int32) (x5_49 : Int32) (x6_49 : Int32) (x7_49 : Int32) : Option (Int32 × Int32 × (Nat → Int32) × Int32 × (Nat → Int32) × (Nat → Int32)) := if x4_49 < (0 : Int32) then (f_Mo_scan_J164 mo_hits_32 mo_hitAt_32 mo_hitLength_32 rec32 x4_49 x5_49 (0 : Int32)) else (f_Mo_scan_J164 mo_hits_32 mo_hitAt_32 mo_hitLength_32 rec32 x4_49 x5_49 (1 : Int32))
def f_Mo_scan_L49 (mo_length : Int32) (a1 : Int32) (a2 : Int32) (w5 : (Nat → Int32)) (mo_hits_32 : Int32) (mo_hitAt_32 : (Nat → Int32)) (mo_hitLength_32 : (Nat → Int32)) (k49_154 : (Int32 → Int32 → Int32 → Int32 → Option (Int32 × Int32 × (Nat → Int32) × Int32 × (Nat → Int32) × (Nat → Int32)))) : Nat → Int32 → Int32 → Int32 → Int32 → Option (Int32 × Int32 × (Nat → Int32) × Int32 × (Nat → Int32) × (Nat → Int32))
  | 0, _, _, _, _ => none
  | n49 + 1, x4_49, x5_49, x6_49, x7_49 => if mo_length ≤ x7_49 then (k49_154 x4_49 x5_49 x6_49 x7_49) else (f_Mo_scan_L61 mo_length a1 a2 w5 mo_hits_32 mo_hitAt_32 mo_hitLength_32 x7_49 (f_Mo_scan_K61_148 x7_49 (f_Mo_scan_L49 mo_length a1 a2 w5 mo_hits_32 mo_hitAt_32 mo_hitLength_32 k49_154 n49)) 1000 x4_49 x5_49 x6_49 (1 : Int32))
def f_Mo_scan_K32_204 (w4 : Int32) (w5 : (Nat → Int32)) (x3_32 : Int32) (mo_hits_32 : Int32) (mo_hitAt_32 : (Nat → Int32)) (mo_hitLength_32 : (Nat → Int32)) : Option (Int32 × Int32 × (Nat → Int32) × Int32 × (Nat → Int32) × (Nat → Int32)) := some (mo_hits_32, w4, w5, mo_hits_32, mo_hitAt_32, mo_hitLength_32)
def f_Mo_scan_L32 (mo_length : Int32) (a1 : Int32) (a2 : Int32) (w5 : (Nat → Int32)) (k32_204 : (Int32 → Int32 → (Nat → Int32) → (Nat → Int32) → Option (Int32 × Int32 × (Nat → Int32) × Int32 × (Nat → Int32) × (Nat → Int32)))) : Nat → Int32 → Int32 → (Nat → Int32) → (Nat → Int32) → Option (Int32 × Int32 × (Nat → Int32) × Int32 × (Nat → Int32) × (Nat → Int32))
  | 0, _, _, _, _ => none
  | n32 + 1, x3_32, mo_hits_32, mo_hitAt_32, mo_hitLength_32 => if x3_32 = (0 : Int32) then (k32_204 x3_32 mo_hits_32 mo_hitAt_32 mo_hitLength_32) else (f_Mo_scan_L49 mo_length a1 a2 w5 mo_hits_32 mo_hitAt_32 mo_hitLength_32 (f_Mo_scan_K49_154 mo_hits_32 mo_hitAt_32 mo_hitLength_32 (f_Mo_scan_L32 mo_length a1 a2 w5 k32_204 n32)) 1000 (-1 : Int32) (0 : Int32) (-1000000 : Int32) (0 : Int32))
def f_Mo_scan (mo_made : Int32) (mo_begin : (Nat → Int32)) (mo_other : (Nat → Int32)) (mo_states : Int32) (mo_kinds : (Nat → Int32)) (mo_nodeOf : (Nat → Int32)) (mo_steps : (Nat → Int32)) (mo_emissions : (Nat → Int32)) (mo_length : Int32) (mo_text : (Nat → Int32)) (mo_worked : Int32) (mo_values : (Nat → Int32)) (mo_hits : Int32) (mo_hitAt : (Nat → Int32)) (mo_hitLength : (Nat → Int32)) (a1 : Int32) (a2 : Int32) : Option (Int32 × Int32 × (Nat → Int32) × Int32 × (Nat → Int32) × (Nat → Int32)) := if mo_made = (0 : Int32) then (some ((-1000000 : Int32), mo_worked, mo_values, mo_hits, mo_hitAt, mo_hitLength)) else (if a1 < (1 : Int32) then (some ((-1000000 : Int32), mo_worked, mo_values, mo_hits, mo_hitAt, mo_hitLength)) else (if a1 ≤ (12 : Int32) then (ob2 (f_Mo_work mo_begin mo_other mo_states mo_kinds mo_nodeOf mo_steps mo_emissions mo_length mo_text mo_worked mo_values) (fun w4 w5 => f_Mo_scan_L32 mo_length a1 a2 w5 (f_Mo_scan_K32_204 w4 w5) 1000 (1 : Int32) (0 : Int32) mo_hitAt mo_hitLength)) else (some ((-1000000 : Int32), mo_worked, mo_values, mo_hits, mo_hitAt, mo_hitLength))))
set_option maxHeartbeats 4000000 in
set_option maxRecDepth 100000 in
theorem c_Mo_scan (l : Launch) (dC : Nat → ClassId) (dI : Nat → Nat → Nat) (ty : Nat → ClassId) (ad : Nat → Nat) (ta : Nat → Nat) (sz : Nat) (mo_rows : Int32) (mo_columns : Int32) (mo_marks : (Nat → Int32)) (mo_letters : (Nat → Int32)) (mo_mate : (Nat → Int32)) (mo_made : Int32) (mo_nodes : Int32) (mo_sort : (Nat → Int32)) (mo_from : (Nat → Int32)) (mo_to : (Nat → Int32)) (mo_begin : (Nat → Int32)) (mo_other : (Nat → Int32)) (mo_states : Int32) (mo_kinds : (Nat → Int32)) (mo_nodeOf : (Nat → Int32)) (mo_steps : (Nat → Int32)) (mo_emissions : (Nat → Int32)) (mo_length : Int32) (mo_text : (Nat → Int32)) (mo_worked : Int32) (mo_values : (Nat → Int32)) (mo_hits : Int32) (mo_hitAt : (Nat → Int32)) (mo_hitLength : (Nat → Int32)) (mo_written : Int32) (mo_listState : (Nat → Int32)) (mo_listAt : (Nat → Int32)) (mo_listLength : (Nat → Int32)) (mo_stack : (Nat → Int32)) (a1 : Int32) (a2 : Int32) (r0 : Int32) (n_mo_worked : Int32) (n_mo_values : (Nat → Int32)) (n_mo_hits : Int32) (n_mo_hitAt : (Nat → Int32)) (n_mo_hitLength : (Nat → Int32)) (hf : f_Mo_scan mo_made mo_begin mo_other mo_states mo_kinds mo_nodeOf mo_steps mo_emissions mo_length mo_text mo_worked mo_values mo_hits mo_hitAt mo_hitLength a1 a2 = some (r0, n_mo_worked, n_mo_values, n_mo_hits, n_mo_hitAt, n_mo_hitLength)) : Met l y_Mo_scan (.code y_Mo_scan prog_10_method_40_code 10 (some .int) :: gw) rm_Mo_scan (xPre ta (dC, dI) classes (tys3 ty) (wY ty ad mo_rows mo_columns mo_marks mo_letters mo_mate mo_made mo_nodes mo_sort mo_from mo_to mo_begin mo_other mo_states mo_kinds mo_nodeOf mo_steps mo_emissions mo_length mo_text mo_worked mo_values mo_hits mo_hitAt mo_hitLength mo_written mo_listState mo_listAt mo_listLength mo_stack) sz [.ref (ad 0), .int a1, .int a2]) (xQi (dC, dI) classes (wY ty ad mo_rows mo_columns mo_marks mo_letters mo_mate mo_made mo_nodes mo_sort mo_from mo_to mo_begin mo_other mo_states mo_kinds mo_nodeOf mo_steps mo_emissions mo_length mo_text mo_worked mo_values mo_hits mo_hitAt mo_hitLength mo_written mo_listState mo_listAt mo_listLength mo_stack) (wY ty ad mo_rows mo_columns mo_marks mo_letters mo_mate mo_made mo_nodes mo_sort mo_from mo_to mo_begin mo_other mo_states mo_kinds mo_nodeOf mo_steps mo_emissions mo_length mo_text n_mo_worked n_mo_values n_mo_hits n_mo_hitAt n_mo_hitLength mo_written mo_listState mo_listAt mo_listLength mo_stack) sz r0) 0 0 (va_A (wY ty ad mo_rows mo_columns mo_marks mo_letters mo_mate mo_made mo_nodes mo_sort mo_from mo_to mo_begin mo_other mo_states mo_kinds mo_nodeOf mo_steps mo_emissions mo_length mo_text mo_worked mo_values mo_hits mo_hitAt mo_hitLength mo_written mo_listState mo_listAt mo_listLength mo_stack) sz) := by
  refine xmet_i rfl (Nat.le_of_ble_eq_true rfl) ?_
  intro p e s m below meth c A ls Q hx hb hml hts hown hK hN hA hP hD hS hl hret
  replace hown : s.vm.findClass R_Mo = some m.cls := hown
  have hl : lv_has ls 10 [(0, .ref (ad 0)), (1, .int a1), (2, .int a2)] := hl
  rw [f_Mo_scan] at hf
  obtain ⟨H, eH⟩ : ∃ H : Heap, H = s.heap := ⟨_, rfl⟩
  obtain ⟨locs, eL⟩ : ∃ L : List Loc, L = [] := ⟨_, rfl⟩
  have hP : va_P (dC, dI) classes (wY ty ad mo_rows mo_columns mo_marks mo_letters mo_mate mo_made mo_nodes mo_sort mo_from mo_to mo_begin mo_other mo_states mo_kinds mo_nodeOf mo_steps mo_emissions mo_length mo_text mo_worked mo_values mo_hits mo_hitAt mo_hitLength mo_written mo_listState mo_listAt mo_listLength mo_stack) H := by rw [eH]; exact hP
  have hS : va_S A s.heap H locs := by rw [eH, eL]; exact hS
  rw [← eL]
  suffices hgoal : W p l e rm_Mo_scan s m (List.toArray [.ref (ad 0), .int a1, .int a2]) below meth c H locs 0 0 Q (F0 m 0 ls []) by rw [eH] at hgoal; exact hgoal
  clear eH eL
  refine lv_aload_n hx hb d_Mo_scan_0 rfl (lv_at hl 0 rfl) ?_
  refine va_get (D := (dC, dI)) (ci := 8) (v := .int mo_made) (C := R_Mo) (T := F_Mo) (N := 29) hx hb hts iw_Mo hown hK hP 0 rfl rfl 5 (by decide) (hts _ m_722) (fun _ h9 => h9) rfl d_Mo_scan_1 ?_
  refine lv_if_eq (tgt := 18) hx hb d_Mo_scan_4 (by decide) (fun c1 => ?_) (fun c1 => ?_)
  · have hf := xif_t c1 hf
    refine lv_ldc (v := -1000000) hx hb hown (hts _ m_825) d_Mo_scan_18 ?_
    obtain ⟨rfl, rfl, rfl, rfl, rfl, rfl⟩ := os6 hf
    exact hret H locs _ _ _ d_Mo_scan_20 rfl hP hS
  · have hf := xif_f c1 hf
    refine lv_iload_n hx hb d_Mo_scan_7 rfl (lv_at hl 1 rfl) ?_
    refine lv_iconst (v := 1) hx hb d_Mo_scan_8 (by decide) ?_
    refine lv_icmp_lt (tgt := 18) hx hb d_Mo_scan_9 (by decide) (fun c2 => ?_) (fun c2 => ?_)
    · have hf := xif_t c2 hf
      refine lv_ldc (v := -1000000) hx hb hown (hts _ m_825) d_Mo_scan_18 ?_
      obtain ⟨rfl, rfl, rfl, rfl, rfl, rfl⟩ := os6 hf
      exact hret H locs _ _ _ d_Mo_scan_20 rfl hP hS
    · have hf := xif_f c2 hf
      refine lv_iload_n hx hb d_Mo_scan_12 rfl (lv_at hl 1 rfl) ?_
      refine lv_bipush (v := 12) hx hb d_Mo_scan_13 (by decide) ?_
      refine lv_icmp_le (tgt := 21) hx hb d_Mo_scan_15 (by decide) (fun c3 => ?_) (fun c3 => ?_)
      · have hf := xif_t c3 hf
        refine lv_aload_n hx hb d_Mo_scan_21 rfl (lv_at hl 0 rfl) ?_
        obtain ⟨w4, w5, hc6, hf⟩ := ob2_inv hf
        refine xk_v (xrunV (C := R_Mo) (As := []) (rest := []) ⟨hx, hb, hml, hown, hts⟩ (c_Mo_work l dC dI ty ad ta H.size mo_rows mo_columns mo_marks mo_letters mo_mate mo_made mo_nodes mo_sort mo_from mo_to mo_begin mo_other mo_states mo_kinds mo_nodeOf mo_steps mo_emissions mo_length mo_text mo_worked mo_values mo_hits mo_hitAt mo_hitLength mo_written mo_listState mo_listAt mo_listLength mo_stack  w4 w5 hc6) z_Mo_183 ⟨⟨rfl, rfl⟩, by decide, by decide⟩ hK hP hD hN hS hA (va_recv hK hP (ci := 8) (q0 := 0) rfl rfl) rfl hl.1 rfl (Nat.le_of_ble_eq_true rfl) d_Mo_scan_22 ⟨Nat.zero_le _, Nat.zero_le _⟩) hS hD rfl hA (fun H locs hP hD hS => ?_)
        refine W.eq (g2 := F0 m 25 ls []) rfl ?_
        refine lv_aload_n hx hb d_Mo_scan_25 rfl (lv_at hl 0 rfl) ?_
        refine lv_iconst (v := 0) hx hb d_Mo_scan_26 (by decide) ?_
        refine va_put (D := (dC, dI)) (ci := 8) (v := .int (0 : Int32)) (ty := .int) (C := R_Mo) (T := F_Mo) (N := 29) hx hb hts iw_Mo t_Mo t_Mo_ok n_Mo hown hK hP hD hS 0 rfl rfl 21 (by decide) (hts _ m_738) (fun _ h9 => h9) rfl (by decide +kernel) rfl rfl (Nat.le_of_ble_eq_true rfl) d_Mo_scan_27 (fun H locs hP hD hS => ?_)
        have hP : va_P (dC, dI) classes (wY ty ad mo_rows mo_columns mo_marks mo_letters mo_mate mo_made mo_nodes mo_sort mo_from mo_to mo_begin mo_other mo_states mo_kinds mo_nodeOf mo_steps mo_emissions mo_length mo_text w4 w5 (0 : Int32) mo_hitAt mo_hitLength mo_written mo_listState mo_listAt mo_listLength mo_stack) H := hP
        have hD : va_D A (wY ty ad mo_rows mo_columns mo_marks mo_letters mo_mate mo_made mo_nodes mo_sort mo_from mo_to mo_begin mo_other mo_states mo_kinds mo_nodeOf mo_steps mo_emissions mo_length mo_text w4 w5 (0 : Int32) mo_hitAt mo_hitLength mo_written mo_listState mo_listAt mo_listLength mo_stack) := hD
        refine lv_iconst (v := 1) hx hb d_Mo_scan_30 (by decide) ?_
        refine lv_istore_n (lv' := [(3, .int (1 : Int32)), (0, .ref (ad 0)), (1, .int a1), (2, .int a2)]) hx hb d_Mo_scan_31 rfl hl (by decide) rfl (fun ls hl => ?_)
        have K32_204 : ∀ (x3_32 : Int32) (mo_hits_32 : Int32) (mo_hitAt_32 : (Nat → Int32)) (mo_hitLength_32 : (Nat → Int32)) (H : Heap) (locs : List Loc) (ls : Array Slot), va_P (dC, dI) classes (wY ty ad mo_rows mo_columns mo_marks mo_letters mo_mate mo_made mo_nodes mo_sort mo_from mo_to mo_begin mo_other mo_states mo_kinds mo_nodeOf mo_steps mo_emissions mo_length mo_text w4 w5 mo_hits_32 mo_hitAt_32 mo_hitLength_32 mo_written mo_listState mo_listAt mo_listLength mo_stack) H → va_D A (wY ty ad mo_rows mo_columns mo_marks mo_letters mo_mate mo_made mo_nodes mo_sort mo_from mo_to mo_begin mo_other mo_states mo_kinds mo_nodeOf mo_steps mo_emissions mo_length mo_text w4 w5 mo_hits_32 mo_hitAt_32 mo_hitLength_32 mo_written mo_listState mo_listAt mo_listLength mo_stack) → va_S A s.heap H locs → lv_has ls 10 [(0, .ref (ad 0))] → f_Mo_scan_K32_204 w4 w5 x3_32 mo_hits_32 mo_hitAt_32 mo_hitLength_32 = some (r0, n_mo_worked, n_mo_values, n_mo_hits, n_mo_hitAt, n_mo_hitLength) → W p l e rm_Mo_scan s m (List.toArray [.ref (ad 0), .int a1, .int a2]) below meth c H locs 0 0 Q (F0 m 204 ls []) := by
          intro x3_32 mo_hits_32 mo_hitAt_32 mo_hitLength_32 H locs ls hP hD hS hl hf
          rw [f_Mo_scan_K32_204] at hf
          refine lv_aload_n hx hb d_Mo_scan_204 rfl (lv_at hl 0 rfl) ?_
          refine va_get (D := (dC, dI)) (ci := 8) (v := .int mo_hits_32) (C := R_Mo) (T := F_Mo) (N := 29) hx hb hts iw_Mo hown hK hP 0 rfl rfl 21 (by decide) (hts _ m_738) (fun _ h9 => h9) rfl d_Mo_scan_205 ?_
          obtain ⟨rfl, rfl, rfl, rfl, rfl, rfl⟩ := os6 hf
          exact hret H locs _ _ _ d_Mo_scan_208 rfl hP hS
        have L32 : ∀ (n32 : Nat), ∀ (x3_32 : Int32) (mo_hits_32 : Int32) (mo_hitAt_32 : (Nat → Int32)) (mo_hitLength_32 : (Nat → Int32)) (H : Heap) (locs : List Loc) (ls : Array Slot), va_P (dC, dI) classes (wY ty ad mo_rows mo_columns mo_marks mo_letters mo_mate mo_made mo_nodes mo_sort mo_from mo_to mo_begin mo_other mo_states mo_kinds mo_nodeOf mo_steps mo_emissions mo_length mo_text w4 w5 mo_hits_32 mo_hitAt_32 mo_hitLength_32 mo_written mo_listState mo_listAt mo_listLength mo_stack) H → va_D A (wY ty ad mo_rows mo_columns mo_marks mo_letters mo_mate mo_made mo_nodes mo_sort mo_from mo_to mo_begin mo_other mo_states mo_kinds mo_nodeOf mo_steps mo_emissions mo_length mo_text w4 w5 mo_hits_32 mo_hitAt_32 mo_hitLength_32 mo_written mo_listState mo_listAt mo_listLength mo_stack) → va_S A s.heap H locs → lv_has ls 10 [(0, .ref (ad 0)), (1, .int a1), (2, .int a2), (3, .int x3_32)] → f_Mo_scan_L32 mo_length a1 a2 w5 (f_Mo_scan_K32_204 w4 w5) n32 x3_32 mo_hits_32 mo_hitAt_32 mo_hitLength_32 = some (r0, n_mo_worked, n_mo_values, n_mo_hits, n_mo_hitAt, n_mo_hitLength) → W p l e rm_Mo_scan s m (List.toArray [.ref (ad 0), .int a1, .int a2]) below meth c H locs 0 0 Q (F0 m 32 ls []) := by
          intro n32
          induction n32 with
          | zero =>
            intro x3_32 mo_hits_32 mo_hitAt_32 mo_hitLength_32 H locs ls hP hD hS hl hf
            rw [f_Mo_scan_L32] at hf
            cases hf
          | succ n32 ih32 =>
            intro x3_32 mo_hits_32 mo_hitAt_32 mo_hitLength_32 H locs ls hP hD hS hl hf
            rw [f_Mo_scan_L32] at hf
            refine lv_iload_n hx hb d_Mo_scan_32 rfl (lv_at hl 3 rfl) ?_
            refine lv_if_eq (tgt := 204) hx hb d_Mo_scan_33 (by decide) (fun c7 => ?_) (fun c7 => ?_)
            · have hf := xif_t c7 hf
              exact K32_204 x3_32 mo_hits_32 mo_hitAt_32 mo_hitLength_32 _ _ _ hP hD hS (lv_sub hl [0] rfl) hf
            · have hf := xif_f c7 hf
              refine lv_iconst (v := -1) hx hb d_Mo_scan_36 (by decide) ?_
              refine lv_istore (lv' := [(4, .int (-1 : Int32)), (0, .ref (ad 0)), (1, .int a1), (2, .int a2), (3, .int x3_32)]) hx hb d_Mo_scan_37 hl (by decide) rfl (fun ls hl => ?_)
              refine lv_iconst (v := 0) hx hb d_Mo_scan_39 (by decide) ?_
              refine lv_istore (lv' := [(5, .int (0 : Int32)), (4, .int (-1 : Int32)), (0, .ref (ad 0)), (1, .int a1), (2, .int a2), (3, .int x3_32)]) hx hb d_Mo_scan_40 hl (by decide) rfl (fun ls hl => ?_)
              refine lv_ldc (v := -1000000) hx hb hown (hts _ m_825) d_Mo_scan_42 ?_
              refine lv_istore (lv' := [(6, .int (-1000000 : Int32)), (5, .int (0 : Int32)), (4, .int (-1 : Int32)), (0, .ref (ad 0)), (1, .int a1), (2, .int a2), (3, .int x3_32)]) hx hb d_Mo_scan_44 hl (by decide) rfl (fun ls hl => ?_)
              refine lv_iconst (v := 0) hx hb d_Mo_scan_46 (by decide) ?_
              refine lv_istore (lv' := [(7, .int (0 : Int32)), (6, .int (-1000000 : Int32)), (5, .int (0 : Int32)), (4, .int (-1 : Int32)), (0, .ref (ad 0)), (1, .int a1), (2, .int a2), (3, .int x3_32)]) hx hb d_Mo_scan_47 hl (by decide) rfl (fun ls hl => ?_)
              have K49_154 : ∀ (x4_49 : Int32) (x5_49 : Int32) (x6_49 : Int32) (x7_49 : Int32) (H : Heap) (locs : List Loc) (ls : Array Slot), va_P (dC, dI) classes (wY ty ad mo_rows mo_columns mo_marks mo_letters mo_mate mo_made mo_nodes mo_sort mo_from mo_to mo_begin mo_other mo_states mo_kinds mo_nodeOf mo_steps mo_emissions mo_length mo_text w4 w5 mo_hits_32 mo_hitAt_32 mo_hitLength_32 mo_written mo_listState mo_listAt mo_listLength mo_stack) H → va_D A (wY ty ad mo_rows mo_columns mo_marks mo_letters mo_mate mo_made mo_nodes mo_sort mo_from mo_to mo_begin mo_other mo_states mo_kinds mo_nodeOf mo_steps mo_emissions mo_length mo_text w4 w5 mo_hits_32 mo_hitAt_32 mo_hitLength_32 mo_written mo_listState mo_listAt mo_listLength mo_stack) → va_S A s.heap H locs → lv_has ls 10 [(0, .ref (ad 0)), (1, .int a1), (2, .int a2), (4, .int x4_49), (5, .int x5_49)] → f_Mo_scan_K49_154 mo_hits_32 mo_hitAt_32 mo_hitLength_32 (f_Mo_scan_L32 mo_length a1 a2 w5 (f_Mo_scan_K32_204 w4 w5) n32) x4_49 x5_49 x6_49 x7_49 = some (r0, n_mo_worked, n_mo_values, n_mo_hits, n_mo_hitAt, n_mo_hitLength) → W p l e rm_Mo_scan s m (List.toArray [.ref (ad 0), .int a1, .int a2]) below meth c H locs 0 0 Q (F0 m 154 ls []) := by
                intro x4_49 x5_49 x6_49 x7_49 H locs ls hP hD hS hl hf
                rw [f_Mo_scan_K49_154] at hf
                refine lv_iload hx hb d_Mo_scan_154 (lv_at hl 3 rfl) ?_
                have J164 : ∀ (t0_164 : Int32) (H : Heap) (locs : List Loc) (ls : Array Slot), va_P (dC, dI) classes (wY ty ad mo_rows mo_columns mo_marks mo_letters mo_mate mo_made mo_nodes mo_sort mo_from mo_to mo_begin mo_other mo_states mo_kinds mo_nodeOf mo_steps mo_emissions mo_length mo_text w4 w5 mo_hits_32 mo_hitAt_32 mo_hitLength_32 mo_written mo_listState mo_listAt mo_listLength mo_stack) H → va_D A (wY ty ad mo_rows mo_columns mo_marks mo_letters mo_mate mo_made mo_nodes mo_sort mo_from mo_to mo_begin mo_other mo_states mo_kinds mo_nodeOf mo_steps mo_emissions mo_length mo_text w4 w5 mo_hits_32 mo_hitAt_32 mo_hitLength_32 mo_written mo_listState mo_listAt mo_listLength mo_stack) → va_S A s.heap H locs → lv_has ls 10 [(0, .ref (ad 0)), (1, .int a1), (2, .int a2), (4, .int x4_49), (5, .int x5_49)] → f_Mo_scan_J164 mo_hits_32 mo_hitAt_32 mo_hitLength_32 (f_Mo_scan_L32 mo_length a1 a2 w5 (f_Mo_scan_K32_204 w4 w5) n32) x4_49 x5_49 t0_164 = some (r0, n_mo_worked, n_mo_values, n_mo_hits, n_mo_hitAt, n_mo_hitLength) → W p l e rm_Mo_scan s m (List.toArray [.ref (ad 0), .int a1, .int a2]) below meth c H locs 0 0 Q (F0 m 164 ls [.int t0_164]) := by
                  intro t0_164 H locs ls hP hD hS hl hf
                  rw [f_Mo_scan_J164] at hf
                  refine lv_istore_n (lv' := [(3, .int t0_164), (0, .ref (ad 0)), (1, .int a1), (2, .int a2), (4, .int x4_49), (5, .int x5_49)]) hx hb d_Mo_scan_164 rfl hl (by decide) rfl (fun ls hl => ?_)
                  refine lv_iload_n hx hb d_Mo_scan_165 rfl (lv_at hl 0 rfl) ?_
                  refine lv_if_eq (tgt := 201) hx hb d_Mo_scan_166 (by decide) (fun c21 => ?_) (fun c21 => ?_)
                  · have hf := xif_t c21 hf
                    refine lv_goto (tgt := 32) hx hb d_Mo_scan_201 (by decide) ?_
                    exact ih32 t0_164 mo_hits_32 mo_hitAt_32 mo_hitLength_32 _ _ _ hP hD hS (lv_sub hl [1, 2, 3, 0] rfl) hf
                  · have hf := xif_f c21 hf
                    refine lv_aload_n hx hb d_Mo_scan_169 rfl (lv_at hl 1 rfl) ?_
                    refine va_get (D := (dC, dI)) (ci := 8) (v := .ref (ad 15)) (C := R_Mo) (T := F_Mo) (N := 29) hx hb hts iw_Mo hown hK hP 0 rfl rfl 22 (by decide) (hts _ m_739) (fun _ h9 => h9) rfl d_Mo_scan_170 ?_
                    refine lv_aload_n hx hb d_Mo_scan_173 rfl (lv_at hl 1 rfl) ?_
                    refine va_get (D := (dC, dI)) (ci := 8) (v := .int mo_hits_32) (C := R_Mo) (T := F_Mo) (N := 29) hx hb hts iw_Mo hown hK hP 0 rfl rfl 21 (by decide) (hts _ m_738) (fun _ h9 => h9) rfl d_Mo_scan_174 ?_
                    refine lv_iload hx hb d_Mo_scan_177 (lv_at hl 4 rfl) ?_
                    obtain ⟨hi22, hf⟩ := gdi hf
                    refine va_iast hx hb hK hP hD hS 15 0 rfl rfl hi22 d_Mo_scan_179 (fun H locs hP hD hS => ?_)
                    have hP : va_P (dC, dI) classes (wY ty ad mo_rows mo_columns mo_marks mo_letters mo_mate mo_made mo_nodes mo_sort mo_from mo_to mo_begin mo_other mo_states mo_kinds mo_nodeOf mo_steps mo_emissions mo_length mo_text w4 w5 mo_hits_32 (upd mo_hitAt_32 (Int32.toNatClampNeg mo_hits_32) x4_49) mo_hitLength_32 mo_written mo_listState mo_listAt mo_listLength mo_stack) H := hP
                    have hD : va_D A (wY ty ad mo_rows mo_columns mo_marks mo_letters mo_mate mo_made mo_nodes mo_sort mo_from mo_to mo_begin mo_other mo_states mo_kinds mo_nodeOf mo_steps mo_emissions mo_length mo_text w4 w5 mo_hits_32 (upd mo_hitAt_32 (Int32.toNatClampNeg mo_hits_32) x4_49) mo_hitLength_32 mo_written mo_listState mo_listAt mo_listLength mo_stack) := hD
                    refine lv_aload_n hx hb d_Mo_scan_180 rfl (lv_at hl 1 rfl) ?_
                    refine va_get (D := (dC, dI)) (ci := 8) (v := .ref (ad 16)) (C := R_Mo) (T := F_Mo) (N := 29) hx hb hts iw_Mo hown hK hP 0 rfl rfl 23 (by decide) (hts _ m_740) (fun _ h9 => h9) rfl d_Mo_scan_181 ?_
                    refine lv_aload_n hx hb d_Mo_scan_184 rfl (lv_at hl 1 rfl) ?_
                    refine va_get (D := (dC, dI)) (ci := 8) (v := .int mo_hits_32) (C := R_Mo) (T := F_Mo) (N := 29) hx hb hts iw_Mo hown hK hP 0 rfl rfl 21 (by decide) (hts _ m_738) (fun _ h9 => h9) rfl d_Mo_scan_185 ?_
                    refine lv_iload hx hb d_Mo_scan_188 (lv_at hl 5 rfl) ?_
                    obtain ⟨hi23, hf⟩ := gdi hf
                    refine va_iast hx hb hK hP hD hS 16 0 rfl rfl hi23 d_Mo_scan_190 (fun H locs hP hD hS => ?_)
                    have hP : va_P (dC, dI) classes (wY ty ad mo_rows mo_columns mo_marks mo_letters mo_mate mo_made mo_nodes mo_sort mo_from mo_to mo_begin mo_other mo_states mo_kinds mo_nodeOf mo_steps mo_emissions mo_length mo_text w4 w5 mo_hits_32 (upd mo_hitAt_32 (Int32.toNatClampNeg mo_hits_32) x4_49) (upd mo_hitLength_32 (Int32.toNatClampNeg mo_hits_32) x5_49) mo_written mo_listState mo_listAt mo_listLength mo_stack) H := hP
                    have hD : va_D A (wY ty ad mo_rows mo_columns mo_marks mo_letters mo_mate mo_made mo_nodes mo_sort mo_from mo_to mo_begin mo_other mo_states mo_kinds mo_nodeOf mo_steps mo_emissions mo_length mo_text w4 w5 mo_hits_32 (upd mo_hitAt_32 (Int32.toNatClampNeg mo_hits_32) x4_49) (upd mo_hitLength_32 (Int32.toNatClampNeg mo_hits_32) x5_49) mo_written mo_listState mo_listAt mo_listLength mo_stack) := hD
                    refine lv_aload_n hx hb d_Mo_scan_191 rfl (lv_at hl 1 rfl) ?_
                    refine lv_aload_n hx hb d_Mo_scan_192 rfl (lv_at hl 1 rfl) ?_
                    refine va_get (D := (dC, dI)) (ci := 8) (v := .int mo_hits_32) (C := R_Mo) (T := F_Mo) (N := 29) hx hb hts iw_Mo hown hK hP 0 rfl rfl 21 (by decide) (hts _ m_738) (fun _ h9 => h9) rfl d_Mo_scan_193 ?_
                    refine lv_iconst (v := 1) hx hb d_Mo_scan_196 (by decide) ?_
                    refine lv_iadd hx hb d_Mo_scan_197 ?_
                    refine va_put (D := (dC, dI)) (ci := 8) (v := .int (mo_hits_32 + (1 : Int32))) (ty := .int) (C := R_Mo) (T := F_Mo) (N := 29) hx hb hts iw_Mo t_Mo t_Mo_ok n_Mo hown hK hP hD hS 0 rfl rfl 21 (by decide) (hts _ m_738) (fun _ h9 => h9) rfl (by decide +kernel) rfl rfl (Nat.le_of_ble_eq_true rfl) d_Mo_scan_198 (fun H locs hP hD hS => ?_)
                    have hP : va_P (dC, dI) classes (wY ty ad mo_rows mo_columns mo_marks mo_letters mo_mate mo_made mo_nodes mo_sort mo_from mo_to mo_begin mo_other mo_states mo_kinds mo_nodeOf mo_steps mo_emissions mo_length mo_text w4 w5 (mo_hits_32 + (1 : Int32)) (upd mo_hitAt_32 (Int32.toNatClampNeg mo_hits_32) x4_49) (upd mo_hitLength_32 (Int32.toNatClampNeg mo_hits_32) x5_49) mo_written mo_listState mo_listAt mo_listLength mo_stack) H := hP
                    have hD : va_D A (wY ty ad mo_rows mo_columns mo_marks mo_letters mo_mate mo_made mo_nodes mo_sort mo_from mo_to mo_begin mo_other mo_states mo_kinds mo_nodeOf mo_steps mo_emissions mo_length mo_text w4 w5 (mo_hits_32 + (1 : Int32)) (upd mo_hitAt_32 (Int32.toNatClampNeg mo_hits_32) x4_49) (upd mo_hitLength_32 (Int32.toNatClampNeg mo_hits_32) x5_49) mo_written mo_listState mo_listAt mo_listLength mo_stack) := hD
                    refine lv_goto (tgt := 32) hx hb d_Mo_scan_201 (by decide) ?_
                    exact ih32 t0_164 (mo_hits_32 + (1 : Int32)) (upd mo_hitAt_32 (Int32.toNatClampNeg mo_hits_32) x4_49) (upd mo_hitLength_32 (Int32.toNatClampNeg mo_hits_32) x5_49) _ _ _ hP hD hS (lv_sub hl [1, 2, 3, 0] rfl) hf
                refine lv_if_lt (tgt := 163) hx hb d_Mo_scan_156 (by decide) (fun c24 => ?_) (fun c24 => ?_)
                · have hf := xif_t c24 hf
                  refine lv_iconst (v := 0) hx hb d_Mo_scan_163 (by decide) ?_
                  exact J164 (0 : Int32) _ _ _ hP hD hS (lv_sub hl [0, 1, 2, 3, 4] rfl) hf
                · have hf := xif_f c24 hf
                  refine lv_iconst (v := 1) hx hb d_Mo_scan_159 (by decide) ?_
                  refine lv_goto (tgt := 164) hx hb d_Mo_scan_160 (by decide) ?_
                  exact J164 (1 : Int32) _ _ _ hP hD hS (lv_sub hl [0, 1, 2, 3, 4] rfl) hf
              have L49 : ∀ (n49 : Nat), ∀ (x4_49 : Int32) (x5_49 : Int32) (x6_49 : Int32) (x7_49 : Int32) (H : Heap) (locs : List Loc) (ls : Array Slot), va_P (dC, dI) classes (wY ty ad mo_rows mo_columns mo_marks mo_letters mo_mate mo_made mo_nodes mo_sort mo_from mo_to mo_begin mo_other mo_states mo_kinds mo_nodeOf mo_steps mo_emissions mo_length mo_text w4 w5 mo_hits_32 mo_hitAt_32 mo_hitLength_32 mo_written mo_listState mo_listAt mo_listLength mo_stack) H → va_D A (wY ty ad mo_rows mo_columns mo_marks mo_letters mo_mate mo_made mo_nodes mo_sort mo_from mo_to mo_begin mo_other mo_states mo_kinds mo_nodeOf mo_steps mo_emissions mo_length mo_text w4 w5 mo_hits_32 mo_hitAt_32 mo_hitLength_32 mo_written mo_listState mo_listAt mo_listLength mo_stack) → va_S A s.heap H locs → lv_has ls 10 [(0, .ref (ad 0)), (1, .int a1), (2, .int a2), (4, .int x4_49), (5, .int x5_49), (6, .int x6_49), (7, .int x7_49)] → f_Mo_scan_L49 mo_length a1 a2 w5 mo_hits_32 mo_hitAt_32 mo_hitLength_32 (f_Mo_scan_K49_154 mo_hits_32 mo_hitAt_32 mo_hitLength_32 (f_Mo_scan_L32 mo_length a1 a2 w5 (f_Mo_scan_K32_204 w4 w5) n32)) n49 x4_49 x5_49 x6_49 x7_49 = some (r0, n_mo_worked, n_mo_values, n_mo_hits, n_mo_hitAt, n_mo_hitLength) → W p l e rm_Mo_scan s m (List.toArray [.ref (ad 0), .int a1, .int a2]) below meth c H locs 0 0 Q (F0 m 49 ls []) := by
                intro n49
                induction n49 with
                | zero =>
                  intro x4_49 x5_49 x6_49 x7_49 H locs ls hP hD hS hl hf
                  rw [f_Mo_scan_L49] at hf
                  cases hf
                | succ n49 ih49 =>
                  intro x4_49 x5_49 x6_49 x7_49 H locs ls hP hD hS hl hf
                  rw [f_Mo_scan_L49] at hf
                  refine lv_iload hx hb d_Mo_scan_49 (lv_at hl 6 rfl) ?_
                  refine lv_aload_n hx hb d_Mo_scan_51 rfl (lv_at hl 0 rfl) ?_
                  refine va_get (D := (dC, dI)) (ci := 8) (v := .int mo_length) (C := R_Mo) (T := F_Mo) (N := 29) hx hb hts iw_Mo hown hK hP 0 rfl rfl 17 (by decide) (hts _ m_734) (fun _ h9 => h9) rfl d_Mo_scan_52 ?_
                  refine lv_icmp_ge (tgt := 154) hx hb d_Mo_scan_55 (by decide) (fun c8 => ?_) (fun c8 => ?_)
                  · have hf := xif_t c8 hf
                    exact K49_154 x4_49 x5_49 x6_49 x7_49 _ _ _ hP hD hS (lv_sub hl [0, 1, 2, 3, 4] rfl) hf
                  · have hf := xif_f c8 hf
                    refine lv_iconst (v := 1) hx hb d_Mo_scan_58 (by decide) ?_
                    refine lv_istore (lv' := [(8, .int (1 : Int32)), (0, .ref (ad 0)), (1, .int a1), (2, .int a2), (4, .int x4_49), (5, .int x5_49), (6, .int x6_49), (7, .int x7_49)]) hx hb d_Mo_scan_59 hl (by decide) rfl (fun ls hl => ?_)
                    have K61_148 : ∀ (x4_61 : Int32) (x5_61 : Int32) (x6_61 : Int32) (x8_61 : Int32) (H : Heap) (locs : List Loc) (ls : Array Slot), va_P (dC, dI) classes (wY ty ad mo_rows mo_columns mo_marks mo_letters mo_mate mo_made mo_nodes mo_sort mo_from mo_to mo_begin mo_other mo_states mo_kinds mo_nodeOf mo_steps mo_emissions mo_length mo_text w4 w5 mo_hits_32 mo_hitAt_32 mo_hitLength_32 mo_written mo_listState mo_listAt mo_listLength mo_stack) H → va_D A (wY ty ad mo_rows mo_columns mo_marks mo_letters mo_mate mo_made mo_nodes mo_sort mo_from mo_to mo_begin mo_other mo_states mo_kinds mo_nodeOf mo_steps mo_emissions mo_length mo_text w4 w5 mo_hits_32 mo_hitAt_32 mo_hitLength_32 mo_written mo_listState mo_listAt mo_listLength mo_stack) → va_S A s.heap H locs → lv_has ls 10 [(0, .ref (ad 0)), (1, .int a1), (2, .int a2), (4, .int x4_61), (5, .int x5_61), (6, .int x6_61), (7, .int x7_49)] → f_Mo_scan_K61_148 x7_49 (f_Mo_scan_L49 mo_length a1 a2 w5 mo_hits_32 mo_hitAt_32 mo_hitLength_32 (f_Mo_scan_K49_154 mo_hits_32 mo_hitAt_32 mo_hitLength_32 (f_Mo_scan_L32 mo_length a1 a2 w5 (f_Mo_scan_K32_204 w4 w5) n32)) n49) x4_61 x5_61 x6_61 x8_61 = some (r0, n_mo_worked, n_mo_values, n_mo_hits, n_mo_hitAt, n_mo_hitLength) → W p l e rm_Mo_scan s m (List.toArray [.ref (ad 0), .int a1, .int a2]) below meth c H locs 0 0 Q (F0 m 148 ls []) := by
                      intro x4_61 x5_61 x6_61 x8_61 H locs ls hP hD hS hl hf
                      rw [f_Mo_scan_K61_148] at hf
                      refine lv_iinc (v := (x7_49 + (1 : Int32))) (lv' := [(7, .int (x7_49 + (1 : Int32))), (0, .ref (ad 0)), (1, .int a1), (2, .int a2), (4, .int x4_61), (5, .int x5_61), (6, .int x6_61)]) hx hb d_Mo_scan_148 hl (k := 6) rfl rfl (by decide) rfl (fun ls hl => ?_)
                      refine lv_goto (tgt := 49) hx hb d_Mo_scan_151 (by decide) ?_
                      exact ih49 x4_61 x5_61 x6_61 (x7_49 + (1 : Int32)) _ _ _ hP hD hS (lv_sub hl [1, 2, 3, 4, 5, 6, 0] rfl) hf
                    have L61 : ∀ (n61 : Nat), ∀ (x4_61 : Int32) (x5_61 : Int32) (x6_61 : Int32) (x8_61 : Int32) (H : Heap) (locs : List Loc) (ls : Array Slot), va_P (dC, dI) classes (wY ty ad mo_rows mo_columns mo_marks mo_letters mo_mate mo_made mo_nodes mo_sort mo_from mo_to mo_begin mo_other mo_states mo_kinds mo_nodeOf mo_steps mo_emissions mo_length mo_text w4 w5 mo_hits_32 mo_hitAt_32 mo_hitLength_32 mo_written mo_listState mo_listAt mo_listLength mo_stack) H → va_D A (wY ty ad mo_rows mo_columns mo_marks mo_letters mo_mate mo_made mo_nodes mo_sort mo_from mo_to mo_begin mo_other mo_states mo_kinds mo_nodeOf mo_steps mo_emissions mo_length mo_text w4 w5 mo_hits_32 mo_hitAt_32 mo_hitLength_32 mo_written mo_listState mo_listAt mo_listLength mo_stack) → va_S A s.heap H locs → lv_has ls 10 [(0, .ref (ad 0)), (1, .int a1), (2, .int a2), (4, .int x4_61), (5, .int x5_61), (6, .int x6_61), (7, .int x7_49), (8, .int x8_61)] → f_Mo_scan_L61 mo_length a1 a2 w5 mo_hits_32 mo_hitAt_32 mo_hitLength_32 x7_49 (f_Mo_scan_K61_148 x7_49 (f_Mo_scan_L49 mo_length a1 a2 w5 mo_hits_32 mo_hitAt_32 mo_hitLength_32 (f_Mo_scan_K49_154 mo_hits_32 mo_hitAt_32 mo_hitLength_32 (f_Mo_scan_L32 mo_length a1 a2 w5 (f_Mo_scan_K32_204 w4 w5) n32)) n49)) n61 x4_61 x5_61 x6_61 x8_61 = some (r0, n_mo_worked, n_mo_values, n_mo_hits, n_mo_hitAt, n_mo_hitLength) → W p l e rm_Mo_scan s m (List.toArray [.ref (ad 0), .int a1, .int a2]) below meth c H locs 0 0 Q (F0 m 61 ls []) := by
                      intro n61
                      induction n61 with
                      | zero =>
                        intro x4_61 x5_61 x6_61 x8_61 H locs ls hP hD hS hl hf
                        rw [f_Mo_scan_L61] at hf
                        cases hf
                      | succ n61 ih61 =>
                        intro x4_61 x5_61 x6_61 x8_61 H locs ls hP hD hS hl hf
                        rw [f_Mo_scan_L61] at hf
                        refine lv_iload hx hb d_Mo_scan_61 (lv_at hl 7 rfl) ?_
                        refine lv_iload_n hx hb d_Mo_scan_63 rfl (lv_at hl 1 rfl) ?_
                        refine lv_icmp_gt (tgt := 148) hx hb d_Mo_scan_64 (by decide) (fun c9 => ?_) (fun c9 => ?_)
                        · have hf := xif_t c9 hf
                          exact K61_148 x4_61 x5_61 x6_61 x8_61 _ _ _ hP hD hS (lv_sub hl [0, 1, 2, 3, 4, 5, 6] rfl) hf
                        · have hf := xif_f c9 hf
                          refine lv_iload hx hb d_Mo_scan_67 (lv_at hl 6 rfl) ?_
                          refine lv_iload hx hb d_Mo_scan_69 (lv_at hl 7 rfl) ?_
                          refine lv_iadd hx hb d_Mo_scan_71 ?_
                          refine lv_aload_n hx hb d_Mo_scan_72 rfl (lv_at hl 0 rfl) ?_
                          refine va_get (D := (dC, dI)) (ci := 8) (v := .int mo_length) (C := R_Mo) (T := F_Mo) (N := 29) hx hb hts iw_Mo hown hK hP 0 rfl rfl 17 (by decide) (hts _ m_734) (fun _ h9 => h9) rfl d_Mo_scan_73 ?_
                          refine lv_icmp_gt (tgt := 148) hx hb d_Mo_scan_76 (by decide) (fun c10 => ?_) (fun c10 => ?_)
                          · have hf := xif_t c10 hf
                            exact K61_148 x4_61 x5_61 x6_61 x8_61 _ _ _ hP hD hS (lv_sub hl [0, 1, 2, 3, 4, 5, 6] rfl) hf
                          · have hf := xif_f c10 hf
                            refine lv_aload_n hx hb d_Mo_scan_79 rfl (lv_at hl 0 rfl) ?_
                            refine va_get (D := (dC, dI)) (ci := 8) (v := .ref (ad 14)) (C := R_Mo) (T := F_Mo) (N := 29) hx hb hts iw_Mo hown hK hP 0 rfl rfl 20 (by decide) (hts _ m_737) (fun _ h9 => h9) rfl d_Mo_scan_80 ?_
                            refine lv_iconst (v := 0) hx hb d_Mo_scan_83 (by decide) ?_
                            refine lv_iload hx hb d_Mo_scan_84 (lv_at hl 6 rfl) ?_
                            refine lv_iload hx hb d_Mo_scan_86 (lv_at hl 7 rfl) ?_
                            obtain ⟨r11, hc12, hf⟩ := ob1_inv hf
                            refine xk_i (xrunS (As := [.int (0 : Int32), .int x7_49, .int x8_61]) (rest := [.ref (ad 14)]) ⟨hx, hb, hml, hown, hts⟩ (c_Mo_cell l dC dI ty ad ta H.size mo_rows mo_columns mo_marks mo_letters mo_mate mo_made mo_nodes mo_sort mo_from mo_to mo_begin mo_other mo_states mo_kinds mo_nodeOf mo_steps mo_emissions mo_length mo_text w4 w5 mo_hits_32 mo_hitAt_32 mo_hitLength_32 mo_written mo_listState mo_listAt mo_listLength mo_stack (0 : Int32) x7_49 x8_61 r11 hc12) z_Mo_168 ⟨⟨rfl, rfl⟩, by decide, by decide⟩ hK hP hD hN hS hA rfl hl.1 rfl (Nat.le_of_ble_eq_true rfl) d_Mo_scan_88 ⟨Nat.zero_le _, Nat.zero_le _⟩) hS hD rfl hA (fun H locs hP hD hS => ?_)
                            refine W.eq (g2 := F0 m 91 ls [.int r11, .ref (ad 14)]) rfl ?_
                            obtain ⟨hi13, hf⟩ := gdi hf
                            refine va_iald hx hb hK hP 14 0 rfl rfl hi13 d_Mo_scan_91 ?_
                            refine lv_istore (lv' := [(9, .int (w5 (Int32.toNatClampNeg r11))), (0, .ref (ad 0)), (1, .int a1), (2, .int a2), (4, .int x4_61), (5, .int x5_61), (6, .int x6_61), (7, .int x7_49), (8, .int x8_61)]) hx hb d_Mo_scan_92 hl (by decide) rfl (fun ls hl => ?_)
                            refine lv_iload hx hb d_Mo_scan_94 (lv_at hl 0 rfl) ?_
                            refine lv_ldc (v := -1000000) hx hb hown (hts _ m_825) d_Mo_scan_96 ?_
                            refine lv_icmp_eq (tgt := 142) hx hb d_Mo_scan_98 (by decide) (fun c14 => ?_) (fun c14 => ?_)
                            · have hf := xif_t c14 hf
                              refine lv_iinc (v := (x8_61 + (1 : Int32))) (lv' := [(8, .int (x8_61 + (1 : Int32))), (9, .int (w5 (Int32.toNatClampNeg r11))), (0, .ref (ad 0)), (1, .int a1), (2, .int a2), (4, .int x4_61), (5, .int x5_61), (6, .int x6_61), (7, .int x7_49)]) hx hb d_Mo_scan_142 hl (k := 8) rfl rfl (by decide) rfl (fun ls hl => ?_)
                              refine lv_goto (tgt := 61) hx hb d_Mo_scan_145 (by decide) ?_
                              exact ih61 x4_61 x5_61 x6_61 (x8_61 + (1 : Int32)) _ _ _ hP hD hS (lv_sub hl [2, 3, 4, 5, 6, 7, 8, 0] rfl) hf
                            · have hf := xif_f c14 hf
                              refine lv_iload hx hb d_Mo_scan_101 (lv_at hl 0 rfl) ?_
                              refine lv_iload_n hx hb d_Mo_scan_103 rfl (lv_at hl 3 rfl) ?_
                              refine lv_icmp_lt (tgt := 142) hx hb d_Mo_scan_104 (by decide) (fun c15 => ?_) (fun c15 => ?_)
                              · have hf := xif_t c15 hf
                                refine lv_iinc (v := (x8_61 + (1 : Int32))) (lv' := [(8, .int (x8_61 + (1 : Int32))), (9, .int (w5 (Int32.toNatClampNeg r11))), (0, .ref (ad 0)), (1, .int a1), (2, .int a2), (4, .int x4_61), (5, .int x5_61), (6, .int x6_61), (7, .int x7_49)]) hx hb d_Mo_scan_142 hl (k := 8) rfl rfl (by decide) rfl (fun ls hl => ?_)
                                refine lv_goto (tgt := 61) hx hb d_Mo_scan_145 (by decide) ?_
                                exact ih61 x4_61 x5_61 x6_61 (x8_61 + (1 : Int32)) _ _ _ hP hD hS (lv_sub hl [2, 3, 4, 5, 6, 7, 8, 0] rfl) hf
                              · have hf := xif_f c15 hf
                                refine lv_iload hx hb d_Mo_scan_107 (lv_at hl 4 rfl) ?_
                                have J119 : ∀  (H : Heap) (locs : List Loc) (ls : Array Slot), va_P (dC, dI) classes (wY ty ad mo_rows mo_columns mo_marks mo_letters mo_mate mo_made mo_nodes mo_sort mo_from mo_to mo_begin mo_other mo_states mo_kinds mo_nodeOf mo_steps mo_emissions mo_length mo_text w4 w5 mo_hits_32 mo_hitAt_32 mo_hitLength_32 mo_written mo_listState mo_listAt mo_listLength mo_stack) H → va_D A (wY ty ad mo_rows mo_columns mo_marks mo_letters mo_mate mo_made mo_nodes mo_sort mo_from mo_to mo_begin mo_other mo_states mo_kinds mo_nodeOf mo_steps mo_emissions mo_length mo_text w4 w5 mo_hits_32 mo_hitAt_32 mo_hitLength_32 mo_written mo_listState mo_listAt mo_listLength mo_stack) → va_S A s.heap H locs → lv_has ls 10 [(0, .ref (ad 0)), (1, .int a1), (2, .int a2), (4, .int x4_61), (5, .int x5_61), (6, .int x6_61), (7, .int x7_49), (8, .int x8_61), (9, .int (w5 (Int32.toNatClampNeg r11)))] → f_Mo_scan_J119 w5 mo_hits_32 mo_hitAt_32 mo_hitLength_32 x7_49 x4_61 x5_61 x6_61 x8_61 (f_Mo_scan_L61 mo_length a1 a2 w5 mo_hits_32 mo_hitAt_32 mo_hitLength_32 x7_49 (f_Mo_scan_K61_148 x7_49 (f_Mo_scan_L49 mo_length a1 a2 w5 mo_hits_32 mo_hitAt_32 mo_hitLength_32 (f_Mo_scan_K49_154 mo_hits_32 mo_hitAt_32 mo_hitLength_32 (f_Mo_scan_L32 mo_length a1 a2 w5 (f_Mo_scan_K32_204 w4 w5) n32)) n49)) n61) r11 = some (r0, n_mo_worked, n_mo_values, n_mo_hits, n_mo_hitAt, n_mo_hitLength) → W p l e rm_Mo_scan s m (List.toArray [.ref (ad 0), .int a1, .int a2]) below meth c H locs 0 0 Q (F0 m 119 ls []) := by
                                  intro  H locs ls hP hD hS hl hf
                                  rw [f_Mo_scan_J119] at hf
                                  refine lv_aload_n hx hb d_Mo_scan_119 rfl (lv_at hl 0 rfl) ?_
                                  refine lv_iload hx hb d_Mo_scan_120 (lv_at hl 6 rfl) ?_
                                  refine lv_iload hx hb d_Mo_scan_122 (lv_at hl 7 rfl) ?_
                                  obtain ⟨r16, hc17, hf⟩ := ob1_inv hf
                                  refine xk_i (xrunV (C := R_Mo) (As := [.int x7_49, .int x8_61]) (rest := []) ⟨hx, hb, hml, hown, hts⟩ (c_Mo_free l dC dI ty ad ta H.size mo_rows mo_columns mo_marks mo_letters mo_mate mo_made mo_nodes mo_sort mo_from mo_to mo_begin mo_other mo_states mo_kinds mo_nodeOf mo_steps mo_emissions mo_length mo_text w4 w5 mo_hits_32 mo_hitAt_32 mo_hitLength_32 mo_written mo_listState mo_listAt mo_listLength mo_stack x7_49 x8_61 r16 hc17) z_Mo_186 ⟨⟨rfl, rfl⟩, by decide, by decide⟩ hK hP hD hN hS hA (va_recv hK hP (ci := 8) (q0 := 0) rfl rfl) rfl hl.1 rfl (Nat.le_of_ble_eq_true rfl) d_Mo_scan_124 ⟨Nat.zero_le _, Nat.zero_le _⟩) hS hD rfl hA (fun H locs hP hD hS => ?_)
                                  refine W.eq (g2 := F0 m 127 ls [.int r16]) rfl ?_
                                  refine lv_if_eq (tgt := 142) hx hb d_Mo_scan_127 (by decide) (fun c18 => ?_) (fun c18 => ?_)
                                  · have hf := xif_t c18 hf
                                    refine lv_iinc (v := (x8_61 + (1 : Int32))) (lv' := [(8, .int (x8_61 + (1 : Int32))), (0, .ref (ad 0)), (1, .int a1), (2, .int a2), (4, .int x4_61), (5, .int x5_61), (6, .int x6_61), (7, .int x7_49), (9, .int (w5 (Int32.toNatClampNeg r11)))]) hx hb d_Mo_scan_142 hl (k := 7) rfl rfl (by decide) rfl (fun ls hl => ?_)
                                    refine lv_goto (tgt := 61) hx hb d_Mo_scan_145 (by decide) ?_
                                    exact ih61 x4_61 x5_61 x6_61 (x8_61 + (1 : Int32)) _ _ _ hP hD hS (lv_sub hl [1, 2, 3, 4, 5, 6, 7, 0] rfl) hf
                                  · have hf := xif_f c18 hf
                                    refine lv_iload hx hb d_Mo_scan_130 (lv_at hl 6 rfl) ?_
                                    refine lv_istore (lv' := [(4, .int x7_49), (0, .ref (ad 0)), (1, .int a1), (2, .int a2), (5, .int x5_61), (6, .int x6_61), (7, .int x7_49), (8, .int x8_61), (9, .int (w5 (Int32.toNatClampNeg r11)))]) hx hb d_Mo_scan_132 hl (by decide) rfl (fun ls hl => ?_)
                                    refine lv_iload hx hb d_Mo_scan_134 (lv_at hl 7 rfl) ?_
                                    refine lv_istore (lv' := [(5, .int x8_61), (4, .int x7_49), (0, .ref (ad 0)), (1, .int a1), (2, .int a2), (6, .int x6_61), (7, .int x7_49), (8, .int x8_61), (9, .int (w5 (Int32.toNatClampNeg r11)))]) hx hb d_Mo_scan_136 hl (by decide) rfl (fun ls hl => ?_)
                                    refine lv_iload hx hb d_Mo_scan_138 (lv_at hl 8 rfl) ?_
                                    refine lv_istore (lv' := [(6, .int (w5 (Int32.toNatClampNeg r11))), (5, .int x8_61), (4, .int x7_49), (0, .ref (ad 0)), (1, .int a1), (2, .int a2), (7, .int x7_49), (8, .int x8_61), (9, .int (w5 (Int32.toNatClampNeg r11)))]) hx hb d_Mo_scan_140 hl (by decide) rfl (fun ls hl => ?_)
                                    refine lv_iinc (v := (x8_61 + (1 : Int32))) (lv' := [(8, .int (x8_61 + (1 : Int32))), (6, .int (w5 (Int32.toNatClampNeg r11))), (5, .int x8_61), (4, .int x7_49), (0, .ref (ad 0)), (1, .int a1), (2, .int a2), (7, .int x7_49), (9, .int (w5 (Int32.toNatClampNeg r11)))]) hx hb d_Mo_scan_142 hl (k := 7) rfl rfl (by decide) rfl (fun ls hl => ?_)
                                    refine lv_goto (tgt := 61) hx hb d_Mo_scan_145 (by decide) ?_
                                    exact ih61 x7_49 x8_61 (w5 (Int32.toNatClampNeg r11)) (x8_61 + (1 : Int32)) _ _ _ hP hD hS (lv_sub hl [4, 5, 6, 3, 2, 1, 7, 0] rfl) hf
                                refine lv_if_lt (tgt := 119) hx hb d_Mo_scan_109 (by decide) (fun c19 => ?_) (fun c19 => ?_)
                                · have hf := xif_t c19 hf
                                  exact J119  _ _ _ hP hD hS (lv_sub hl [1, 2, 3, 4, 5, 6, 7, 8, 0] rfl) hf
                                · have hf := xif_f c19 hf
                                  refine lv_iload hx hb d_Mo_scan_112 (lv_at hl 0 rfl) ?_
                                  refine lv_iload hx hb d_Mo_scan_114 (lv_at hl 6 rfl) ?_
                                  refine lv_icmp_le (tgt := 142) hx hb d_Mo_scan_116 (by decide) (fun c20 => ?_) (fun c20 => ?_)
                                  · have hf := xif_t c20 hf
                                    refine lv_iinc (v := (x8_61 + (1 : Int32))) (lv' := [(8, .int (x8_61 + (1 : Int32))), (9, .int (w5 (Int32.toNatClampNeg r11))), (0, .ref (ad 0)), (1, .int a1), (2, .int a2), (4, .int x4_61), (5, .int x5_61), (6, .int x6_61), (7, .int x7_49)]) hx hb d_Mo_scan_142 hl (k := 8) rfl rfl (by decide) rfl (fun ls hl => ?_)
                                    refine lv_goto (tgt := 61) hx hb d_Mo_scan_145 (by decide) ?_
                                    exact ih61 x4_61 x5_61 x6_61 (x8_61 + (1 : Int32)) _ _ _ hP hD hS (lv_sub hl [2, 3, 4, 5, 6, 7, 8, 0] rfl) hf
                                  · have hf := xif_f c20 hf
                                    exact J119  _ _ _ hP hD hS (lv_sub hl [1, 2, 3, 4, 5, 6, 7, 8, 0] rfl) hf
                    exact L61 1000 x4_49 x5_49 x6_49 (1 : Int32) _ _ _ hP hD hS (lv_sub hl [1, 2, 3, 4, 5, 6, 7, 0] rfl) hf
              exact L49 1000 (-1 : Int32) (0 : Int32) (-1000000 : Int32) (0 : Int32) _ _ _ hP hD hS (lv_sub hl [4, 5, 6, 3, 2, 1, 0] rfl) hf
        exact L32 1000 (1 : Int32) (0 : Int32) mo_hitAt mo_hitLength _ _ _ hP hD hS (lv_sub hl [1, 2, 3, 0] rfl) hf
      · have hf := xif_f c3 hf
        refine lv_ldc (v := -1000000) hx hb hown (hts _ m_825) d_Mo_scan_18 ?_
        obtain ⟨rfl, rfl, rfl, rfl, rfl, rfl⟩ := os6 hf
        exact hret H locs _ _ _ d_Mo_scan_20 rfl hP hS
