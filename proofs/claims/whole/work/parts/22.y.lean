/-! pure functions and contracts of Mo_changed, Mo_column, Mo_clear, Mo_pair, Mo_node3 (written by wip/gen) -/
def f_Mo_changed (mo_made : Int32) (mo_hits : Int32) : Option (Int32 × Int32) := some ((0 : Int32), (0 : Int32))
set_option maxHeartbeats 4000000 in
set_option maxRecDepth 100000 in
theorem c_Mo_changed (l : Launch) (dC : Nat → ClassId) (dI : Nat → Nat → Nat) (ty : Nat → ClassId) (ad : Nat → Nat) (ta : Nat → Nat) (sz : Nat) (mo_rows : Int32) (mo_columns : Int32) (mo_marks : (Nat → Int32)) (mo_letters : (Nat → Int32)) (mo_mate : (Nat → Int32)) (mo_made : Int32) (mo_nodes : Int32) (mo_sort : (Nat → Int32)) (mo_from : (Nat → Int32)) (mo_to : (Nat → Int32)) (mo_begin : (Nat → Int32)) (mo_other : (Nat → Int32)) (mo_states : Int32) (mo_kinds : (Nat → Int32)) (mo_nodeOf : (Nat → Int32)) (mo_steps : (Nat → Int32)) (mo_emissions : (Nat → Int32)) (mo_length : Int32) (mo_text : (Nat → Int32)) (mo_worked : Int32) (mo_values : (Nat → Int32)) (mo_hits : Int32) (mo_hitAt : (Nat → Int32)) (mo_hitLength : (Nat → Int32)) (mo_written : Int32) (mo_listState : (Nat → Int32)) (mo_listAt : (Nat → Int32)) (mo_listLength : (Nat → Int32)) (mo_stack : (Nat → Int32))  (n_mo_made : Int32) (n_mo_hits : Int32) (hf : f_Mo_changed mo_made mo_hits = some (n_mo_made, n_mo_hits)) : Met l y_Mo_changed (.code y_Mo_changed prog_10_method_2_code 1 none :: gw) rm_Mo_changed (xPre ta (dC, dI) classes (tys3 ty) (wY ty ad mo_rows mo_columns mo_marks mo_letters mo_mate mo_made mo_nodes mo_sort mo_from mo_to mo_begin mo_other mo_states mo_kinds mo_nodeOf mo_steps mo_emissions mo_length mo_text mo_worked mo_values mo_hits mo_hitAt mo_hitLength mo_written mo_listState mo_listAt mo_listLength mo_stack) sz [.ref (ad 0)]) (xQv (dC, dI) classes (wY ty ad mo_rows mo_columns mo_marks mo_letters mo_mate mo_made mo_nodes mo_sort mo_from mo_to mo_begin mo_other mo_states mo_kinds mo_nodeOf mo_steps mo_emissions mo_length mo_text mo_worked mo_values mo_hits mo_hitAt mo_hitLength mo_written mo_listState mo_listAt mo_listLength mo_stack) (wY ty ad mo_rows mo_columns mo_marks mo_letters mo_mate n_mo_made mo_nodes mo_sort mo_from mo_to mo_begin mo_other mo_states mo_kinds mo_nodeOf mo_steps mo_emissions mo_length mo_text mo_worked mo_values n_mo_hits mo_hitAt mo_hitLength mo_written mo_listState mo_listAt mo_listLength mo_stack) sz) 0 0 (va_A (wY ty ad mo_rows mo_columns mo_marks mo_letters mo_mate mo_made mo_nodes mo_sort mo_from mo_to mo_begin mo_other mo_states mo_kinds mo_nodeOf mo_steps mo_emissions mo_length mo_text mo_worked mo_values mo_hits mo_hitAt mo_hitLength mo_written mo_listState mo_listAt mo_listLength mo_stack) sz) := by
  refine xmet_v rfl (Nat.le_of_ble_eq_true rfl) ?_
  intro p e s m below meth c A ls Q hx hb hml hts hown hK hN hA hP hD hS hl hret
  replace hown : s.vm.findClass R_Mo = some m.cls := hown
  have hl : lv_has ls 1 [(0, .ref (ad 0))] := hl
  rw [f_Mo_changed] at hf
  obtain ⟨H, eH⟩ : ∃ H : Heap, H = s.heap := ⟨_, rfl⟩
  obtain ⟨locs, eL⟩ : ∃ L : List Loc, L = [] := ⟨_, rfl⟩
  have hP : va_P (dC, dI) classes (wY ty ad mo_rows mo_columns mo_marks mo_letters mo_mate mo_made mo_nodes mo_sort mo_from mo_to mo_begin mo_other mo_states mo_kinds mo_nodeOf mo_steps mo_emissions mo_length mo_text mo_worked mo_values mo_hits mo_hitAt mo_hitLength mo_written mo_listState mo_listAt mo_listLength mo_stack) H := by rw [eH]; exact hP
  have hS : va_S A s.heap H locs := by rw [eH, eL]; exact hS
  rw [← eL]
  suffices hgoal : W p l e rm_Mo_changed s m (List.toArray [.ref (ad 0)]) below meth c H locs 0 0 Q (F0 m 0 ls []) by rw [eH] at hgoal; exact hgoal
  clear eH eL
  refine lv_aload_n hx hb d_Mo_changed_0 rfl (lv_at hl 0 rfl) ?_
  refine lv_iconst (v := 0) hx hb d_Mo_changed_1 (by decide) ?_
  refine va_put (D := (dC, dI)) (ci := 8) (v := .int (0 : Int32)) (ty := .boolean) (C := R_Mo) (T := F_Mo) (N := 29) hx hb hts iw_Mo t_Mo t_Mo_ok n_Mo hown hK hP hD hS 0 rfl rfl 5 (by decide) (hts _ m_722) (fun _ h9 => h9) rfl (by decide +kernel) rfl rfl (Nat.le_of_ble_eq_true rfl) d_Mo_changed_2 (fun H locs hP hD hS => ?_)
  have hP : va_P (dC, dI) classes (wY ty ad mo_rows mo_columns mo_marks mo_letters mo_mate (0 : Int32) mo_nodes mo_sort mo_from mo_to mo_begin mo_other mo_states mo_kinds mo_nodeOf mo_steps mo_emissions mo_length mo_text mo_worked mo_values mo_hits mo_hitAt mo_hitLength mo_written mo_listState mo_listAt mo_listLength mo_stack) H := hP
  have hD : va_D A (wY ty ad mo_rows mo_columns mo_marks mo_letters mo_mate (0 : Int32) mo_nodes mo_sort mo_from mo_to mo_begin mo_other mo_states mo_kinds mo_nodeOf mo_steps mo_emissions mo_length mo_text mo_worked mo_values mo_hits mo_hitAt mo_hitLength mo_written mo_listState mo_listAt mo_listLength mo_stack) := hD
  refine lv_aload_n hx hb d_Mo_changed_5 rfl (lv_at hl 0 rfl) ?_
  refine lv_iconst (v := 0) hx hb d_Mo_changed_6 (by decide) ?_
  refine va_put (D := (dC, dI)) (ci := 8) (v := .int (0 : Int32)) (ty := .int) (C := R_Mo) (T := F_Mo) (N := 29) hx hb hts iw_Mo t_Mo t_Mo_ok n_Mo hown hK hP hD hS 0 rfl rfl 21 (by decide) (hts _ m_738) (fun _ h9 => h9) rfl (by decide +kernel) rfl rfl (Nat.le_of_ble_eq_true rfl) d_Mo_changed_7 (fun H locs hP hD hS => ?_)
  have hP : va_P (dC, dI) classes (wY ty ad mo_rows mo_columns mo_marks mo_letters mo_mate (0 : Int32) mo_nodes mo_sort mo_from mo_to mo_begin mo_other mo_states mo_kinds mo_nodeOf mo_steps mo_emissions mo_length mo_text mo_worked mo_values (0 : Int32) mo_hitAt mo_hitLength mo_written mo_listState mo_listAt mo_listLength mo_stack) H := hP
  have hD : va_D A (wY ty ad mo_rows mo_columns mo_marks mo_letters mo_mate (0 : Int32) mo_nodes mo_sort mo_from mo_to mo_begin mo_other mo_states mo_kinds mo_nodeOf mo_steps mo_emissions mo_length mo_text mo_worked mo_values (0 : Int32) mo_hitAt mo_hitLength mo_written mo_listState mo_listAt mo_listLength mo_stack) := hD
  obtain ⟨rfl, rfl⟩ := os2 hf
  exact hret H locs _ _ d_Mo_changed_10 hP hS
def f_Mo_column_K41_88 (mo_columns : Int32) (mo_marks : (Nat → Int32)) (mo_made : Int32) (mo_hits : Int32) (a1 : Int32) (x3_41 : Int32) (mo_letters_41 : (Nat → Int32)) : Option (Int32 × Int32 × (Nat → Int32) × (Nat → Int32) × Int32 × Int32) := ob2 (f_Mo_changed mo_made mo_hits) (fun w7 w8 => some ((1 : Int32), (mo_columns + (1 : Int32)), (upd mo_marks (Int32.toNatClampNeg mo_columns) a1), mo_letters_41, w7, w8))
def f_Mo_column_L41 (mo_columns : Int32) (a2 : Int32) (k41_88 : (Int32 → (Nat → Int32) → Option (Int32 × Int32 × (Nat → Int32) × (Nat → Int32) × Int32 × Int32))) : Nat → Int32 → (Nat → Int32) → Option (Int32 × Int32 × (Nat → Int32) × (Nat → Int32) × Int32 × Int32)
  | 0, _, _ => none
  | n41 + 1, x3_41, mo_letters_41 => if (4 : Int32) ≤ x3_41 then (k41_88 x3_41 mo_letters_41) else (if ((a2 >>> (((3 : Int32) * x3_41) &&& 31)) &&& (7 : Int32)) ≤ (3 : Int32) then (gd (xin (((8 : Int32) * x3_41) + mo_columns) 32) ((f_Mo_column_L41 mo_columns a2 k41_88 n41) (x3_41 + (1 : Int32)) (upd mo_letters_41 (Int32.toNatClampNeg (((8 : Int32) * x3_41) + mo_columns)) ((a2 >>> (((3 : Int32) * x3_41) &&& 31)) &&& (7 : Int32))))) else (gd (xin (((8 : Int32) * x3_41) + mo_columns) 32) ((f_Mo_column_L41 mo_columns a2 k41_88 n41) (x3_41 + (1 : Int32)) (upd mo_letters_41 (Int32.toNatClampNeg (((8 : Int32) * x3_41) + mo_columns)) (4 : Int32)))))
def f_Mo_column_J18 (mo_columns : Int32) (mo_marks : (Nat → Int32)) (mo_letters : (Nat → Int32)) (mo_made : Int32) (mo_hits : Int32) (a1 : Int32) (a2 : Int32)  : Option (Int32 × Int32 × (Nat → Int32) × (Nat → Int32) × Int32 × Int32) := if mo_columns < (8 : Int32) then (gd (xin mo_columns 8) (f_Mo_column_L41 mo_columns a2 (f_Mo_column_K41_88 mo_columns mo_marks mo_made mo_hits a1) 1000 (0 : Int32) mo_letters)) else (some ((0 : Int32), mo_columns, mo_marks, mo_letters, mo_made, mo_hits))
def f_Mo_column (mo_columns : Int32) (mo_marks : (Nat → Int32)) (mo_letters : (Nat → Int32)) (mo_made : Int32) (mo_hits : Int32) (a1 : Int32) (a2 : Int32) : Option (Int32 × Int32 × (Nat → Int32) × (Nat → Int32) × Int32 × Int32) := if a1 = (40 : Int32) then (f_Mo_column_J18 mo_columns mo_marks mo_letters mo_made mo_hits a1 a2) else (if a1 = (41 : Int32) then (f_Mo_column_J18 mo_columns mo_marks mo_letters mo_made mo_hits a1 a2) else (if a1 = (46 : Int32) then (f_Mo_column_J18 mo_columns mo_marks mo_letters mo_made mo_hits a1 a2) else (some ((0 : Int32), mo_columns, mo_marks, mo_letters, mo_made, mo_hits))))
set_option maxHeartbeats 4000000 in
set_option maxRecDepth 100000 in
theorem c_Mo_column (l : Launch) (dC : Nat → ClassId) (dI : Nat → Nat → Nat) (ty : Nat → ClassId) (ad : Nat → Nat) (ta : Nat → Nat) (sz : Nat) (mo_rows : Int32) (mo_columns : Int32) (mo_marks : (Nat → Int32)) (mo_letters : (Nat → Int32)) (mo_mate : (Nat → Int32)) (mo_made : Int32) (mo_nodes : Int32) (mo_sort : (Nat → Int32)) (mo_from : (Nat → Int32)) (mo_to : (Nat → Int32)) (mo_begin : (Nat → Int32)) (mo_other : (Nat → Int32)) (mo_states : Int32) (mo_kinds : (Nat → Int32)) (mo_nodeOf : (Nat → Int32)) (mo_steps : (Nat → Int32)) (mo_emissions : (Nat → Int32)) (mo_length : Int32) (mo_text : (Nat → Int32)) (mo_worked : Int32) (mo_values : (Nat → Int32)) (mo_hits : Int32) (mo_hitAt : (Nat → Int32)) (mo_hitLength : (Nat → Int32)) (mo_written : Int32) (mo_listState : (Nat → Int32)) (mo_listAt : (Nat → Int32)) (mo_listLength : (Nat → Int32)) (mo_stack : (Nat → Int32)) (a1 : Int32) (a2 : Int32) (r0 : Int32) (n_mo_columns : Int32) (n_mo_marks : (Nat → Int32)) (n_mo_letters : (Nat → Int32)) (n_mo_made : Int32) (n_mo_hits : Int32) (hf : f_Mo_column mo_columns mo_marks mo_letters mo_made mo_hits a1 a2 = some (r0, n_mo_columns, n_mo_marks, n_mo_letters, n_mo_made, n_mo_hits)) : Met l y_Mo_column (.code y_Mo_column prog_10_method_3_code 5 (some .boolean) :: gw) rm_Mo_column (xPre ta (dC, dI) classes (tys3 ty) (wY ty ad mo_rows mo_columns mo_marks mo_letters mo_mate mo_made mo_nodes mo_sort mo_from mo_to mo_begin mo_other mo_states mo_kinds mo_nodeOf mo_steps mo_emissions mo_length mo_text mo_worked mo_values mo_hits mo_hitAt mo_hitLength mo_written mo_listState mo_listAt mo_listLength mo_stack) sz [.ref (ad 0), .int a1, .int a2]) (xQi (dC, dI) classes (wY ty ad mo_rows mo_columns mo_marks mo_letters mo_mate mo_made mo_nodes mo_sort mo_from mo_to mo_begin mo_other mo_states mo_kinds mo_nodeOf mo_steps mo_emissions mo_length mo_text mo_worked mo_values mo_hits mo_hitAt mo_hitLength mo_written mo_listState mo_listAt mo_listLength mo_stack) (wY ty ad mo_rows n_mo_columns n_mo_marks n_mo_letters mo_mate n_mo_made mo_nodes mo_sort mo_from mo_to mo_begin mo_other mo_states mo_kinds mo_nodeOf mo_steps mo_emissions mo_length mo_text mo_worked mo_values n_mo_hits mo_hitAt mo_hitLength mo_written mo_listState mo_listAt mo_listLength mo_stack) sz r0) 0 0 (va_A (wY ty ad mo_rows mo_columns mo_marks mo_letters mo_mate mo_made mo_nodes mo_sort mo_from mo_to mo_begin mo_other mo_states mo_kinds mo_nodeOf mo_steps mo_emissions mo_length mo_text mo_worked mo_values mo_hits mo_hitAt mo_hitLength mo_written mo_listState mo_listAt mo_listLength mo_stack) sz) := by
  refine xmet_z rfl (Nat.le_of_ble_eq_true rfl) ?_
  intro p e s m below meth c A ls Q hx hb hml hts hown hK hN hA hP hD hS hl hret
  replace hown : s.vm.findClass R_Mo = some m.cls := hown
  have hl : lv_has ls 5 [(0, .ref (ad 0)), (1, .int a1), (2, .int a2)] := hl
  rw [f_Mo_column] at hf
  obtain ⟨H, eH⟩ : ∃ H : Heap, H = s.heap := ⟨_, rfl⟩
  obtain ⟨locs, eL⟩ : ∃ L : List Loc, L = [] := ⟨_, rfl⟩
  have hP : va_P (dC, dI) classes (wY ty ad mo_rows mo_columns mo_marks mo_letters mo_mate mo_made mo_nodes mo_sort mo_from mo_to mo_begin mo_other mo_states mo_kinds mo_nodeOf mo_steps mo_emissions mo_length mo_text mo_worked mo_values mo_hits mo_hitAt mo_hitLength mo_written mo_listState mo_listAt mo_listLength mo_stack) H := by rw [eH]; exact hP
  have hS : va_S A s.heap H locs := by rw [eH, eL]; exact hS
  rw [← eL]
  suffices hgoal : W p l e rm_Mo_column s m (List.toArray [.ref (ad 0), .int a1, .int a2]) below meth c H locs 0 0 Q (F0 m 0 ls []) by rw [eH] at hgoal; exact hgoal
  clear eH eL
  refine lv_iload_n hx hb d_Mo_column_0 rfl (lv_at hl 1 rfl) ?_
  refine lv_bipush (v := 40) hx hb d_Mo_column_1 (by decide) ?_
  have J18 : ∀  (H : Heap) (locs : List Loc) (ls : Array Slot), va_P (dC, dI) classes (wY ty ad mo_rows mo_columns mo_marks mo_letters mo_mate mo_made mo_nodes mo_sort mo_from mo_to mo_begin mo_other mo_states mo_kinds mo_nodeOf mo_steps mo_emissions mo_length mo_text mo_worked mo_values mo_hits mo_hitAt mo_hitLength mo_written mo_listState mo_listAt mo_listLength mo_stack) H → va_D A (wY ty ad mo_rows mo_columns mo_marks mo_letters mo_mate mo_made mo_nodes mo_sort mo_from mo_to mo_begin mo_other mo_states mo_kinds mo_nodeOf mo_steps mo_emissions mo_length mo_text mo_worked mo_values mo_hits mo_hitAt mo_hitLength mo_written mo_listState mo_listAt mo_listLength mo_stack) → va_S A s.heap H locs → lv_has ls 5 [(0, .ref (ad 0)), (1, .int a1), (2, .int a2)] → f_Mo_column_J18 mo_columns mo_marks mo_letters mo_made mo_hits a1 a2 = some (r0, n_mo_columns, n_mo_marks, n_mo_letters, n_mo_made, n_mo_hits) → W p l e rm_Mo_column s m (List.toArray [.ref (ad 0), .int a1, .int a2]) below meth c H locs 0 0 Q (F0 m 18 ls []) := by
    intro  H locs ls hP hD hS hl hf
    rw [f_Mo_column_J18] at hf
    refine lv_aload_n hx hb d_Mo_column_18 rfl (lv_at hl 0 rfl) ?_
    refine va_get (D := (dC, dI)) (ci := 8) (v := .int mo_columns) (C := R_Mo) (T := F_Mo) (N := 29) hx hb hts iw_Mo hown hK hP 0 rfl rfl 1 (by decide) (hts _ m_718) (fun _ h9 => h9) rfl d_Mo_column_19 ?_
    refine lv_bipush (v := 8) hx hb d_Mo_column_22 (by decide) ?_
    refine lv_icmp_lt (tgt := 29) hx hb d_Mo_column_24 (by decide) (fun c1 => ?_) (fun c1 => ?_)
    · have hf := xif_t c1 hf
      refine lv_aload_n hx hb d_Mo_column_29 rfl (lv_at hl 0 rfl) ?_
      refine va_get (D := (dC, dI)) (ci := 8) (v := .ref (ad 1)) (C := R_Mo) (T := F_Mo) (N := 29) hx hb hts iw_Mo hown hK hP 0 rfl rfl 2 (by decide) (hts _ m_719) (fun _ h9 => h9) rfl d_Mo_column_30 ?_
      refine lv_aload_n hx hb d_Mo_column_33 rfl (lv_at hl 0 rfl) ?_
      refine va_get (D := (dC, dI)) (ci := 8) (v := .int mo_columns) (C := R_Mo) (T := F_Mo) (N := 29) hx hb hts iw_Mo hown hK hP 0 rfl rfl 1 (by decide) (hts _ m_718) (fun _ h9 => h9) rfl d_Mo_column_34 ?_
      refine lv_iload_n hx hb d_Mo_column_37 rfl (lv_at hl 1 rfl) ?_
      obtain ⟨hi2, hf⟩ := gdi hf
      refine va_iast hx hb hK hP hD hS 1 0 rfl rfl hi2 d_Mo_column_38 (fun H locs hP hD hS => ?_)
      have hP : va_P (dC, dI) classes (wY ty ad mo_rows mo_columns (upd mo_marks (Int32.toNatClampNeg mo_columns) a1) mo_letters mo_mate mo_made mo_nodes mo_sort mo_from mo_to mo_begin mo_other mo_states mo_kinds mo_nodeOf mo_steps mo_emissions mo_length mo_text mo_worked mo_values mo_hits mo_hitAt mo_hitLength mo_written mo_listState mo_listAt mo_listLength mo_stack) H := hP
      have hD : va_D A (wY ty ad mo_rows mo_columns (upd mo_marks (Int32.toNatClampNeg mo_columns) a1) mo_letters mo_mate mo_made mo_nodes mo_sort mo_from mo_to mo_begin mo_other mo_states mo_kinds mo_nodeOf mo_steps mo_emissions mo_length mo_text mo_worked mo_values mo_hits mo_hitAt mo_hitLength mo_written mo_listState mo_listAt mo_listLength mo_stack) := hD
      refine lv_iconst (v := 0) hx hb d_Mo_column_39 (by decide) ?_
      refine lv_istore_n (lv' := [(3, .int (0 : Int32)), (0, .ref (ad 0)), (1, .int a1), (2, .int a2)]) hx hb d_Mo_column_40 rfl hl (by decide) rfl (fun ls hl => ?_)
      have K41_88 : ∀ (x3_41 : Int32) (mo_letters_41 : (Nat → Int32)) (H : Heap) (locs : List Loc) (ls : Array Slot), va_P (dC, dI) classes (wY ty ad mo_rows mo_columns (upd mo_marks (Int32.toNatClampNeg mo_columns) a1) mo_letters_41 mo_mate mo_made mo_nodes mo_sort mo_from mo_to mo_begin mo_other mo_states mo_kinds mo_nodeOf mo_steps mo_emissions mo_length mo_text mo_worked mo_values mo_hits mo_hitAt mo_hitLength mo_written mo_listState mo_listAt mo_listLength mo_stack) H → va_D A (wY ty ad mo_rows mo_columns (upd mo_marks (Int32.toNatClampNeg mo_columns) a1) mo_letters_41 mo_mate mo_made mo_nodes mo_sort mo_from mo_to mo_begin mo_other mo_states mo_kinds mo_nodeOf mo_steps mo_emissions mo_length mo_text mo_worked mo_values mo_hits mo_hitAt mo_hitLength mo_written mo_listState mo_listAt mo_listLength mo_stack) → va_S A s.heap H locs → lv_has ls 5 [(0, .ref (ad 0))] → f_Mo_column_K41_88 mo_columns mo_marks mo_made mo_hits a1 x3_41 mo_letters_41 = some (r0, n_mo_columns, n_mo_marks, n_mo_letters, n_mo_made, n_mo_hits) → W p l e rm_Mo_column s m (List.toArray [.ref (ad 0), .int a1, .int a2]) below meth c H locs 0 0 Q (F0 m 88 ls []) := by
        intro x3_41 mo_letters_41 H locs ls hP hD hS hl hf
        rw [f_Mo_column_K41_88] at hf
        refine lv_aload_n hx hb d_Mo_column_88 rfl (lv_at hl 0 rfl) ?_
        refine lv_aload_n hx hb d_Mo_column_89 rfl (lv_at hl 0 rfl) ?_
        refine va_get (D := (dC, dI)) (ci := 8) (v := .int mo_columns) (C := R_Mo) (T := F_Mo) (N := 29) hx hb hts iw_Mo hown hK hP 0 rfl rfl 1 (by decide) (hts _ m_718) (fun _ h9 => h9) rfl d_Mo_column_90 ?_
        refine lv_iconst (v := 1) hx hb d_Mo_column_93 (by decide) ?_
        refine lv_iadd hx hb d_Mo_column_94 ?_
        refine va_put (D := (dC, dI)) (ci := 8) (v := .int (mo_columns + (1 : Int32))) (ty := .int) (C := R_Mo) (T := F_Mo) (N := 29) hx hb hts iw_Mo t_Mo t_Mo_ok n_Mo hown hK hP hD hS 0 rfl rfl 1 (by decide) (hts _ m_718) (fun _ h9 => h9) rfl (by decide +kernel) rfl rfl (Nat.le_of_ble_eq_true rfl) d_Mo_column_95 (fun H locs hP hD hS => ?_)
        have hP : va_P (dC, dI) classes (wY ty ad mo_rows (mo_columns + (1 : Int32)) (upd mo_marks (Int32.toNatClampNeg mo_columns) a1) mo_letters_41 mo_mate mo_made mo_nodes mo_sort mo_from mo_to mo_begin mo_other mo_states mo_kinds mo_nodeOf mo_steps mo_emissions mo_length mo_text mo_worked mo_values mo_hits mo_hitAt mo_hitLength mo_written mo_listState mo_listAt mo_listLength mo_stack) H := hP
        have hD : va_D A (wY ty ad mo_rows (mo_columns + (1 : Int32)) (upd mo_marks (Int32.toNatClampNeg mo_columns) a1) mo_letters_41 mo_mate mo_made mo_nodes mo_sort mo_from mo_to mo_begin mo_other mo_states mo_kinds mo_nodeOf mo_steps mo_emissions mo_length mo_text mo_worked mo_values mo_hits mo_hitAt mo_hitLength mo_written mo_listState mo_listAt mo_listLength mo_stack) := hD
        refine lv_aload_n hx hb d_Mo_column_98 rfl (lv_at hl 0 rfl) ?_
        obtain ⟨w7, w8, hc9, hf⟩ := ob2_inv hf
        refine xk_v (xrunV (C := R_Mo) (As := []) (rest := []) ⟨hx, hb, hml, hown, hts⟩ (c_Mo_changed l dC dI ty ad ta H.size mo_rows (mo_columns + (1 : Int32)) (upd mo_marks (Int32.toNatClampNeg mo_columns) a1) mo_letters_41 mo_mate mo_made mo_nodes mo_sort mo_from mo_to mo_begin mo_other mo_states mo_kinds mo_nodeOf mo_steps mo_emissions mo_length mo_text mo_worked mo_values mo_hits mo_hitAt mo_hitLength mo_written mo_listState mo_listAt mo_listLength mo_stack  w7 w8 hc9) z_Mo_84 ⟨⟨rfl, rfl⟩, by decide, by decide⟩ hK hP hD hN hS hA (va_recv hK hP (ci := 8) (q0 := 0) rfl rfl) rfl hl.1 rfl (Nat.le_of_ble_eq_true rfl) d_Mo_column_99 ⟨Nat.zero_le _, Nat.zero_le _⟩) hS hD rfl hA (fun H locs hP hD hS => ?_)
        refine W.eq (g2 := F0 m 102 ls []) rfl ?_
        refine lv_iconst (v := 1) hx hb d_Mo_column_102 (by decide) ?_
        obtain ⟨rfl, rfl, rfl, rfl, rfl, rfl⟩ := os6 hf
        exact hret H locs _ _ _ d_Mo_column_103 rfl rfl hP hS
      have L41 : ∀ (n41 : Nat), ∀ (x3_41 : Int32) (mo_letters_41 : (Nat → Int32)) (H : Heap) (locs : List Loc) (ls : Array Slot), va_P (dC, dI) classes (wY ty ad mo_rows mo_columns (upd mo_marks (Int32.toNatClampNeg mo_columns) a1) mo_letters_41 mo_mate mo_made mo_nodes mo_sort mo_from mo_to mo_begin mo_other mo_states mo_kinds mo_nodeOf mo_steps mo_emissions mo_length mo_text mo_worked mo_values mo_hits mo_hitAt mo_hitLength mo_written mo_listState mo_listAt mo_listLength mo_stack) H → va_D A (wY ty ad mo_rows mo_columns (upd mo_marks (Int32.toNatClampNeg mo_columns) a1) mo_letters_41 mo_mate mo_made mo_nodes mo_sort mo_from mo_to mo_begin mo_other mo_states mo_kinds mo_nodeOf mo_steps mo_emissions mo_length mo_text mo_worked mo_values mo_hits mo_hitAt mo_hitLength mo_written mo_listState mo_listAt mo_listLength mo_stack) → va_S A s.heap H locs → lv_has ls 5 [(0, .ref (ad 0)), (2, .int a2), (3, .int x3_41)] → f_Mo_column_L41 mo_columns a2 (f_Mo_column_K41_88 mo_columns mo_marks mo_made mo_hits a1) n41 x3_41 mo_letters_41 = some (r0, n_mo_columns, n_mo_marks, n_mo_letters, n_mo_made, n_mo_hits) → W p l e rm_Mo_column s m (List.toArray [.ref (ad 0), .int a1, .int a2]) below meth c H locs 0 0 Q (F0 m 41 ls []) := by
        intro n41
        induction n41 with
        | zero =>
          intro x3_41 mo_letters_41 H locs ls hP hD hS hl hf
          rw [f_Mo_column_L41] at hf
          cases hf
        | succ n41 ih41 =>
          intro x3_41 mo_letters_41 H locs ls hP hD hS hl hf
          rw [f_Mo_column_L41] at hf
          refine lv_iload_n hx hb d_Mo_column_41 rfl (lv_at hl 2 rfl) ?_
          refine lv_iconst (v := 4) hx hb d_Mo_column_42 (by decide) ?_
          refine lv_icmp_ge (tgt := 88) hx hb d_Mo_column_43 (by decide) (fun c3 => ?_) (fun c3 => ?_)
          · have hf := xif_t c3 hf
            exact K41_88 x3_41 mo_letters_41 _ _ _ hP hD hS (lv_sub hl [0] rfl) hf
          · have hf := xif_f c3 hf
            refine lv_iload_n hx hb d_Mo_column_46 rfl (lv_at hl 1 rfl) ?_
            refine lv_iconst (v := 3) hx hb d_Mo_column_47 (by decide) ?_
            refine lv_iload_n hx hb d_Mo_column_48 rfl (lv_at hl 2 rfl) ?_
            refine lv_imul hx hb d_Mo_column_49 ?_
            refine lv_ishr hx hb d_Mo_column_50 ?_
            refine lv_bipush (v := 7) hx hb d_Mo_column_51 (by decide) ?_
            refine lv_iand hx hb d_Mo_column_53 ?_
            refine lv_istore (lv' := [(4, .int ((a2 >>> (((3 : Int32) * x3_41) &&& 31)) &&& (7 : Int32))), (0, .ref (ad 0)), (2, .int a2), (3, .int x3_41)]) hx hb d_Mo_column_54 hl (by decide) rfl (fun ls hl => ?_)
            refine lv_aload_n hx hb d_Mo_column_56 rfl (lv_at hl 1 rfl) ?_
            refine va_get (D := (dC, dI)) (ci := 8) (v := .ref (ad 2)) (C := R_Mo) (T := F_Mo) (N := 29) hx hb hts iw_Mo hown hK hP 0 rfl rfl 3 (by decide) (hts _ m_720) (fun _ h9 => h9) rfl d_Mo_column_57 ?_
            refine lv_bipush (v := 8) hx hb d_Mo_column_60 (by decide) ?_
            refine lv_iload_n hx hb d_Mo_column_62 rfl (lv_at hl 3 rfl) ?_
            refine lv_imul hx hb d_Mo_column_63 ?_
            refine lv_aload_n hx hb d_Mo_column_64 rfl (lv_at hl 1 rfl) ?_
            refine va_get (D := (dC, dI)) (ci := 8) (v := .int mo_columns) (C := R_Mo) (T := F_Mo) (N := 29) hx hb hts iw_Mo hown hK hP 0 rfl rfl 1 (by decide) (hts _ m_718) (fun _ h9 => h9) rfl d_Mo_column_65 ?_
            refine lv_iadd hx hb d_Mo_column_68 ?_
            refine lv_iload hx hb d_Mo_column_69 (lv_at hl 0 rfl) ?_
            refine lv_iconst (v := 3) hx hb d_Mo_column_71 (by decide) ?_
            refine lv_icmp_le (tgt := 79) hx hb d_Mo_column_72 (by decide) (fun c4 => ?_) (fun c4 => ?_)
            · have hf := xif_t c4 hf
              refine lv_iload hx hb d_Mo_column_79 (lv_at hl 0 rfl) ?_
              obtain ⟨hi5, hf⟩ := gdi hf
              refine va_iast hx hb hK hP hD hS 2 0 rfl rfl hi5 d_Mo_column_81 (fun H locs hP hD hS => ?_)
              have hP : va_P (dC, dI) classes (wY ty ad mo_rows mo_columns (upd mo_marks (Int32.toNatClampNeg mo_columns) a1) (upd mo_letters_41 (Int32.toNatClampNeg (((8 : Int32) * x3_41) + mo_columns)) ((a2 >>> (((3 : Int32) * x3_41) &&& 31)) &&& (7 : Int32))) mo_mate mo_made mo_nodes mo_sort mo_from mo_to mo_begin mo_other mo_states mo_kinds mo_nodeOf mo_steps mo_emissions mo_length mo_text mo_worked mo_values mo_hits mo_hitAt mo_hitLength mo_written mo_listState mo_listAt mo_listLength mo_stack) H := hP
              have hD : va_D A (wY ty ad mo_rows mo_columns (upd mo_marks (Int32.toNatClampNeg mo_columns) a1) (upd mo_letters_41 (Int32.toNatClampNeg (((8 : Int32) * x3_41) + mo_columns)) ((a2 >>> (((3 : Int32) * x3_41) &&& 31)) &&& (7 : Int32))) mo_mate mo_made mo_nodes mo_sort mo_from mo_to mo_begin mo_other mo_states mo_kinds mo_nodeOf mo_steps mo_emissions mo_length mo_text mo_worked mo_values mo_hits mo_hitAt mo_hitLength mo_written mo_listState mo_listAt mo_listLength mo_stack) := hD
              refine lv_iinc (v := (x3_41 + (1 : Int32))) (lv' := [(3, .int (x3_41 + (1 : Int32))), (4, .int ((a2 >>> (((3 : Int32) * x3_41) &&& 31)) &&& (7 : Int32))), (0, .ref (ad 0)), (2, .int a2)]) hx hb d_Mo_column_82 hl (k := 3) rfl rfl (by decide) rfl (fun ls hl => ?_)
              refine lv_goto (tgt := 41) hx hb d_Mo_column_85 (by decide) ?_
              exact ih41 (x3_41 + (1 : Int32)) (upd mo_letters_41 (Int32.toNatClampNeg (((8 : Int32) * x3_41) + mo_columns)) ((a2 >>> (((3 : Int32) * x3_41) &&& 31)) &&& (7 : Int32))) _ _ _ hP hD hS (lv_sub hl [2, 3, 0] rfl) hf
            · have hf := xif_f c4 hf
              refine lv_iconst (v := 4) hx hb d_Mo_column_75 (by decide) ?_
              refine lv_goto (tgt := 81) hx hb d_Mo_column_76 (by decide) ?_
              obtain ⟨hi6, hf⟩ := gdi hf
              refine va_iast hx hb hK hP hD hS 2 0 rfl rfl hi6 d_Mo_column_81 (fun H locs hP hD hS => ?_)
              have hP : va_P (dC, dI) classes (wY ty ad mo_rows mo_columns (upd mo_marks (Int32.toNatClampNeg mo_columns) a1) (upd mo_letters_41 (Int32.toNatClampNeg (((8 : Int32) * x3_41) + mo_columns)) (4 : Int32)) mo_mate mo_made mo_nodes mo_sort mo_from mo_to mo_begin mo_other mo_states mo_kinds mo_nodeOf mo_steps mo_emissions mo_length mo_text mo_worked mo_values mo_hits mo_hitAt mo_hitLength mo_written mo_listState mo_listAt mo_listLength mo_stack) H := hP
              have hD : va_D A (wY ty ad mo_rows mo_columns (upd mo_marks (Int32.toNatClampNeg mo_columns) a1) (upd mo_letters_41 (Int32.toNatClampNeg (((8 : Int32) * x3_41) + mo_columns)) (4 : Int32)) mo_mate mo_made mo_nodes mo_sort mo_from mo_to mo_begin mo_other mo_states mo_kinds mo_nodeOf mo_steps mo_emissions mo_length mo_text mo_worked mo_values mo_hits mo_hitAt mo_hitLength mo_written mo_listState mo_listAt mo_listLength mo_stack) := hD
              refine lv_iinc (v := (x3_41 + (1 : Int32))) (lv' := [(3, .int (x3_41 + (1 : Int32))), (4, .int ((a2 >>> (((3 : Int32) * x3_41) &&& 31)) &&& (7 : Int32))), (0, .ref (ad 0)), (2, .int a2)]) hx hb d_Mo_column_82 hl (k := 3) rfl rfl (by decide) rfl (fun ls hl => ?_)
              refine lv_goto (tgt := 41) hx hb d_Mo_column_85 (by decide) ?_
              exact ih41 (x3_41 + (1 : Int32)) (upd mo_letters_41 (Int32.toNatClampNeg (((8 : Int32) * x3_41) + mo_columns)) (4 : Int32)) _ _ _ hP hD hS (lv_sub hl [2, 3, 0] rfl) hf
      exact L41 1000 (0 : Int32) mo_letters _ _ _ hP hD hS (lv_sub hl [1, 3, 0] rfl) hf
    · have hf := xif_f c1 hf
      refine lv_iconst (v := 0) hx hb d_Mo_column_27 (by decide) ?_
      obtain ⟨rfl, rfl, rfl, rfl, rfl, rfl⟩ := os6 hf
      exact hret H locs _ _ _ d_Mo_column_28 rfl rfl hP hS
  refine lv_icmp_eq (tgt := 18) hx hb d_Mo_column_3 (by decide) (fun c10 => ?_) (fun c10 => ?_)
  · have hf := xif_t c10 hf
    exact J18  _ _ _ hP hD hS (lv_sub hl [0, 1, 2] rfl) hf
  · have hf := xif_f c10 hf
    refine lv_iload_n hx hb d_Mo_column_6 rfl (lv_at hl 1 rfl) ?_
    refine lv_bipush (v := 41) hx hb d_Mo_column_7 (by decide) ?_
    refine lv_icmp_eq (tgt := 18) hx hb d_Mo_column_9 (by decide) (fun c11 => ?_) (fun c11 => ?_)
    · have hf := xif_t c11 hf
      exact J18  _ _ _ hP hD hS (lv_sub hl [0, 1, 2] rfl) hf
    · have hf := xif_f c11 hf
      refine lv_iload_n hx hb d_Mo_column_12 rfl (lv_at hl 1 rfl) ?_
      refine lv_bipush (v := 46) hx hb d_Mo_column_13 (by decide) ?_
      refine lv_icmp_ne (tgt := 27) hx hb d_Mo_column_15 (by decide) (fun c12 => ?_) (fun c12 => ?_)
      · have hf := xif_f c12 hf
        refine lv_iconst (v := 0) hx hb d_Mo_column_27 (by decide) ?_
        obtain ⟨rfl, rfl, rfl, rfl, rfl, rfl⟩ := os6 hf
        exact hret H locs _ _ _ d_Mo_column_28 rfl rfl hP hS
      · have hf := xif_t c12 hf
        exact J18  _ _ _ hP hD hS (lv_sub hl [0, 1, 2] rfl) hf
def f_Mo_clear (mo_columns : Int32) (mo_made : Int32) (mo_hits : Int32) : Option (Int32 × Int32 × Int32) := ob2 (f_Mo_changed mo_made mo_hits) (fun w1 w2 => some ((0 : Int32), w1, w2))
set_option maxHeartbeats 4000000 in
set_option maxRecDepth 100000 in
theorem c_Mo_clear (l : Launch) (dC : Nat → ClassId) (dI : Nat → Nat → Nat) (ty : Nat → ClassId) (ad : Nat → Nat) (ta : Nat → Nat) (sz : Nat) (mo_rows : Int32) (mo_columns : Int32) (mo_marks : (Nat → Int32)) (mo_letters : (Nat → Int32)) (mo_mate : (Nat → Int32)) (mo_made : Int32) (mo_nodes : Int32) (mo_sort : (Nat → Int32)) (mo_from : (Nat → Int32)) (mo_to : (Nat → Int32)) (mo_begin : (Nat → Int32)) (mo_other : (Nat → Int32)) (mo_states : Int32) (mo_kinds : (Nat → Int32)) (mo_nodeOf : (Nat → Int32)) (mo_steps : (Nat → Int32)) (mo_emissions : (Nat → Int32)) (mo_length : Int32) (mo_text : (Nat → Int32)) (mo_worked : Int32) (mo_values : (Nat → Int32)) (mo_hits : Int32) (mo_hitAt : (Nat → Int32)) (mo_hitLength : (Nat → Int32)) (mo_written : Int32) (mo_listState : (Nat → Int32)) (mo_listAt : (Nat → Int32)) (mo_listLength : (Nat → Int32)) (mo_stack : (Nat → Int32))  (n_mo_columns : Int32) (n_mo_made : Int32) (n_mo_hits : Int32) (hf : f_Mo_clear mo_columns mo_made mo_hits = some (n_mo_columns, n_mo_made, n_mo_hits)) : Met l y_Mo_clear (.code y_Mo_clear prog_10_method_4_code 1 none :: gw) rm_Mo_clear (xPre ta (dC, dI) classes (tys3 ty) (wY ty ad mo_rows mo_columns mo_marks mo_letters mo_mate mo_made mo_nodes mo_sort mo_from mo_to mo_begin mo_other mo_states mo_kinds mo_nodeOf mo_steps mo_emissions mo_length mo_text mo_worked mo_values mo_hits mo_hitAt mo_hitLength mo_written mo_listState mo_listAt mo_listLength mo_stack) sz [.ref (ad 0)]) (xQv (dC, dI) classes (wY ty ad mo_rows mo_columns mo_marks mo_letters mo_mate mo_made mo_nodes mo_sort mo_from mo_to mo_begin mo_other mo_states mo_kinds mo_nodeOf mo_steps mo_emissions mo_length mo_text mo_worked mo_values mo_hits mo_hitAt mo_hitLength mo_written mo_listState mo_listAt mo_listLength mo_stack) (wY ty ad mo_rows n_mo_columns mo_marks mo_letters mo_mate n_mo_made mo_nodes mo_sort mo_from mo_to mo_begin mo_other mo_states mo_kinds mo_nodeOf mo_steps mo_emissions mo_length mo_text mo_worked mo_values n_mo_hits mo_hitAt mo_hitLength mo_written mo_listState mo_listAt mo_listLength mo_stack) sz) 0 0 (va_A (wY ty ad mo_rows mo_columns mo_marks mo_letters mo_mate mo_made mo_nodes mo_sort mo_from mo_to mo_begin mo_other mo_states mo_kinds mo_nodeOf mo_steps mo_emissions mo_length mo_text mo_worked mo_values mo_hits mo_hitAt mo_hitLength mo_written mo_listState mo_listAt mo_listLength mo_stack) sz) := by
  refine xmet_v rfl (Nat.le_of_ble_eq_true rfl) ?_
  intro p e s m below meth c A ls Q hx hb hml hts hown hK hN hA hP hD hS hl hret
  replace hown : s.vm.findClass R_Mo = some m.cls := hown
  have hl : lv_has ls 1 [(0, .ref (ad 0))] := hl
  rw [f_Mo_clear] at hf
  obtain ⟨H, eH⟩ : ∃ H : Heap, H = s.heap := ⟨_, rfl⟩
  obtain ⟨locs, eL⟩ : ∃ L : List Loc, L = [] := ⟨_, rfl⟩
  have hP : va_P (dC, dI) classes (wY ty ad mo_rows mo_columns mo_marks mo_letters mo_mate mo_made mo_nodes mo_sort mo_from mo_to mo_begin mo_other mo_states mo_kinds mo_nodeOf mo_steps mo_emissions mo_length mo_text mo_worked mo_values mo_hits mo_hitAt mo_hitLength mo_written mo_listState mo_listAt mo_listLength mo_stack) H := by rw [eH]; exact hP
  have hS : va_S A s.heap H locs := by rw [eH, eL]; exact hS
  rw [← eL]
  suffices hgoal : W p l e rm_Mo_clear s m (List.toArray [.ref (ad 0)]) below meth c H locs 0 0 Q (F0 m 0 ls []) by rw [eH] at hgoal; exact hgoal
  clear eH eL
  refine lv_aload_n hx hb d_Mo_clear_0 rfl (lv_at hl 0 rfl) ?_
  refine lv_iconst (v := 0) hx hb d_Mo_clear_1 (by decide) ?_
  refine va_put (D := (dC, dI)) (ci := 8) (v := .int (0 : Int32)) (ty := .int) (C := R_Mo) (T := F_Mo) (N := 29) hx hb hts iw_Mo t_Mo t_Mo_ok n_Mo hown hK hP hD hS 0 rfl rfl 1 (by decide) (hts _ m_718) (fun _ h9 => h9) rfl (by decide +kernel) rfl rfl (Nat.le_of_ble_eq_true rfl) d_Mo_clear_2 (fun H locs hP hD hS => ?_)
  have hP : va_P (dC, dI) classes (wY ty ad mo_rows (0 : Int32) mo_marks mo_letters mo_mate mo_made mo_nodes mo_sort mo_from mo_to mo_begin mo_other mo_states mo_kinds mo_nodeOf mo_steps mo_emissions mo_length mo_text mo_worked mo_values mo_hits mo_hitAt mo_hitLength mo_written mo_listState mo_listAt mo_listLength mo_stack) H := hP
  have hD : va_D A (wY ty ad mo_rows (0 : Int32) mo_marks mo_letters mo_mate mo_made mo_nodes mo_sort mo_from mo_to mo_begin mo_other mo_states mo_kinds mo_nodeOf mo_steps mo_emissions mo_length mo_text mo_worked mo_values mo_hits mo_hitAt mo_hitLength mo_written mo_listState mo_listAt mo_listLength mo_stack) := hD
  refine lv_aload_n hx hb d_Mo_clear_5 rfl (lv_at hl 0 rfl) ?_
  obtain ⟨w1, w2, hc3, hf⟩ := ob2_inv hf
  refine xk_v (xrunV (C := R_Mo) (As := []) (rest := []) ⟨hx, hb, hml, hown, hts⟩ (c_Mo_changed l dC dI ty ad ta H.size mo_rows (0 : Int32) mo_marks mo_letters mo_mate mo_made mo_nodes mo_sort mo_from mo_to mo_begin mo_other mo_states mo_kinds mo_nodeOf mo_steps mo_emissions mo_length mo_text mo_worked mo_values mo_hits mo_hitAt mo_hitLength mo_written mo_listState mo_listAt mo_listLength mo_stack  w1 w2 hc3) z_Mo_84 ⟨⟨rfl, rfl⟩, by decide, by decide⟩ hK hP hD hN hS hA (va_recv hK hP (ci := 8) (q0 := 0) rfl rfl) rfl hl.1 rfl (Nat.le_of_ble_eq_true rfl) d_Mo_clear_6 ⟨Nat.zero_le _, Nat.zero_le _⟩) hS hD rfl hA (fun H locs hP hD hS => ?_)
  refine W.eq (g2 := F0 m 9 ls []) rfl ?_
  obtain ⟨rfl, rfl, rfl⟩ := os3 hf
  exact hret H locs _ _ d_Mo_clear_9 hP hS
def f_Mo_pair_K109_165 (x3_76 : Int32) (mo_mate_76 : (Nat → Int32)) (rec76 : (Int32 → (Nat → Int32) → Option (Int32 × (Nat → Int32)))) (x4_109 : Int32) (x5_109 : Int32) : Option (Int32 × (Nat → Int32)) := gd (xin x3_76 8) (gd (xin x5_109 8) (rec76 (x3_76 + (1 : Int32)) (upd (upd mo_mate_76 (Int32.toNatClampNeg x3_76) x5_109) (Int32.toNatClampNeg x5_109) x3_76)))
def f_Mo_pair_L109 (mo_marks : (Nat → Int32)) (k109_165 : (Int32 → Int32 → Option (Int32 × (Nat → Int32)))) : Nat → Int32 → Int32 → Option (Int32 × (Nat → Int32))
  | 0, _, _ => none
  | n109 + 1, x4_109, x5_109 => if x4_109 ≤ (0 : Int32) then (k109_165 x4_109 x5_109) else (gd (xin (x5_109 + (1 : Int32)) 8) (if (mo_marks (Int32.toNatClampNeg (x5_109 + (1 : Int32)))) = (40 : Int32) then ((f_Mo_pair_L109 mo_marks k109_165 n109) (x4_109 + (1 : Int32)) (x5_109 + (1 : Int32))) else (gd (xin (x5_109 + (1 : Int32)) 8) (if (mo_marks (Int32.toNatClampNeg (x5_109 + (1 : Int32)))) = (41 : Int32) then ((f_Mo_pair_L109 mo_marks k109_165 n109) (x4_109 - (1 : Int32)) (x5_109 + (1 : Int32))) else ((f_Mo_pair_L109 mo_marks k109_165 n109) x4_109 (x5_109 + (1 : Int32)))))))
def f_Mo_pair_K76_187 (x1_6 : Int32) (x2_6 : Int32) (x3_76 : Int32) (mo_mate_76 : (Nat → Int32)) : Option (Int32 × (Nat → Int32)) := if x2_6 = (0 : Int32) then (some ((0 : Int32), mo_mate_76)) else (if x1_6 = (0 : Int32) then (some ((1 : Int32), mo_mate_76)) else (some ((0 : Int32), mo_mate_76)))
def f_Mo_pair_L76 (mo_columns : Int32) (mo_marks : (Nat → Int32)) (x1_6 : Int32) (x2_6 : Int32) (k76_187 : (Int32 → (Nat → Int32) → Option (Int32 × (Nat → Int32)))) : Nat → Int32 → (Nat → Int32) → Option (Int32 × (Nat → Int32))
  | 0, _, _ => none
  | n76 + 1, x3_76, mo_mate_76 => if mo_columns ≤ x3_76 then (k76_187 x3_76 mo_mate_76) else (if x2_6 = (0 : Int32) then (k76_187 x3_76 mo_mate_76) else (if x1_6 = (0 : Int32) then (gd (xin x3_76 8) (if (mo_marks (Int32.toNatClampNeg x3_76)) = (40 : Int32) then (f_Mo_pair_L109 mo_marks (f_Mo_pair_K109_165 x3_76 mo_mate_76 (f_Mo_pair_L76 mo_columns mo_marks x1_6 x2_6 k76_187 n76)) 1000 (1 : Int32) x3_76) else ((f_Mo_pair_L76 mo_columns mo_marks x1_6 x2_6 k76_187 n76) (x3_76 + (1 : Int32)) mo_mate_76))) else (k76_187 x3_76 mo_mate_76)))
def f_Mo_pair_K6_74 (mo_columns : Int32) (mo_marks : (Nat → Int32)) (x1_6 : Int32) (x2_6 : Int32) (x3_6 : Int32) (mo_mate_6 : (Nat → Int32)) : Option (Int32 × (Nat → Int32)) := f_Mo_pair_L76 mo_columns mo_marks x1_6 x2_6 (f_Mo_pair_K76_187 x1_6 x2_6) 1000 (0 : Int32) mo_mate_6
def f_Mo_pair_L6 (mo_columns : Int32) (mo_marks : (Nat → Int32)) (k6_74 : (Int32 → Int32 → Int32 → (Nat → Int32) → Option (Int32 × (Nat → Int32)))) : Nat → Int32 → Int32 → Int32 → (Nat → Int32) → Option (Int32 × (Nat → Int32))
  | 0, _, _, _, _ => none
  | n6 + 1, x1_6, x2_6, x3_6, mo_mate_6 => if mo_columns ≤ x3_6 then (k6_74 x1_6 x2_6 x3_6 mo_mate_6) else (gd (xin x3_6 8) (gd (xin x3_6 8) (if (mo_marks (Int32.toNatClampNeg x3_6)) = (40 : Int32) then ((f_Mo_pair_L6 mo_columns mo_marks k6_74 n6) (x1_6 + (1 : Int32)) x2_6 (x3_6 + (1 : Int32)) (upd mo_mate_6 (Int32.toNatClampNeg x3_6) (-1 : Int32))) else (gd (xin x3_6 8) (if (mo_marks (Int32.toNatClampNeg x3_6)) = (41 : Int32) then (if x2_6 = (0 : Int32) then ((f_Mo_pair_L6 mo_columns mo_marks k6_74 n6) (x1_6 - (1 : Int32)) (0 : Int32) (x3_6 + (1 : Int32)) (upd mo_mate_6 (Int32.toNatClampNeg x3_6) (-1 : Int32))) else (if (x1_6 - (1 : Int32)) < (0 : Int32) then ((f_Mo_pair_L6 mo_columns mo_marks k6_74 n6) (x1_6 - (1 : Int32)) (0 : Int32) (x3_6 + (1 : Int32)) (upd mo_mate_6 (Int32.toNatClampNeg x3_6) (-1 : Int32))) else ((f_Mo_pair_L6 mo_columns mo_marks k6_74 n6) (x1_6 - (1 : Int32)) (1 : Int32) (x3_6 + (1 : Int32)) (upd mo_mate_6 (Int32.toNatClampNeg x3_6) (-1 : Int32))))) else ((f_Mo_pair_L6 mo_columns mo_marks k6_74 n6) x1_6 x2_6 (x3_6 + (1 : Int32)) (upd mo_mate_6 (Int32.toNatClampNeg x3_6) (-1 : Int32))))))))
def f_Mo_pair (mo_columns : Int32) (mo_marks : (Nat → Int32)) (mo_mate : (Nat → Int32)) : Option (Int32 × (Nat → Int32)) := f_Mo_pair_L6 mo_columns mo_marks (f_Mo_pair_K6_74 mo_columns mo_marks) 1000 (0 : Int32) (1 : Int32) (0 : Int32) mo_mate
set_option maxHeartbeats 4000000 in
set_option maxRecDepth 100000 in
theorem c_Mo_pair (l : Launch) (dC : Nat → ClassId) (dI : Nat → Nat → Nat) (ty : Nat → ClassId) (ad : Nat → Nat) (ta : Nat → Nat) (sz : Nat) (mo_rows : Int32) (mo_columns : Int32) (mo_marks : (Nat → Int32)) (mo_letters : (Nat → Int32)) (mo_mate : (Nat → Int32)) (mo_made : Int32) (mo_nodes : Int32) (mo_sort : (Nat → Int32)) (mo_from : (Nat → Int32)) (mo_to : (Nat → Int32)) (mo_begin : (Nat → Int32)) (mo_other : (Nat → Int32)) (mo_states : Int32) (mo_kinds : (Nat → Int32)) (mo_nodeOf : (Nat → Int32)) (mo_steps : (Nat → Int32)) (mo_emissions : (Nat → Int32)) (mo_length : Int32) (mo_text : (Nat → Int32)) (mo_worked : Int32) (mo_values : (Nat → Int32)) (mo_hits : Int32) (mo_hitAt : (Nat → Int32)) (mo_hitLength : (Nat → Int32)) (mo_written : Int32) (mo_listState : (Nat → Int32)) (mo_listAt : (Nat → Int32)) (mo_listLength : (Nat → Int32)) (mo_stack : (Nat → Int32))  (r0 : Int32) (n_mo_mate : (Nat → Int32)) (hf : f_Mo_pair mo_columns mo_marks mo_mate = some (r0, n_mo_mate)) : Met l y_Mo_pair (.code y_Mo_pair prog_10_method_5_code 6 (some .boolean) :: gw) rm_Mo_pair (xPre ta (dC, dI) classes (tys3 ty) (wY ty ad mo_rows mo_columns mo_marks mo_letters mo_mate mo_made mo_nodes mo_sort mo_from mo_to mo_begin mo_other mo_states mo_kinds mo_nodeOf mo_steps mo_emissions mo_length mo_text mo_worked mo_values mo_hits mo_hitAt mo_hitLength mo_written mo_listState mo_listAt mo_listLength mo_stack) sz [.ref (ad 0)]) (xQi (dC, dI) classes (wY ty ad mo_rows mo_columns mo_marks mo_letters mo_mate mo_made mo_nodes mo_sort mo_from mo_to mo_begin mo_other mo_states mo_kinds mo_nodeOf mo_steps mo_emissions mo_length mo_text mo_worked mo_values mo_hits mo_hitAt mo_hitLength mo_written mo_listState mo_listAt mo_listLength mo_stack) (wY ty ad mo_rows mo_columns mo_marks mo_letters n_mo_mate mo_made mo_nodes mo_sort mo_from mo_to mo_begin mo_other mo_states mo_kinds mo_nodeOf mo_steps mo_emissions mo_length mo_text mo_worked mo_values mo_hits mo_hitAt mo_hitLength mo_written mo_listState mo_listAt mo_listLength mo_stack) sz r0) 0 0 (va_A (wY ty ad mo_rows mo_columns mo_marks mo_letters mo_mate mo_made mo_nodes mo_sort mo_from mo_to mo_begin mo_other mo_states mo_kinds mo_nodeOf mo_steps mo_emissions mo_length mo_text mo_worked mo_values mo_hits mo_hitAt mo_hitLength mo_written mo_listState mo_listAt mo_listLength mo_stack) sz) := by
  refine xmet_z rfl (Nat.le_of_ble_eq_true rfl) ?_
  intro p e s m below meth c A ls Q hx hb hml hts hown hK hN hA hP hD hS hl hret
  replace hown : s.vm.findClass R_Mo = some m.cls := hown
  have hl : lv_has ls 6 [(0, .ref (ad 0))] := hl
  rw [f_Mo_pair] at hf
  obtain ⟨H, eH⟩ : ∃ H : Heap, H = s.heap := ⟨_, rfl⟩
  obtain ⟨locs, eL⟩ : ∃ L : List Loc, L = [] := ⟨_, rfl⟩
  have hP : va_P (dC, dI) classes (wY ty ad mo_rows mo_columns mo_marks mo_letters mo_mate mo_made mo_nodes mo_sort mo_from mo_to mo_begin mo_other mo_states mo_kinds mo_nodeOf mo_steps mo_emissions mo_length mo_text mo_worked mo_values mo_hits mo_hitAt mo_hitLength mo_written mo_listState mo_listAt mo_listLength mo_stack) H := by rw [eH]; exact hP
  have hS : va_S A s.heap H locs := by rw [eH, eL]; exact hS
  rw [← eL]
  suffices hgoal : W p l e rm_Mo_pair s m (List.toArray [.ref (ad 0)]) below meth c H locs 0 0 Q (F0 m 0 ls []) by rw [eH] at hgoal; exact hgoal
  clear eH eL
  refine lv_iconst (v := 0) hx hb d_Mo_pair_0 (by decide) ?_
  refine lv_istore_n (lv' := [(1, .int (0 : Int32)), (0, .ref (ad 0))]) hx hb d_Mo_pair_1 rfl hl (by decide) rfl (fun ls hl => ?_)
  refine lv_iconst (v := 1) hx hb d_Mo_pair_2 (by decide) ?_
  refine lv_istore_n (lv' := [(2, .int (1 : Int32)), (1, .int (0 : Int32)), (0, .ref (ad 0))]) hx hb d_Mo_pair_3 rfl hl (by decide) rfl (fun ls hl => ?_)
  refine lv_iconst (v := 0) hx hb d_Mo_pair_4 (by decide) ?_
  refine lv_istore_n (lv' := [(3, .int (0 : Int32)), (2, .int (1 : Int32)), (1, .int (0 : Int32)), (0, .ref (ad 0))]) hx hb d_Mo_pair_5 rfl hl (by decide) rfl (fun ls hl => ?_)
  have K6_74 : ∀ (x1_6 : Int32) (x2_6 : Int32) (x3_6 : Int32) (mo_mate_6 : (Nat → Int32)) (H : Heap) (locs : List Loc) (ls : Array Slot), va_P (dC, dI) classes (wY ty ad mo_rows mo_columns mo_marks mo_letters mo_mate_6 mo_made mo_nodes mo_sort mo_from mo_to mo_begin mo_other mo_states mo_kinds mo_nodeOf mo_steps mo_emissions mo_length mo_text mo_worked mo_values mo_hits mo_hitAt mo_hitLength mo_written mo_listState mo_listAt mo_listLength mo_stack) H → va_D A (wY ty ad mo_rows mo_columns mo_marks mo_letters mo_mate_6 mo_made mo_nodes mo_sort mo_from mo_to mo_begin mo_other mo_states mo_kinds mo_nodeOf mo_steps mo_emissions mo_length mo_text mo_worked mo_values mo_hits mo_hitAt mo_hitLength mo_written mo_listState mo_listAt mo_listLength mo_stack) → va_S A s.heap H locs → lv_has ls 6 [(0, .ref (ad 0)), (1, .int x1_6), (2, .int x2_6)] → f_Mo_pair_K6_74 mo_columns mo_marks x1_6 x2_6 x3_6 mo_mate_6 = some (r0, n_mo_mate) → W p l e rm_Mo_pair s m (List.toArray [.ref (ad 0)]) below meth c H locs 0 0 Q (F0 m 74 ls []) := by
    intro x1_6 x2_6 x3_6 mo_mate_6 H locs ls hP hD hS hl hf
    rw [f_Mo_pair_K6_74] at hf
    refine lv_iconst (v := 0) hx hb d_Mo_pair_74 (by decide) ?_
    refine lv_istore_n (lv' := [(3, .int (0 : Int32)), (0, .ref (ad 0)), (1, .int x1_6), (2, .int x2_6)]) hx hb d_Mo_pair_75 rfl hl (by decide) rfl (fun ls hl => ?_)
    have K76_187 : ∀ (x3_76 : Int32) (mo_mate_76 : (Nat → Int32)) (H : Heap) (locs : List Loc) (ls : Array Slot), va_P (dC, dI) classes (wY ty ad mo_rows mo_columns mo_marks mo_letters mo_mate_76 mo_made mo_nodes mo_sort mo_from mo_to mo_begin mo_other mo_states mo_kinds mo_nodeOf mo_steps mo_emissions mo_length mo_text mo_worked mo_values mo_hits mo_hitAt mo_hitLength mo_written mo_listState mo_listAt mo_listLength mo_stack) H → va_D A (wY ty ad mo_rows mo_columns mo_marks mo_letters mo_mate_76 mo_made mo_nodes mo_sort mo_from mo_to mo_begin mo_other mo_states mo_kinds mo_nodeOf mo_steps mo_emissions mo_length mo_text mo_worked mo_values mo_hits mo_hitAt mo_hitLength mo_written mo_listState mo_listAt mo_listLength mo_stack) → va_S A s.heap H locs → lv_has ls 6 [(1, .int x1_6), (2, .int x2_6)] → f_Mo_pair_K76_187 x1_6 x2_6 x3_76 mo_mate_76 = some (r0, n_mo_mate) → W p l e rm_Mo_pair s m (List.toArray [.ref (ad 0)]) below meth c H locs 0 0 Q (F0 m 187 ls []) := by
      intro x3_76 mo_mate_76 H locs ls hP hD hS hl hf
      rw [f_Mo_pair_K76_187] at hf
      refine lv_iload_n hx hb d_Mo_pair_187 rfl (lv_at hl 1 rfl) ?_
      refine lv_if_eq (tgt := 199) hx hb d_Mo_pair_188 (by decide) (fun c21 => ?_) (fun c21 => ?_)
      · have hf := xif_t c21 hf
        refine lv_iconst (v := 0) hx hb d_Mo_pair_199 (by decide) ?_
        obtain ⟨rfl, rfl⟩ := os2 hf
        exact hret H locs _ _ _ d_Mo_pair_200 rfl rfl hP hS
      · have hf := xif_f c21 hf
        refine lv_iload_n hx hb d_Mo_pair_191 rfl (lv_at hl 0 rfl) ?_
        refine lv_if_ne (tgt := 199) hx hb d_Mo_pair_192 (by decide) (fun c22 => ?_) (fun c22 => ?_)
        · have hf := xif_f c22 hf
          refine lv_iconst (v := 0) hx hb d_Mo_pair_199 (by decide) ?_
          obtain ⟨rfl, rfl⟩ := os2 hf
          exact hret H locs _ _ _ d_Mo_pair_200 rfl rfl hP hS
        · have hf := xif_t c22 hf
          refine lv_iconst (v := 1) hx hb d_Mo_pair_195 (by decide) ?_
          refine lv_goto (tgt := 200) hx hb d_Mo_pair_196 (by decide) ?_
          obtain ⟨rfl, rfl⟩ := os2 hf
          exact hret H locs _ _ _ d_Mo_pair_200 rfl rfl hP hS
    have L76 : ∀ (n76 : Nat), ∀ (x3_76 : Int32) (mo_mate_76 : (Nat → Int32)) (H : Heap) (locs : List Loc) (ls : Array Slot), va_P (dC, dI) classes (wY ty ad mo_rows mo_columns mo_marks mo_letters mo_mate_76 mo_made mo_nodes mo_sort mo_from mo_to mo_begin mo_other mo_states mo_kinds mo_nodeOf mo_steps mo_emissions mo_length mo_text mo_worked mo_values mo_hits mo_hitAt mo_hitLength mo_written mo_listState mo_listAt mo_listLength mo_stack) H → va_D A (wY ty ad mo_rows mo_columns mo_marks mo_letters mo_mate_76 mo_made mo_nodes mo_sort mo_from mo_to mo_begin mo_other mo_states mo_kinds mo_nodeOf mo_steps mo_emissions mo_length mo_text mo_worked mo_values mo_hits mo_hitAt mo_hitLength mo_written mo_listState mo_listAt mo_listLength mo_stack) → va_S A s.heap H locs → lv_has ls 6 [(0, .ref (ad 0)), (1, .int x1_6), (2, .int x2_6), (3, .int x3_76)] → f_Mo_pair_L76 mo_columns mo_marks x1_6 x2_6 (f_Mo_pair_K76_187 x1_6 x2_6) n76 x3_76 mo_mate_76 = some (r0, n_mo_mate) → W p l e rm_Mo_pair s m (List.toArray [.ref (ad 0)]) below meth c H locs 0 0 Q (F0 m 76 ls []) := by
      intro n76
      induction n76 with
      | zero =>
        intro x3_76 mo_mate_76 H locs ls hP hD hS hl hf
        rw [f_Mo_pair_L76] at hf
        cases hf
      | succ n76 ih76 =>
        intro x3_76 mo_mate_76 H locs ls hP hD hS hl hf
        rw [f_Mo_pair_L76] at hf
        refine lv_iload_n hx hb d_Mo_pair_76 rfl (lv_at hl 3 rfl) ?_
        refine lv_aload_n hx hb d_Mo_pair_77 rfl (lv_at hl 0 rfl) ?_
        refine va_get (D := (dC, dI)) (ci := 8) (v := .int mo_columns) (C := R_Mo) (T := F_Mo) (N := 29) hx hb hts iw_Mo hown hK hP 0 rfl rfl 1 (by decide) (hts _ m_718) (fun _ h9 => h9) rfl d_Mo_pair_78 ?_
        refine lv_icmp_ge (tgt := 187) hx hb d_Mo_pair_81 (by decide) (fun c9 => ?_) (fun c9 => ?_)
        · have hf := xif_t c9 hf
          exact K76_187 x3_76 mo_mate_76 _ _ _ hP hD hS (lv_sub hl [1, 2] rfl) hf
        · have hf := xif_f c9 hf
          refine lv_iload_n hx hb d_Mo_pair_84 rfl (lv_at hl 2 rfl) ?_
          refine lv_if_eq (tgt := 187) hx hb d_Mo_pair_85 (by decide) (fun c10 => ?_) (fun c10 => ?_)
          · have hf := xif_t c10 hf
            exact K76_187 x3_76 mo_mate_76 _ _ _ hP hD hS (lv_sub hl [1, 2] rfl) hf
          · have hf := xif_f c10 hf
            refine lv_iload_n hx hb d_Mo_pair_88 rfl (lv_at hl 1 rfl) ?_
            refine lv_if_ne (tgt := 187) hx hb d_Mo_pair_89 (by decide) (fun c11 => ?_) (fun c11 => ?_)
            · have hf := xif_f c11 hf
              exact K76_187 x3_76 mo_mate_76 _ _ _ hP hD hS (lv_sub hl [1, 2] rfl) hf
            · have hf := xif_t c11 hf
              refine lv_aload_n hx hb d_Mo_pair_92 rfl (lv_at hl 0 rfl) ?_
              refine va_get (D := (dC, dI)) (ci := 8) (v := .ref (ad 1)) (C := R_Mo) (T := F_Mo) (N := 29) hx hb hts iw_Mo hown hK hP 0 rfl rfl 2 (by decide) (hts _ m_719) (fun _ h9 => h9) rfl d_Mo_pair_93 ?_
              refine lv_iload_n hx hb d_Mo_pair_96 rfl (lv_at hl 3 rfl) ?_
              obtain ⟨hi12, hf⟩ := gdi hf
              refine va_iald hx hb hK hP 1 0 rfl rfl hi12 d_Mo_pair_97 ?_
              refine lv_bipush (v := 40) hx hb d_Mo_pair_98 (by decide) ?_
              refine lv_icmp_ne (tgt := 181) hx hb d_Mo_pair_100 (by decide) (fun c13 => ?_) (fun c13 => ?_)
              · have hf := xif_f c13 hf
                refine lv_iinc (v := (x3_76 + (1 : Int32))) (lv' := [(3, .int (x3_76 + (1 : Int32))), (0, .ref (ad 0)), (1, .int x1_6), (2, .int x2_6)]) hx hb d_Mo_pair_181 hl (k := 3) rfl rfl (by decide) rfl (fun ls hl => ?_)
                refine lv_goto (tgt := 76) hx hb d_Mo_pair_184 (by decide) ?_
                exact ih76 (x3_76 + (1 : Int32)) mo_mate_76 _ _ _ hP hD hS (lv_sub hl [1, 2, 3, 0] rfl) hf
              · have hf := xif_t c13 hf
                refine lv_iconst (v := 1) hx hb d_Mo_pair_103 (by decide) ?_
                refine lv_istore (lv' := [(4, .int (1 : Int32)), (0, .ref (ad 0)), (1, .int x1_6), (2, .int x2_6), (3, .int x3_76)]) hx hb d_Mo_pair_104 hl (by decide) rfl (fun ls hl => ?_)
                refine lv_iload_n hx hb d_Mo_pair_106 rfl (lv_at hl 4 rfl) ?_
                refine lv_istore (lv' := [(5, .int x3_76), (4, .int (1 : Int32)), (0, .ref (ad 0)), (1, .int x1_6), (2, .int x2_6), (3, .int x3_76)]) hx hb d_Mo_pair_107 hl (by decide) rfl (fun ls hl => ?_)
                have K109_165 : ∀ (x4_109 : Int32) (x5_109 : Int32) (H : Heap) (locs : List Loc) (ls : Array Slot), va_P (dC, dI) classes (wY ty ad mo_rows mo_columns mo_marks mo_letters mo_mate_76 mo_made mo_nodes mo_sort mo_from mo_to mo_begin mo_other mo_states mo_kinds mo_nodeOf mo_steps mo_emissions mo_length mo_text mo_worked mo_values mo_hits mo_hitAt mo_hitLength mo_written mo_listState mo_listAt mo_listLength mo_stack) H → va_D A (wY ty ad mo_rows mo_columns mo_marks mo_letters mo_mate_76 mo_made mo_nodes mo_sort mo_from mo_to mo_begin mo_other mo_states mo_kinds mo_nodeOf mo_steps mo_emissions mo_length mo_text mo_worked mo_values mo_hits mo_hitAt mo_hitLength mo_written mo_listState mo_listAt mo_listLength mo_stack) → va_S A s.heap H locs → lv_has ls 6 [(0, .ref (ad 0)), (1, .int x1_6), (2, .int x2_6), (3, .int x3_76), (5, .int x5_109)] → f_Mo_pair_K109_165 x3_76 mo_mate_76 (f_Mo_pair_L76 mo_columns mo_marks x1_6 x2_6 (f_Mo_pair_K76_187 x1_6 x2_6) n76) x4_109 x5_109 = some (r0, n_mo_mate) → W p l e rm_Mo_pair s m (List.toArray [.ref (ad 0)]) below meth c H locs 0 0 Q (F0 m 165 ls []) := by
                  intro x4_109 x5_109 H locs ls hP hD hS hl hf
                  rw [f_Mo_pair_K109_165] at hf
                  refine lv_aload_n hx hb d_Mo_pair_165 rfl (lv_at hl 0 rfl) ?_
                  refine va_get (D := (dC, dI)) (ci := 8) (v := .ref (ad 3)) (C := R_Mo) (T := F_Mo) (N := 29) hx hb hts iw_Mo hown hK hP 0 rfl rfl 4 (by decide) (hts _ m_721) (fun _ h9 => h9) rfl d_Mo_pair_166 ?_
                  refine lv_iload_n hx hb d_Mo_pair_169 rfl (lv_at hl 3 rfl) ?_
                  refine lv_iload hx hb d_Mo_pair_170 (lv_at hl 4 rfl) ?_
                  obtain ⟨hi19, hf⟩ := gdi hf
                  refine va_iast hx hb hK hP hD hS 3 0 rfl rfl hi19 d_Mo_pair_172 (fun H locs hP hD hS => ?_)
                  have hP : va_P (dC, dI) classes (wY ty ad mo_rows mo_columns mo_marks mo_letters (upd mo_mate_76 (Int32.toNatClampNeg x3_76) x5_109) mo_made mo_nodes mo_sort mo_from mo_to mo_begin mo_other mo_states mo_kinds mo_nodeOf mo_steps mo_emissions mo_length mo_text mo_worked mo_values mo_hits mo_hitAt mo_hitLength mo_written mo_listState mo_listAt mo_listLength mo_stack) H := hP
                  have hD : va_D A (wY ty ad mo_rows mo_columns mo_marks mo_letters (upd mo_mate_76 (Int32.toNatClampNeg x3_76) x5_109) mo_made mo_nodes mo_sort mo_from mo_to mo_begin mo_other mo_states mo_kinds mo_nodeOf mo_steps mo_emissions mo_length mo_text mo_worked mo_values mo_hits mo_hitAt mo_hitLength mo_written mo_listState mo_listAt mo_listLength mo_stack) := hD
                  refine lv_aload_n hx hb d_Mo_pair_173 rfl (lv_at hl 0 rfl) ?_
                  refine va_get (D := (dC, dI)) (ci := 8) (v := .ref (ad 3)) (C := R_Mo) (T := F_Mo) (N := 29) hx hb hts iw_Mo hown hK hP 0 rfl rfl 4 (by decide) (hts _ m_721) (fun _ h9 => h9) rfl d_Mo_pair_174 ?_
                  refine lv_iload hx hb d_Mo_pair_177 (lv_at hl 4 rfl) ?_
                  refine lv_iload_n hx hb d_Mo_pair_179 rfl (lv_at hl 3 rfl) ?_
                  obtain ⟨hi20, hf⟩ := gdi hf
                  refine va_iast hx hb hK hP hD hS 3 0 rfl rfl hi20 d_Mo_pair_180 (fun H locs hP hD hS => ?_)
                  have hP : va_P (dC, dI) classes (wY ty ad mo_rows mo_columns mo_marks mo_letters (upd (upd mo_mate_76 (Int32.toNatClampNeg x3_76) x5_109) (Int32.toNatClampNeg x5_109) x3_76) mo_made mo_nodes mo_sort mo_from mo_to mo_begin mo_other mo_states mo_kinds mo_nodeOf mo_steps mo_emissions mo_length mo_text mo_worked mo_values mo_hits mo_hitAt mo_hitLength mo_written mo_listState mo_listAt mo_listLength mo_stack) H := hP
                  have hD : va_D A (wY ty ad mo_rows mo_columns mo_marks mo_letters (upd (upd mo_mate_76 (Int32.toNatClampNeg x3_76) x5_109) (Int32.toNatClampNeg x5_109) x3_76) mo_made mo_nodes mo_sort mo_from mo_to mo_begin mo_other mo_states mo_kinds mo_nodeOf mo_steps mo_emissions mo_length mo_text mo_worked mo_values mo_hits mo_hitAt mo_hitLength mo_written mo_listState mo_listAt mo_listLength mo_stack) := hD
                  refine lv_iinc (v := (x3_76 + (1 : Int32))) (lv' := [(3, .int (x3_76 + (1 : Int32))), (0, .ref (ad 0)), (1, .int x1_6), (2, .int x2_6), (5, .int x5_109)]) hx hb d_Mo_pair_181 hl (k := 3) rfl rfl (by decide) rfl (fun ls hl => ?_)
                  refine lv_goto (tgt := 76) hx hb d_Mo_pair_184 (by decide) ?_
                  exact ih76 (x3_76 + (1 : Int32)) (upd (upd mo_mate_76 (Int32.toNatClampNeg x3_76) x5_109) (Int32.toNatClampNeg x5_109) x3_76) _ _ _ hP hD hS (lv_sub hl [1, 2, 3, 0] rfl) hf
                have L109 : ∀ (n109 : Nat), ∀ (x4_109 : Int32) (x5_109 : Int32) (H : Heap) (locs : List Loc) (ls : Array Slot), va_P (dC, dI) classes (wY ty ad mo_rows mo_columns mo_marks mo_letters mo_mate_76 mo_made mo_nodes mo_sort mo_from mo_to mo_begin mo_other mo_states mo_kinds mo_nodeOf mo_steps mo_emissions mo_length mo_text mo_worked mo_values mo_hits mo_hitAt mo_hitLength mo_written mo_listState mo_listAt mo_listLength mo_stack) H → va_D A (wY ty ad mo_rows mo_columns mo_marks mo_letters mo_mate_76 mo_made mo_nodes mo_sort mo_from mo_to mo_begin mo_other mo_states mo_kinds mo_nodeOf mo_steps mo_emissions mo_length mo_text mo_worked mo_values mo_hits mo_hitAt mo_hitLength mo_written mo_listState mo_listAt mo_listLength mo_stack) → va_S A s.heap H locs → lv_has ls 6 [(0, .ref (ad 0)), (1, .int x1_6), (2, .int x2_6), (3, .int x3_76), (4, .int x4_109), (5, .int x5_109)] → f_Mo_pair_L109 mo_marks (f_Mo_pair_K109_165 x3_76 mo_mate_76 (f_Mo_pair_L76 mo_columns mo_marks x1_6 x2_6 (f_Mo_pair_K76_187 x1_6 x2_6) n76)) n109 x4_109 x5_109 = some (r0, n_mo_mate) → W p l e rm_Mo_pair s m (List.toArray [.ref (ad 0)]) below meth c H locs 0 0 Q (F0 m 109 ls []) := by
                  intro n109
                  induction n109 with
                  | zero =>
                    intro x4_109 x5_109 H locs ls hP hD hS hl hf
                    rw [f_Mo_pair_L109] at hf
                    cases hf
                  | succ n109 ih109 =>
                    intro x4_109 x5_109 H locs ls hP hD hS hl hf
                    rw [f_Mo_pair_L109] at hf
                    refine lv_iload hx hb d_Mo_pair_109 (lv_at hl 4 rfl) ?_
                    refine lv_if_le (tgt := 165) hx hb d_Mo_pair_111 (by decide) (fun c14 => ?_) (fun c14 => ?_)
                    · have hf := xif_t c14 hf
                      exact K109_165 x4_109 x5_109 _ _ _ hP hD hS (lv_sub hl [0, 1, 2, 3, 5] rfl) hf
                    · have hf := xif_f c14 hf
                      refine lv_iload hx hb d_Mo_pair_114 (lv_at hl 5 rfl) ?_
                      refine lv_iconst (v := 1) hx hb d_Mo_pair_116 (by decide) ?_
                      refine lv_iadd hx hb d_Mo_pair_117 ?_
                      refine lv_istore (lv' := [(5, .int (x5_109 + (1 : Int32))), (0, .ref (ad 0)), (1, .int x1_6), (2, .int x2_6), (3, .int x3_76), (4, .int x4_109)]) hx hb d_Mo_pair_118 hl (by decide) rfl (fun ls hl => ?_)
                      refine lv_aload_n hx hb d_Mo_pair_120 rfl (lv_at hl 1 rfl) ?_
                      refine va_get (D := (dC, dI)) (ci := 8) (v := .ref (ad 1)) (C := R_Mo) (T := F_Mo) (N := 29) hx hb hts iw_Mo hown hK hP 0 rfl rfl 2 (by decide) (hts _ m_719) (fun _ h9 => h9) rfl d_Mo_pair_121 ?_
                      refine lv_iload hx hb d_Mo_pair_124 (lv_at hl 0 rfl) ?_
                      obtain ⟨hi15, hf⟩ := gdi hf
                      refine va_iald hx hb hK hP 1 0 rfl rfl hi15 d_Mo_pair_126 ?_
                      refine lv_bipush (v := 40) hx hb d_Mo_pair_127 (by decide) ?_
                      refine lv_icmp_ne (tgt := 139) hx hb d_Mo_pair_129 (by decide) (fun c16 => ?_) (fun c16 => ?_)
                      · have hf := xif_f c16 hf
                        refine lv_aload_n hx hb d_Mo_pair_139 rfl (lv_at hl 1 rfl) ?_
                        refine va_get (D := (dC, dI)) (ci := 8) (v := .ref (ad 1)) (C := R_Mo) (T := F_Mo) (N := 29) hx hb hts iw_Mo hown hK hP 0 rfl rfl 2 (by decide) (hts _ m_719) (fun _ h9 => h9) rfl d_Mo_pair_140 ?_
                        refine lv_iload hx hb d_Mo_pair_143 (lv_at hl 0 rfl) ?_
                        obtain ⟨hi17, hf⟩ := gdi hf
                        refine va_iald hx hb hK hP 1 0 rfl rfl hi17 d_Mo_pair_145 ?_
                        refine lv_bipush (v := 41) hx hb d_Mo_pair_146 (by decide) ?_
                        refine lv_icmp_ne (tgt := 158) hx hb d_Mo_pair_148 (by decide) (fun c18 => ?_) (fun c18 => ?_)
                        · have hf := xif_f c18 hf
                          refine lv_iload hx hb d_Mo_pair_158 (lv_at hl 5 rfl) ?_
                          refine lv_istore (lv' := [(4, .int x4_109), (5, .int (x5_109 + (1 : Int32))), (0, .ref (ad 0)), (1, .int x1_6), (2, .int x2_6), (3, .int x3_76)]) hx hb d_Mo_pair_160 hl (by decide) rfl (fun ls hl => ?_)
                          refine lv_goto (tgt := 109) hx hb d_Mo_pair_162 (by decide) ?_
                          exact ih109 x4_109 (x5_109 + (1 : Int32)) _ _ _ hP hD hS (lv_sub hl [2, 3, 4, 5, 0, 1] rfl) hf
                        · have hf := xif_t c18 hf
                          refine lv_iload hx hb d_Mo_pair_151 (lv_at hl 5 rfl) ?_
                          refine lv_iconst (v := 1) hx hb d_Mo_pair_153 (by decide) ?_
                          refine lv_isub hx hb d_Mo_pair_154 ?_
                          refine lv_goto (tgt := 160) hx hb d_Mo_pair_155 (by decide) ?_
                          refine lv_istore (lv' := [(4, .int (x4_109 - (1 : Int32))), (5, .int (x5_109 + (1 : Int32))), (0, .ref (ad 0)), (1, .int x1_6), (2, .int x2_6), (3, .int x3_76)]) hx hb d_Mo_pair_160 hl (by decide) rfl (fun ls hl => ?_)
                          refine lv_goto (tgt := 109) hx hb d_Mo_pair_162 (by decide) ?_
                          exact ih109 (x4_109 - (1 : Int32)) (x5_109 + (1 : Int32)) _ _ _ hP hD hS (lv_sub hl [2, 3, 4, 5, 0, 1] rfl) hf
                      · have hf := xif_t c16 hf
                        refine lv_iload hx hb d_Mo_pair_132 (lv_at hl 5 rfl) ?_
                        refine lv_iconst (v := 1) hx hb d_Mo_pair_134 (by decide) ?_
                        refine lv_iadd hx hb d_Mo_pair_135 ?_
                        refine lv_goto (tgt := 160) hx hb d_Mo_pair_136 (by decide) ?_
                        refine lv_istore (lv' := [(4, .int (x4_109 + (1 : Int32))), (5, .int (x5_109 + (1 : Int32))), (0, .ref (ad 0)), (1, .int x1_6), (2, .int x2_6), (3, .int x3_76)]) hx hb d_Mo_pair_160 hl (by decide) rfl (fun ls hl => ?_)
                        refine lv_goto (tgt := 109) hx hb d_Mo_pair_162 (by decide) ?_
                        exact ih109 (x4_109 + (1 : Int32)) (x5_109 + (1 : Int32)) _ _ _ hP hD hS (lv_sub hl [2, 3, 4, 5, 0, 1] rfl) hf
                exact L109 1000 (1 : Int32) x3_76 _ _ _ hP hD hS (lv_sub hl [2, 3, 4, 5, 1, 0] rfl) hf
    exact L76 1000 (0 : Int32) mo_mate_6 _ _ _ hP hD hS (lv_sub hl [1, 2, 3, 0] rfl) hf
  have L6 : ∀ (n6 : Nat), ∀ (x1_6 : Int32) (x2_6 : Int32) (x3_6 : Int32) (mo_mate_6 : (Nat → Int32)) (H : Heap) (locs : List Loc) (ls : Array Slot), va_P (dC, dI) classes (wY ty ad mo_rows mo_columns mo_marks mo_letters mo_mate_6 mo_made mo_nodes mo_sort mo_from mo_to mo_begin mo_other mo_states mo_kinds mo_nodeOf mo_steps mo_emissions mo_length mo_text mo_worked mo_values mo_hits mo_hitAt mo_hitLength mo_written mo_listState mo_listAt mo_listLength mo_stack) H → va_D A (wY ty ad mo_rows mo_columns mo_marks mo_letters mo_mate_6 mo_made mo_nodes mo_sort mo_from mo_to mo_begin mo_other mo_states mo_kinds mo_nodeOf mo_steps mo_emissions mo_length mo_text mo_worked mo_values mo_hits mo_hitAt mo_hitLength mo_written mo_listState mo_listAt mo_listLength mo_stack) → va_S A s.heap H locs → lv_has ls 6 [(0, .ref (ad 0)), (1, .int x1_6), (2, .int x2_6), (3, .int x3_6)] → f_Mo_pair_L6 mo_columns mo_marks (f_Mo_pair_K6_74 mo_columns mo_marks) n6 x1_6 x2_6 x3_6 mo_mate_6 = some (r0, n_mo_mate) → W p l e rm_Mo_pair s m (List.toArray [.ref (ad 0)]) below meth c H locs 0 0 Q (F0 m 6 ls []) := by
    intro n6
    induction n6 with
    | zero =>
      intro x1_6 x2_6 x3_6 mo_mate_6 H locs ls hP hD hS hl hf
      rw [f_Mo_pair_L6] at hf
      cases hf
    | succ n6 ih6 =>
      intro x1_6 x2_6 x3_6 mo_mate_6 H locs ls hP hD hS hl hf
      rw [f_Mo_pair_L6] at hf
      refine lv_iload_n hx hb d_Mo_pair_6 rfl (lv_at hl 3 rfl) ?_
      refine lv_aload_n hx hb d_Mo_pair_7 rfl (lv_at hl 0 rfl) ?_
      refine va_get (D := (dC, dI)) (ci := 8) (v := .int mo_columns) (C := R_Mo) (T := F_Mo) (N := 29) hx hb hts iw_Mo hown hK hP 0 rfl rfl 1 (by decide) (hts _ m_718) (fun _ h9 => h9) rfl d_Mo_pair_8 ?_
      refine lv_icmp_ge (tgt := 74) hx hb d_Mo_pair_11 (by decide) (fun c1 => ?_) (fun c1 => ?_)
      · have hf := xif_t c1 hf
        exact K6_74 x1_6 x2_6 x3_6 mo_mate_6 _ _ _ hP hD hS (lv_sub hl [0, 1, 2] rfl) hf
      · have hf := xif_f c1 hf
        refine lv_aload_n hx hb d_Mo_pair_14 rfl (lv_at hl 0 rfl) ?_
        refine va_get (D := (dC, dI)) (ci := 8) (v := .ref (ad 3)) (C := R_Mo) (T := F_Mo) (N := 29) hx hb hts iw_Mo hown hK hP 0 rfl rfl 4 (by decide) (hts _ m_721) (fun _ h9 => h9) rfl d_Mo_pair_15 ?_
        refine lv_iload_n hx hb d_Mo_pair_18 rfl (lv_at hl 3 rfl) ?_
        refine lv_iconst (v := -1) hx hb d_Mo_pair_19 (by decide) ?_
        obtain ⟨hi2, hf⟩ := gdi hf
        refine va_iast hx hb hK hP hD hS 3 0 rfl rfl hi2 d_Mo_pair_20 (fun H locs hP hD hS => ?_)
        have hP : va_P (dC, dI) classes (wY ty ad mo_rows mo_columns mo_marks mo_letters (upd mo_mate_6 (Int32.toNatClampNeg x3_6) (-1 : Int32)) mo_made mo_nodes mo_sort mo_from mo_to mo_begin mo_other mo_states mo_kinds mo_nodeOf mo_steps mo_emissions mo_length mo_text mo_worked mo_values mo_hits mo_hitAt mo_hitLength mo_written mo_listState mo_listAt mo_listLength mo_stack) H := hP
        have hD : va_D A (wY ty ad mo_rows mo_columns mo_marks mo_letters (upd mo_mate_6 (Int32.toNatClampNeg x3_6) (-1 : Int32)) mo_made mo_nodes mo_sort mo_from mo_to mo_begin mo_other mo_states mo_kinds mo_nodeOf mo_steps mo_emissions mo_length mo_text mo_worked mo_values mo_hits mo_hitAt mo_hitLength mo_written mo_listState mo_listAt mo_listLength mo_stack) := hD
        refine lv_aload_n hx hb d_Mo_pair_21 rfl (lv_at hl 0 rfl) ?_
        refine va_get (D := (dC, dI)) (ci := 8) (v := .ref (ad 1)) (C := R_Mo) (T := F_Mo) (N := 29) hx hb hts iw_Mo hown hK hP 0 rfl rfl 2 (by decide) (hts _ m_719) (fun _ h9 => h9) rfl d_Mo_pair_22 ?_
        refine lv_iload_n hx hb d_Mo_pair_25 rfl (lv_at hl 3 rfl) ?_
        obtain ⟨hi3, hf⟩ := gdi hf
        refine va_iald hx hb hK hP 1 0 rfl rfl hi3 d_Mo_pair_26 ?_
        refine lv_bipush (v := 40) hx hb d_Mo_pair_27 (by decide) ?_
        refine lv_icmp_ne (tgt := 39) hx hb d_Mo_pair_29 (by decide) (fun c4 => ?_) (fun c4 => ?_)
        · have hf := xif_f c4 hf
          refine lv_aload_n hx hb d_Mo_pair_39 rfl (lv_at hl 0 rfl) ?_
          refine va_get (D := (dC, dI)) (ci := 8) (v := .ref (ad 1)) (C := R_Mo) (T := F_Mo) (N := 29) hx hb hts iw_Mo hown hK hP 0 rfl rfl 2 (by decide) (hts _ m_719) (fun _ h9 => h9) rfl d_Mo_pair_40 ?_
          refine lv_iload_n hx hb d_Mo_pair_43 rfl (lv_at hl 3 rfl) ?_
          obtain ⟨hi5, hf⟩ := gdi hf
          refine va_iald hx hb hK hP 1 0 rfl rfl hi5 d_Mo_pair_44 ?_
          refine lv_bipush (v := 41) hx hb d_Mo_pair_45 (by decide) ?_
          refine lv_icmp_ne (tgt := 68) hx hb d_Mo_pair_47 (by decide) (fun c6 => ?_) (fun c6 => ?_)
          · have hf := xif_f c6 hf
            refine lv_iinc (v := (x3_6 + (1 : Int32))) (lv' := [(3, .int (x3_6 + (1 : Int32))), (0, .ref (ad 0)), (1, .int x1_6), (2, .int x2_6)]) hx hb d_Mo_pair_68 hl (k := 3) rfl rfl (by decide) rfl (fun ls hl => ?_)
            refine lv_goto (tgt := 6) hx hb d_Mo_pair_71 (by decide) ?_
            exact ih6 x1_6 x2_6 (x3_6 + (1 : Int32)) (upd mo_mate_6 (Int32.toNatClampNeg x3_6) (-1 : Int32)) _ _ _ hP hD hS (lv_sub hl [1, 2, 3, 0] rfl) hf
          · have hf := xif_t c6 hf
            refine lv_iload_n hx hb d_Mo_pair_50 rfl (lv_at hl 1 rfl) ?_
            refine lv_iconst (v := 1) hx hb d_Mo_pair_51 (by decide) ?_
            refine lv_isub hx hb d_Mo_pair_52 ?_
            refine lv_istore_n (lv' := [(1, .int (x1_6 - (1 : Int32))), (0, .ref (ad 0)), (2, .int x2_6), (3, .int x3_6)]) hx hb d_Mo_pair_53 rfl hl (by decide) rfl (fun ls hl => ?_)
            refine lv_iload_n hx hb d_Mo_pair_54 rfl (lv_at hl 2 rfl) ?_
            refine lv_if_eq (tgt := 66) hx hb d_Mo_pair_55 (by decide) (fun c7 => ?_) (fun c7 => ?_)
            · have hf := xif_t c7 hf
              refine lv_iconst (v := 0) hx hb d_Mo_pair_66 (by decide) ?_
              refine lv_istore_n (lv' := [(2, .int (0 : Int32)), (1, .int (x1_6 - (1 : Int32))), (0, .ref (ad 0)), (3, .int x3_6)]) hx hb d_Mo_pair_67 rfl hl (by decide) rfl (fun ls hl => ?_)
              refine lv_iinc (v := (x3_6 + (1 : Int32))) (lv' := [(3, .int (x3_6 + (1 : Int32))), (2, .int (0 : Int32)), (1, .int (x1_6 - (1 : Int32))), (0, .ref (ad 0))]) hx hb d_Mo_pair_68 hl (k := 3) rfl rfl (by decide) rfl (fun ls hl => ?_)
              refine lv_goto (tgt := 6) hx hb d_Mo_pair_71 (by decide) ?_
              exact ih6 (x1_6 - (1 : Int32)) (0 : Int32) (x3_6 + (1 : Int32)) (upd mo_mate_6 (Int32.toNatClampNeg x3_6) (-1 : Int32)) _ _ _ hP hD hS (lv_sub hl [3, 2, 1, 0] rfl) hf
            · have hf := xif_f c7 hf
              refine lv_iload_n hx hb d_Mo_pair_58 rfl (lv_at hl 0 rfl) ?_
              refine lv_if_lt (tgt := 66) hx hb d_Mo_pair_59 (by decide) (fun c8 => ?_) (fun c8 => ?_)
              · have hf := xif_t c8 hf
                refine lv_iconst (v := 0) hx hb d_Mo_pair_66 (by decide) ?_
                refine lv_istore_n (lv' := [(2, .int (0 : Int32)), (1, .int (x1_6 - (1 : Int32))), (0, .ref (ad 0)), (3, .int x3_6)]) hx hb d_Mo_pair_67 rfl hl (by decide) rfl (fun ls hl => ?_)
                refine lv_iinc (v := (x3_6 + (1 : Int32))) (lv' := [(3, .int (x3_6 + (1 : Int32))), (2, .int (0 : Int32)), (1, .int (x1_6 - (1 : Int32))), (0, .ref (ad 0))]) hx hb d_Mo_pair_68 hl (k := 3) rfl rfl (by decide) rfl (fun ls hl => ?_)
                refine lv_goto (tgt := 6) hx hb d_Mo_pair_71 (by decide) ?_
                exact ih6 (x1_6 - (1 : Int32)) (0 : Int32) (x3_6 + (1 : Int32)) (upd mo_mate_6 (Int32.toNatClampNeg x3_6) (-1 : Int32)) _ _ _ hP hD hS (lv_sub hl [3, 2, 1, 0] rfl) hf
              · have hf := xif_f c8 hf
                refine lv_iconst (v := 1) hx hb d_Mo_pair_62 (by decide) ?_
                refine lv_goto (tgt := 67) hx hb d_Mo_pair_63 (by decide) ?_
                refine lv_istore_n (lv' := [(2, .int (1 : Int32)), (1, .int (x1_6 - (1 : Int32))), (0, .ref (ad 0)), (3, .int x3_6)]) hx hb d_Mo_pair_67 rfl hl (by decide) rfl (fun ls hl => ?_)
                refine lv_iinc (v := (x3_6 + (1 : Int32))) (lv' := [(3, .int (x3_6 + (1 : Int32))), (2, .int (1 : Int32)), (1, .int (x1_6 - (1 : Int32))), (0, .ref (ad 0))]) hx hb d_Mo_pair_68 hl (k := 3) rfl rfl (by decide) rfl (fun ls hl => ?_)
                refine lv_goto (tgt := 6) hx hb d_Mo_pair_71 (by decide) ?_
                exact ih6 (x1_6 - (1 : Int32)) (1 : Int32) (x3_6 + (1 : Int32)) (upd mo_mate_6 (Int32.toNatClampNeg x3_6) (-1 : Int32)) _ _ _ hP hD hS (lv_sub hl [3, 2, 1, 0] rfl) hf
        · have hf := xif_t c4 hf
          refine lv_iload_n hx hb d_Mo_pair_32 rfl (lv_at hl 1 rfl) ?_
          refine lv_iconst (v := 1) hx hb d_Mo_pair_33 (by decide) ?_
          refine lv_iadd hx hb d_Mo_pair_34 ?_
          refine lv_istore_n (lv' := [(1, .int (x1_6 + (1 : Int32))), (0, .ref (ad 0)), (2, .int x2_6), (3, .int x3_6)]) hx hb d_Mo_pair_35 rfl hl (by decide) rfl (fun ls hl => ?_)
          refine lv_goto (tgt := 68) hx hb d_Mo_pair_36 (by decide) ?_
          refine lv_iinc (v := (x3_6 + (1 : Int32))) (lv' := [(3, .int (x3_6 + (1 : Int32))), (1, .int (x1_6 + (1 : Int32))), (0, .ref (ad 0)), (2, .int x2_6)]) hx hb d_Mo_pair_68 hl (k := 3) rfl rfl (by decide) rfl (fun ls hl => ?_)
          refine lv_goto (tgt := 6) hx hb d_Mo_pair_71 (by decide) ?_
          exact ih6 (x1_6 + (1 : Int32)) x2_6 (x3_6 + (1 : Int32)) (upd mo_mate_6 (Int32.toNatClampNeg x3_6) (-1 : Int32)) _ _ _ hP hD hS (lv_sub hl [2, 1, 3, 0] rfl) hf
  exact L6 1000 (0 : Int32) (1 : Int32) (0 : Int32) mo_mate _ _ _ hP hD hS (lv_sub hl [3, 2, 1, 0] rfl) hf
def f_Mo_node3 (mo_nodes : Int32) (mo_sort : (Nat → Int32)) (mo_from : (Nat → Int32)) (mo_to : (Nat → Int32)) (a1 : Int32) (a2 : Int32) (a3 : Int32) : Option (Int32 × Int32 × (Nat → Int32) × (Nat → Int32) × (Nat → Int32)) := gd (xin mo_nodes 24) (gd (xin mo_nodes 24) (gd (xin mo_nodes 24) (some (((mo_nodes + (1 : Int32)) - (1 : Int32)), (mo_nodes + (1 : Int32)), (upd mo_sort (Int32.toNatClampNeg mo_nodes) a1), (upd mo_from (Int32.toNatClampNeg mo_nodes) a2), (upd mo_to (Int32.toNatClampNeg mo_nodes) a3)))))
set_option maxHeartbeats 4000000 in
set_option maxRecDepth 100000 in
theorem c_Mo_node3 (l : Launch) (dC : Nat → ClassId) (dI : Nat → Nat → Nat) (ty : Nat → ClassId) (ad : Nat → Nat) (ta : Nat → Nat) (sz : Nat) (mo_rows : Int32) (mo_columns : Int32) (mo_marks : (Nat → Int32)) (mo_letters : (Nat → Int32)) (mo_mate : (Nat → Int32)) (mo_made : Int32) (mo_nodes : Int32) (mo_sort : (Nat → Int32)) (mo_from : (Nat → Int32)) (mo_to : (Nat → Int32)) (mo_begin : (Nat → Int32)) (mo_other : (Nat → Int32)) (mo_states : Int32) (mo_kinds : (Nat → Int32)) (mo_nodeOf : (Nat → Int32)) (mo_steps : (Nat → Int32)) (mo_emissions : (Nat → Int32)) (mo_length : Int32) (mo_text : (Nat → Int32)) (mo_worked : Int32) (mo_values : (Nat → Int32)) (mo_hits : Int32) (mo_hitAt : (Nat → Int32)) (mo_hitLength : (Nat → Int32)) (mo_written : Int32) (mo_listState : (Nat → Int32)) (mo_listAt : (Nat → Int32)) (mo_listLength : (Nat → Int32)) (mo_stack : (Nat → Int32)) (a1 : Int32) (a2 : Int32) (a3 : Int32) (r0 : Int32) (n_mo_nodes : Int32) (n_mo_sort : (Nat → Int32)) (n_mo_from : (Nat → Int32)) (n_mo_to : (Nat → Int32)) (hf : f_Mo_node3 mo_nodes mo_sort mo_from mo_to a1 a2 a3 = some (r0, n_mo_nodes, n_mo_sort, n_mo_from, n_mo_to)) : Met l y_Mo_node3 (.code y_Mo_node3 prog_10_method_6_code 4 (some .int) :: gw) rm_Mo_node3 (xPre ta (dC, dI) classes (tys3 ty) (wY ty ad mo_rows mo_columns mo_marks mo_letters mo_mate mo_made mo_nodes mo_sort mo_from mo_to mo_begin mo_other mo_states mo_kinds mo_nodeOf mo_steps mo_emissions mo_length mo_text mo_worked mo_values mo_hits mo_hitAt mo_hitLength mo_written mo_listState mo_listAt mo_listLength mo_stack) sz [.ref (ad 0), .int a1, .int a2, .int a3]) (xQi (dC, dI) classes (wY ty ad mo_rows mo_columns mo_marks mo_letters mo_mate mo_made mo_nodes mo_sort mo_from mo_to mo_begin mo_other mo_states mo_kinds mo_nodeOf mo_steps mo_emissions mo_length mo_text mo_worked mo_values mo_hits mo_hitAt mo_hitLength mo_written mo_listState mo_listAt mo_listLength mo_stack) (wY ty ad mo_rows mo_columns mo_marks mo_letters mo_mate mo_made n_mo_nodes n_mo_sort n_mo_from n_mo_to mo_begin mo_other mo_states mo_kinds mo_nodeOf mo_steps mo_emissions mo_length mo_text mo_worked mo_values mo_hits mo_hitAt mo_hitLength mo_written mo_listState mo_listAt mo_listLength mo_stack) sz r0) 0 0 (va_A (wY ty ad mo_rows mo_columns mo_marks mo_letters mo_mate mo_made mo_nodes mo_sort mo_from mo_to mo_begin mo_other mo_states mo_kinds mo_nodeOf mo_steps mo_emissions mo_length mo_text mo_worked mo_values mo_hits mo_hitAt mo_hitLength mo_written mo_listState mo_listAt mo_listLength mo_stack) sz) := by
  refine xmet_i rfl (Nat.le_of_ble_eq_true rfl) ?_
  intro p e s m below meth c A ls Q hx hb hml hts hown hK hN hA hP hD hS hl hret
  replace hown : s.vm.findClass R_Mo = some m.cls := hown
  have hl : lv_has ls 4 [(0, .ref (ad 0)), (1, .int a1), (2, .int a2), (3, .int a3)] := hl
  rw [f_Mo_node3] at hf
  obtain ⟨H, eH⟩ : ∃ H : Heap, H = s.heap := ⟨_, rfl⟩
  obtain ⟨locs, eL⟩ : ∃ L : List Loc, L = [] := ⟨_, rfl⟩
  have hP : va_P (dC, dI) classes (wY ty ad mo_rows mo_columns mo_marks mo_letters mo_mate mo_made mo_nodes mo_sort mo_from mo_to mo_begin mo_other mo_states mo_kinds mo_nodeOf mo_steps mo_emissions mo_length mo_text mo_worked mo_values mo_hits mo_hitAt mo_hitLength mo_written mo_listState mo_listAt mo_listLength mo_stack) H := by rw [eH]; exact hP
  have hS : va_S A s.heap H locs := by rw [eH, eL]; exact hS
  rw [← eL]
  suffices hgoal : W p l e rm_Mo_node3 s m (List.toArray [.ref (ad 0), .int a1, .int a2, .int a3]) below meth c H locs 0 0 Q (F0 m 0 ls []) by rw [eH] at hgoal; exact hgoal
  clear eH eL
  refine lv_aload_n hx hb d_Mo_node3_0 rfl (lv_at hl 0 rfl) ?_
  refine va_get (D := (dC, dI)) (ci := 8) (v := .ref (ad 4)) (C := R_Mo) (T := F_Mo) (N := 29) hx hb hts iw_Mo hown hK hP 0 rfl rfl 7 (by decide) (hts _ m_724) (fun _ h9 => h9) rfl d_Mo_node3_1 ?_
  refine lv_aload_n hx hb d_Mo_node3_4 rfl (lv_at hl 0 rfl) ?_
  refine va_get (D := (dC, dI)) (ci := 8) (v := .int mo_nodes) (C := R_Mo) (T := F_Mo) (N := 29) hx hb hts iw_Mo hown hK hP 0 rfl rfl 6 (by decide) (hts _ m_723) (fun _ h9 => h9) rfl d_Mo_node3_5 ?_
  refine lv_iload_n hx hb d_Mo_node3_8 rfl (lv_at hl 1 rfl) ?_
  obtain ⟨hi1, hf⟩ := gdi hf
  refine va_iast hx hb hK hP hD hS 4 0 rfl rfl hi1 d_Mo_node3_9 (fun H locs hP hD hS => ?_)
  have hP : va_P (dC, dI) classes (wY ty ad mo_rows mo_columns mo_marks mo_letters mo_mate mo_made mo_nodes (upd mo_sort (Int32.toNatClampNeg mo_nodes) a1) mo_from mo_to mo_begin mo_other mo_states mo_kinds mo_nodeOf mo_steps mo_emissions mo_length mo_text mo_worked mo_values mo_hits mo_hitAt mo_hitLength mo_written mo_listState mo_listAt mo_listLength mo_stack) H := hP
  have hD : va_D A (wY ty ad mo_rows mo_columns mo_marks mo_letters mo_mate mo_made mo_nodes (upd mo_sort (Int32.toNatClampNeg mo_nodes) a1) mo_from mo_to mo_begin mo_other mo_states mo_kinds mo_nodeOf mo_steps mo_emissions mo_length mo_text mo_worked mo_values mo_hits mo_hitAt mo_hitLength mo_written mo_listState mo_listAt mo_listLength mo_stack) := hD
  refine lv_aload_n hx hb d_Mo_node3_10 rfl (lv_at hl 0 rfl) ?_
  refine va_get (D := (dC, dI)) (ci := 8) (v := .ref (ad 5)) (C := R_Mo) (T := F_Mo) (N := 29) hx hb hts iw_Mo hown hK hP 0 rfl rfl 8 (by decide) (hts _ m_725) (fun _ h9 => h9) rfl d_Mo_node3_11 ?_
  refine lv_aload_n hx hb d_Mo_node3_14 rfl (lv_at hl 0 rfl) ?_
  refine va_get (D := (dC, dI)) (ci := 8) (v := .int mo_nodes) (C := R_Mo) (T := F_Mo) (N := 29) hx hb hts iw_Mo hown hK hP 0 rfl rfl 6 (by decide) (hts _ m_723) (fun _ h9 => h9) rfl d_Mo_node3_15 ?_
  refine lv_iload_n hx hb d_Mo_node3_18 rfl (lv_at hl 2 rfl) ?_
  obtain ⟨hi2, hf⟩ := gdi hf
  refine va_iast hx hb hK hP hD hS 5 0 rfl rfl hi2 d_Mo_node3_19 (fun H locs hP hD hS => ?_)
  have hP : va_P (dC, dI) classes (wY ty ad mo_rows mo_columns mo_marks mo_letters mo_mate mo_made mo_nodes (upd mo_sort (Int32.toNatClampNeg mo_nodes) a1) (upd mo_from (Int32.toNatClampNeg mo_nodes) a2) mo_to mo_begin mo_other mo_states mo_kinds mo_nodeOf mo_steps mo_emissions mo_length mo_text mo_worked mo_values mo_hits mo_hitAt mo_hitLength mo_written mo_listState mo_listAt mo_listLength mo_stack) H := hP
  have hD : va_D A (wY ty ad mo_rows mo_columns mo_marks mo_letters mo_mate mo_made mo_nodes (upd mo_sort (Int32.toNatClampNeg mo_nodes) a1) (upd mo_from (Int32.toNatClampNeg mo_nodes) a2) mo_to mo_begin mo_other mo_states mo_kinds mo_nodeOf mo_steps mo_emissions mo_length mo_text mo_worked mo_values mo_hits mo_hitAt mo_hitLength mo_written mo_listState mo_listAt mo_listLength mo_stack) := hD
  refine lv_aload_n hx hb d_Mo_node3_20 rfl (lv_at hl 0 rfl) ?_
  refine va_get (D := (dC, dI)) (ci := 8) (v := .ref (ad 6)) (C := R_Mo) (T := F_Mo) (N := 29) hx hb hts iw_Mo hown hK hP 0 rfl rfl 9 (by decide) (hts _ m_726) (fun _ h9 => h9) rfl d_Mo_node3_21 ?_
  refine lv_aload_n hx hb d_Mo_node3_24 rfl (lv_at hl 0 rfl) ?_
  refine va_get (D := (dC, dI)) (ci := 8) (v := .int mo_nodes) (C := R_Mo) (T := F_Mo) (N := 29) hx hb hts iw_Mo hown hK hP 0 rfl rfl 6 (by decide) (hts _ m_723) (fun _ h9 => h9) rfl d_Mo_node3_25 ?_
  refine lv_iload_n hx hb d_Mo_node3_28 rfl (lv_at hl 3 rfl) ?_
  obtain ⟨hi3, hf⟩ := gdi hf
  refine va_iast hx hb hK hP hD hS 6 0 rfl rfl hi3 d_Mo_node3_29 (fun H locs hP hD hS => ?_)
  have hP : va_P (dC, dI) classes (wY ty ad mo_rows mo_columns mo_marks mo_letters mo_mate mo_made mo_nodes (upd mo_sort (Int32.toNatClampNeg mo_nodes) a1) (upd mo_from (Int32.toNatClampNeg mo_nodes) a2) (upd mo_to (Int32.toNatClampNeg mo_nodes) a3) mo_begin mo_other mo_states mo_kinds mo_nodeOf mo_steps mo_emissions mo_length mo_text mo_worked mo_values mo_hits mo_hitAt mo_hitLength mo_written mo_listState mo_listAt mo_listLength mo_stack) H := hP
  have hD : va_D A (wY ty ad mo_rows mo_columns mo_marks mo_letters mo_mate mo_made mo_nodes (upd mo_sort (Int32.toNatClampNeg mo_nodes) a1) (upd mo_from (Int32.toNatClampNeg mo_nodes) a2) (upd mo_to (Int32.toNatClampNeg mo_nodes) a3) mo_begin mo_other mo_states mo_kinds mo_nodeOf mo_steps mo_emissions mo_length mo_text mo_worked mo_values mo_hits mo_hitAt mo_hitLength mo_written mo_listState mo_listAt mo_listLength mo_stack) := hD
  refine lv_aload_n hx hb d_Mo_node3_30 rfl (lv_at hl 0 rfl) ?_
  refine lv_aload_n hx hb d_Mo_node3_31 rfl (lv_at hl 0 rfl) ?_
  refine va_get (D := (dC, dI)) (ci := 8) (v := .int mo_nodes) (C := R_Mo) (T := F_Mo) (N := 29) hx hb hts iw_Mo hown hK hP 0 rfl rfl 6 (by decide) (hts _ m_723) (fun _ h9 => h9) rfl d_Mo_node3_32 ?_
  refine lv_iconst (v := 1) hx hb d_Mo_node3_35 (by decide) ?_
  refine lv_iadd hx hb d_Mo_node3_36 ?_
  refine va_put (D := (dC, dI)) (ci := 8) (v := .int (mo_nodes + (1 : Int32))) (ty := .int) (C := R_Mo) (T := F_Mo) (N := 29) hx hb hts iw_Mo t_Mo t_Mo_ok n_Mo hown hK hP hD hS 0 rfl rfl 6 (by decide) (hts _ m_723) (fun _ h9 => h9) rfl (by decide +kernel) rfl rfl (Nat.le_of_ble_eq_true rfl) d_Mo_node3_37 (fun H locs hP hD hS => ?_)
  have hP : va_P (dC, dI) classes (wY ty ad mo_rows mo_columns mo_marks mo_letters mo_mate mo_made (mo_nodes + (1 : Int32)) (upd mo_sort (Int32.toNatClampNeg mo_nodes) a1) (upd mo_from (Int32.toNatClampNeg mo_nodes) a2) (upd mo_to (Int32.toNatClampNeg mo_nodes) a3) mo_begin mo_other mo_states mo_kinds mo_nodeOf mo_steps mo_emissions mo_length mo_text mo_worked mo_values mo_hits mo_hitAt mo_hitLength mo_written mo_listState mo_listAt mo_listLength mo_stack) H := hP
  have hD : va_D A (wY ty ad mo_rows mo_columns mo_marks mo_letters mo_mate mo_made (mo_nodes + (1 : Int32)) (upd mo_sort (Int32.toNatClampNeg mo_nodes) a1) (upd mo_from (Int32.toNatClampNeg mo_nodes) a2) (upd mo_to (Int32.toNatClampNeg mo_nodes) a3) mo_begin mo_other mo_states mo_kinds mo_nodeOf mo_steps mo_emissions mo_length mo_text mo_worked mo_values mo_hits mo_hitAt mo_hitLength mo_written mo_listState mo_listAt mo_listLength mo_stack) := hD
  refine lv_aload_n hx hb d_Mo_node3_40 rfl (lv_at hl 0 rfl) ?_
  refine va_get (D := (dC, dI)) (ci := 8) (v := .int (mo_nodes + (1 : Int32))) (C := R_Mo) (T := F_Mo) (N := 29) hx hb hts iw_Mo hown hK hP 0 rfl rfl 6 (by decide) (hts _ m_723) (fun _ h9 => h9) rfl d_Mo_node3_41 ?_
  refine lv_iconst (v := 1) hx hb d_Mo_node3_44 (by decide) ?_
  refine lv_isub hx hb d_Mo_node3_45 ?_
  obtain ⟨rfl, rfl, rfl, rfl, rfl⟩ := os5 hf
  exact hret H locs _ _ _ d_Mo_node3_46 rfl hP hS
