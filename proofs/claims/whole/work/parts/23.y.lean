/-! pure functions and contracts of Mo_push, Mo_plant, Mo_state (written by wip/gen) -/
def f_Mo_push (mo_stack : (Nat → Int32)) (a1 : Int32) (a2 : Int32) (a3 : Int32) (a4 : Int32) : Option (Int32 × (Nat → Int32)) := gd (xin a1 300) (gd (xin (a1 + (1 : Int32)) 300) (gd (xin (a1 + (2 : Int32)) 300) (some ((a1 + (3 : Int32)), (upd (upd (upd mo_stack (Int32.toNatClampNeg a1) a2) (Int32.toNatClampNeg (a1 + (1 : Int32))) a3) (Int32.toNatClampNeg (a1 + (2 : Int32))) a4)))))
set_option maxHeartbeats 4000000 in
set_option maxRecDepth 100000 in
theorem c_Mo_push (l : Launch) (dC : Nat → ClassId) (dI : Nat → Nat → Nat) (ty : Nat → ClassId) (ad : Nat → Nat) (ta : Nat → Nat) (sz : Nat) (mo_rows : Int32) (mo_columns : Int32) (mo_marks : (Nat → Int32)) (mo_letters : (Nat → Int32)) (mo_mate : (Nat → Int32)) (mo_made : Int32) (mo_nodes : Int32) (mo_sort : (Nat → Int32)) (mo_from : (Nat → Int32)) (mo_to : (Nat → Int32)) (mo_begin : (Nat → Int32)) (mo_other : (Nat → Int32)) (mo_states : Int32) (mo_kinds : (Nat → Int32)) (mo_nodeOf : (Nat → Int32)) (mo_steps : (Nat → Int32)) (mo_emissions : (Nat → Int32)) (mo_length : Int32) (mo_text : (Nat → Int32)) (mo_worked : Int32) (mo_values : (Nat → Int32)) (mo_hits : Int32) (mo_hitAt : (Nat → Int32)) (mo_hitLength : (Nat → Int32)) (mo_written : Int32) (mo_listState : (Nat → Int32)) (mo_listAt : (Nat → Int32)) (mo_listLength : (Nat → Int32)) (mo_stack : (Nat → Int32)) (a1 : Int32) (a2 : Int32) (a3 : Int32) (a4 : Int32) (r0 : Int32) (n_mo_stack : (Nat → Int32)) (hf : f_Mo_push mo_stack a1 a2 a3 a4 = some (r0, n_mo_stack)) : Met l y_Mo_push (.code y_Mo_push prog_10_method_7_code 5 (some .int) :: gw) rm_Mo_push (xPre ta (dC, dI) classes (tys3 ty) (wY ty ad mo_rows mo_columns mo_marks mo_letters mo_mate mo_made mo_nodes mo_sort mo_from mo_to mo_begin mo_other mo_states mo_kinds mo_nodeOf mo_steps mo_emissions mo_length mo_text mo_worked mo_values mo_hits mo_hitAt mo_hitLength mo_written mo_listState mo_listAt mo_listLength mo_stack) sz [.ref (ad 0), .int a1, .int a2, .int a3, .int a4]) (xQi (dC, dI) classes (wY ty ad mo_rows mo_columns mo_marks mo_letters mo_mate mo_made mo_nodes mo_sort mo_from mo_to mo_begin mo_other mo_states mo_kinds mo_nodeOf mo_steps mo_emissions mo_length mo_text mo_worked mo_values mo_hits mo_hitAt mo_hitLength mo_written mo_listState mo_listAt mo_listLength mo_stack) (wY ty ad mo_rows mo_columns mo_marks mo_letters mo_mate mo_made mo_nodes mo_sort mo_from mo_to mo_begin mo_other mo_states mo_kinds mo_nodeOf mo_steps mo_emissions mo_length mo_text mo_worked mo_values mo_hits mo_hitAt mo_hitLength mo_written mo_listState mo_listAt mo_listLength n_mo_stack) sz r0) 0 0 (va_A (wY ty ad mo_rows mo_columns mo_marks mo_letters mo_mate mo_made mo_nodes mo_sort mo_from mo_to mo_begin mo_other mo_states mo_kinds mo_nodeOf mo_steps mo_emissions mo_length mo_text mo_worked mo_values mo_hits mo_hitAt mo_hitLength mo_written mo_listState mo_listAt mo_listLength mo_stack) sz) := by
  refine xmet_i rfl (Nat.le_of_ble_eq_true rfl) ?_
  intro p e s m below meth c A ls Q hx hb hml hts hown hK hN hA hP hD hS hl hret
  replace hown : s.vm.findClass R_Mo = some m.cls := hown
  have hl : lv_has ls 5 [(0, .ref (ad 0)), (1, .int a1), (2, .int a2), (3, .int a3), (4, .int a4)] := hl
  rw [f_Mo_push] at hf
  obtain ⟨H, eH⟩ : ∃ H : Heap, H = s.heap := ⟨_, rfl⟩
  obtain ⟨locs, eL⟩ : ∃ L : List Loc, L = [] := ⟨_, rfl⟩
  have hP : va_P (dC, dI) classes (wY ty ad mo_rows mo_columns mo_marks mo_letters mo_mate mo_made mo_nodes mo_sort mo_from mo_to mo_begin mo_other mo_states mo_kinds mo_nodeOf mo_steps mo_emissions mo_length mo_text mo_worked mo_values mo_hits mo_hitAt mo_hitLength mo_written mo_listState mo_listAt mo_listLength mo_stack) H := by rw [eH]; exact hP
  have hS : va_S A s.heap H locs := by rw [eH, eL]; exact hS
  rw [← eL]
  suffices hgoal : W p l e rm_Mo_push s m (List.toArray [.ref (ad 0), .int a1, .int a2, .int a3, .int a4]) below meth c H locs 0 0 Q (F0 m 0 ls []) by rw [eH] at hgoal; exact hgoal
  clear eH eL
  refine lv_aload_n hx hb d_Mo_push_0 rfl (lv_at hl 0 rfl) ?_
  refine va_get (D := (dC, dI)) (ci := 8) (v := .ref (ad 20)) (C := R_Mo) (T := F_Mo) (N := 29) hx hb hts iw_Mo hown hK hP 0 rfl rfl 28 (by decide) (hts _ m_745) (fun _ h9 => h9) rfl d_Mo_push_1 ?_
  refine lv_iload_n hx hb d_Mo_push_4 rfl (lv_at hl 1 rfl) ?_
  refine lv_iload_n hx hb d_Mo_push_5 rfl (lv_at hl 2 rfl) ?_
  obtain ⟨hi1, hf⟩ := gdi hf
  refine va_iast hx hb hK hP hD hS 20 0 rfl rfl hi1 d_Mo_push_6 (fun H locs hP hD hS => ?_)
  have hP : va_P (dC, dI) classes (wY ty ad mo_rows mo_columns mo_marks mo_letters mo_mate mo_made mo_nodes mo_sort mo_from mo_to mo_begin mo_other mo_states mo_kinds mo_nodeOf mo_steps mo_emissions mo_length mo_text mo_worked mo_values mo_hits mo_hitAt mo_hitLength mo_written mo_listState mo_listAt mo_listLength (upd mo_stack (Int32.toNatClampNeg a1) a2)) H := hP
  have hD : va_D A (wY ty ad mo_rows mo_columns mo_marks mo_letters mo_mate mo_made mo_nodes mo_sort mo_from mo_to mo_begin mo_other mo_states mo_kinds mo_nodeOf mo_steps mo_emissions mo_length mo_text mo_worked mo_values mo_hits mo_hitAt mo_hitLength mo_written mo_listState mo_listAt mo_listLength (upd mo_stack (Int32.toNatClampNeg a1) a2)) := hD
  refine lv_aload_n hx hb d_Mo_push_7 rfl (lv_at hl 0 rfl) ?_
  refine va_get (D := (dC, dI)) (ci := 8) (v := .ref (ad 20)) (C := R_Mo) (T := F_Mo) (N := 29) hx hb hts iw_Mo hown hK hP 0 rfl rfl 28 (by decide) (hts _ m_745) (fun _ h9 => h9) rfl d_Mo_push_8 ?_
  refine lv_iload_n hx hb d_Mo_push_11 rfl (lv_at hl 1 rfl) ?_
  refine lv_iconst (v := 1) hx hb d_Mo_push_12 (by decide) ?_
  refine lv_iadd hx hb d_Mo_push_13 ?_
  refine lv_iload_n hx hb d_Mo_push_14 rfl (lv_at hl 3 rfl) ?_
  obtain ⟨hi2, hf⟩ := gdi hf
  refine va_iast hx hb hK hP hD hS 20 0 rfl rfl hi2 d_Mo_push_15 (fun H locs hP hD hS => ?_)
  have hP : va_P (dC, dI) classes (wY ty ad mo_rows mo_columns mo_marks mo_letters mo_mate mo_made mo_nodes mo_sort mo_from mo_to mo_begin mo_other mo_states mo_kinds mo_nodeOf mo_steps mo_emissions mo_length mo_text mo_worked mo_values mo_hits mo_hitAt mo_hitLength mo_written mo_listState mo_listAt mo_listLength (upd (upd mo_stack (Int32.toNatClampNeg a1) a2) (Int32.toNatClampNeg (a1 + (1 : Int32))) a3)) H := hP
  have hD : va_D A (wY ty ad mo_rows mo_columns mo_marks mo_letters mo_mate mo_made mo_nodes mo_sort mo_from mo_to mo_begin mo_other mo_states mo_kinds mo_nodeOf mo_steps mo_emissions mo_length mo_text mo_worked mo_values mo_hits mo_hitAt mo_hitLength mo_written mo_listState mo_listAt mo_listLength (upd (upd mo_stack (Int32.toNatClampNeg a1) a2) (Int32.toNatClampNeg (a1 + (1 : Int32))) a3)) := hD
  refine lv_aload_n hx hb d_Mo_push_16 rfl (lv_at hl 0 rfl) ?_
  refine va_get (D := (dC, dI)) (ci := 8) (v := .ref (ad 20)) (C := R_Mo) (T := F_Mo) (N := 29) hx hb hts iw_Mo hown hK hP 0 rfl rfl 28 (by decide) (hts _ m_745) (fun _ h9 => h9) rfl d_Mo_push_17 ?_
  refine lv_iload_n hx hb d_Mo_push_20 rfl (lv_at hl 1 rfl) ?_
  refine lv_iconst (v := 2) hx hb d_Mo_push_21 (by decide) ?_
  refine lv_iadd hx hb d_Mo_push_22 ?_
  refine lv_iload hx hb d_Mo_push_23 (lv_at hl 4 rfl) ?_
  obtain ⟨hi3, hf⟩ := gdi hf
  refine va_iast hx hb hK hP hD hS 20 0 rfl rfl hi3 d_Mo_push_25 (fun H locs hP hD hS => ?_)
  have hP : va_P (dC, dI) classes (wY ty ad mo_rows mo_columns mo_marks mo_letters mo_mate mo_made mo_nodes mo_sort mo_from mo_to mo_begin mo_other mo_states mo_kinds mo_nodeOf mo_steps mo_emissions mo_length mo_text mo_worked mo_values mo_hits mo_hitAt mo_hitLength mo_written mo_listState mo_listAt mo_listLength (upd (upd (upd mo_stack (Int32.toNatClampNeg a1) a2) (Int32.toNatClampNeg (a1 + (1 : Int32))) a3) (Int32.toNatClampNeg (a1 + (2 : Int32))) a4)) H := hP
  have hD : va_D A (wY ty ad mo_rows mo_columns mo_marks mo_letters mo_mate mo_made mo_nodes mo_sort mo_from mo_to mo_begin mo_other mo_states mo_kinds mo_nodeOf mo_steps mo_emissions mo_length mo_text mo_worked mo_values mo_hits mo_hitAt mo_hitLength mo_written mo_listState mo_listAt mo_listLength (upd (upd (upd mo_stack (Int32.toNatClampNeg a1) a2) (Int32.toNatClampNeg (a1 + (1 : Int32))) a3) (Int32.toNatClampNeg (a1 + (2 : Int32))) a4)) := hD
  refine lv_iload_n hx hb d_Mo_push_26 rfl (lv_at hl 1 rfl) ?_
  refine lv_iconst (v := 3) hx hb d_Mo_push_27 (by decide) ?_
  refine lv_iadd hx hb d_Mo_push_28 ?_
  obtain ⟨rfl, rfl⟩ := os2 hf
  exact hret H locs _ _ _ d_Mo_push_29 rfl hP hS
def f_Mo_plant_K27_292  (x1_27 : Int32) (mo_nodes_27 : Int32) (mo_sort_27 : (Nat → Int32)) (mo_from_27 : (Nat → Int32)) (mo_to_27 : (Nat → Int32)) (mo_other_27 : (Nat → Int32)) (mo_stack_27 : (Nat → Int32)) : Option (Int32 × (Nat → Int32) × (Nat → Int32) × (Nat → Int32) × (Nat → Int32) × (Nat → Int32)) := some (mo_nodes_27, mo_sort_27, mo_from_27, mo_to_27, mo_other_27, mo_stack_27)
def f_Mo_plant_L27 (mo_mate : (Nat → Int32)) (k27_292 : (Int32 → Int32 → (Nat → Int32) → (Nat → Int32) → (Nat → Int32) → (Nat → Int32) → (Nat → Int32) → Option (Int32 × (Nat → Int32) × (Nat → Int32) × (Nat → Int32) × (Nat → Int32) × (Nat → Int32)))) : Nat → Int32 → Int32 → (Nat → Int32) → (Nat → Int32) → (Nat → Int32) → (Nat → Int32) → (Nat → Int32) → Option (Int32 × (Nat → Int32) × (Nat → Int32) × (Nat → Int32) × (Nat → Int32) × (Nat → Int32))
  | 0, _, _, _, _, _, _, _ => none
  | n27 + 1, x1_27, mo_nodes_27, mo_sort_27, mo_from_27, mo_to_27, mo_other_27, mo_stack_27 => if x1_27 ≤ (0 : Int32) then (k27_292 x1_27 mo_nodes_27 mo_sort_27 mo_from_27 mo_to_27 mo_other_27 mo_stack_27) else (gd (xin (x1_27 - (3 : Int32)) 300) (gd (xin ((x1_27 - (3 : Int32)) + (1 : Int32)) 300) (gd (xin ((x1_27 - (3 : Int32)) + (2 : Int32)) 300) (if (mo_stack_27 (Int32.toNatClampNeg (x1_27 - (3 : Int32)))) = (5 : Int32) then (ob5 (f_Mo_node3 mo_nodes_27 mo_sort_27 mo_from_27 mo_to_27 (5 : Int32) (0 : Int32) (0 : Int32)) (fun r80 w81 w82 w83 w84 => ob2 (f_Mo_push mo_stack_27 (x1_27 - (3 : Int32)) (-1 : Int32) (mo_stack_27 (Int32.toNatClampNeg ((x1_27 - (3 : Int32)) + (1 : Int32)))) (mo_stack_27 (Int32.toNatClampNeg ((x1_27 - (3 : Int32)) + (2 : Int32))))) (fun r86 w87 => (f_Mo_plant_L27 mo_mate k27_292 n27) r86 w81 w82 w83 w84 mo_other_27 w87))) else (if (mo_stack_27 (Int32.toNatClampNeg (x1_27 - (3 : Int32)))) < (100 : Int32) then (if (mo_stack_27 (Int32.toNatClampNeg ((x1_27 - (3 : Int32)) + (1 : Int32)))) ≤ (mo_stack_27 (Int32.toNatClampNeg ((x1_27 - (3 : Int32)) + (2 : Int32)))) then (gd (xin (mo_stack_27 (Int32.toNatClampNeg ((x1_27 - (3 : Int32)) + (1 : Int32)))) 8) (if (0 : Int32) ≤ (mo_mate (Int32.toNatClampNeg (mo_stack_27 (Int32.toNatClampNeg ((x1_27 - (3 : Int32)) + (1 : Int32)))))) then (gd (xin (mo_stack_27 (Int32.toNatClampNeg ((x1_27 - (3 : Int32)) + (2 : Int32)))) 8) (if (0 : Int32) ≤ (mo_mate (Int32.toNatClampNeg (mo_stack_27 (Int32.toNatClampNeg ((x1_27 - (3 : Int32)) + (2 : Int32)))))) then (gd (xin (mo_stack_27 (Int32.toNatClampNeg ((x1_27 - (3 : Int32)) + (1 : Int32)))) 8) (if (mo_mate (Int32.toNatClampNeg (mo_stack_27 (Int32.toNatClampNeg ((x1_27 - (3 : Int32)) + (1 : Int32)))))) = (mo_stack_27 (Int32.toNatClampNeg ((x1_27 - (3 : Int32)) + (2 : Int32)))) then (ob5 (f_Mo_node3 mo_nodes_27 mo_sort_27 mo_from_27 mo_to_27 (3 : Int32) (mo_stack_27 (Int32.toNatClampNeg ((x1_27 - (3 : Int32)) + (1 : Int32)))) (mo_stack_27 (Int32.toNatClampNeg ((x1_27 - (3 : Int32)) + (2 : Int32))))) (fun r37 w38 w39 w40 w41 => ob2 (f_Mo_push mo_stack_27 (x1_27 - (3 : Int32)) (-1 : Int32) ((mo_stack_27 (Int32.toNatClampNeg ((x1_27 - (3 : Int32)) + (1 : Int32)))) + (1 : Int32)) ((mo_stack_27 (Int32.toNatClampNeg ((x1_27 - (3 : Int32)) + (2 : Int32)))) - (1 : Int32))) (fun r43 w44 => (f_Mo_plant_L27 mo_mate k27_292 n27) r43 w38 w39 w40 w41 mo_other_27 w44))) else (ob5 (f_Mo_node3 mo_nodes_27 mo_sort_27 mo_from_27 mo_to_27 (4 : Int32) (0 : Int32) (0 : Int32)) (fun r23 w24 w25 w26 w27 => gd (xin (mo_stack_27 (Int32.toNatClampNeg ((x1_27 - (3 : Int32)) + (1 : Int32)))) 8) (ob2 (f_Mo_push mo_stack_27 (x1_27 - (3 : Int32)) ((100 : Int32) + r23) ((mo_mate (Int32.toNatClampNeg (mo_stack_27 (Int32.toNatClampNeg ((x1_27 - (3 : Int32)) + (1 : Int32)))))) + (1 : Int32)) (mo_stack_27 (Int32.toNatClampNeg ((x1_27 - (3 : Int32)) + (2 : Int32))))) (fun r30 w31 => gd (xin (mo_stack_27 (Int32.toNatClampNeg ((x1_27 - (3 : Int32)) + (1 : Int32)))) 8) (ob2 (f_Mo_push w31 r30 (5 : Int32) (mo_stack_27 (Int32.toNatClampNeg ((x1_27 - (3 : Int32)) + (1 : Int32)))) (mo_mate (Int32.toNatClampNeg (mo_stack_27 (Int32.toNatClampNeg ((x1_27 - (3 : Int32)) + (1 : Int32))))))) (fun r34 w35 => (f_Mo_plant_L27 mo_mate k27_292 n27) r34 w24 w25 w26 w27 mo_other_27 w35)))))))) else (ob5 (f_Mo_node3 mo_nodes_27 mo_sort_27 mo_from_27 mo_to_27 (2 : Int32) (mo_stack_27 (Int32.toNatClampNeg ((x1_27 - (3 : Int32)) + (2 : Int32)))) (mo_stack_27 (Int32.toNatClampNeg ((x1_27 - (3 : Int32)) + (2 : Int32))))) (fun r46 w47 w48 w49 w50 => ob2 (f_Mo_push mo_stack_27 (x1_27 - (3 : Int32)) (-1 : Int32) (mo_stack_27 (Int32.toNatClampNeg ((x1_27 - (3 : Int32)) + (1 : Int32)))) ((mo_stack_27 (Int32.toNatClampNeg ((x1_27 - (3 : Int32)) + (2 : Int32)))) - (1 : Int32))) (fun r52 w53 => (f_Mo_plant_L27 mo_mate k27_292 n27) r52 w47 w48 w49 w50 mo_other_27 w53))))) else (ob5 (f_Mo_node3 mo_nodes_27 mo_sort_27 mo_from_27 mo_to_27 (1 : Int32) (mo_stack_27 (Int32.toNatClampNeg ((x1_27 - (3 : Int32)) + (1 : Int32)))) (mo_stack_27 (Int32.toNatClampNeg ((x1_27 - (3 : Int32)) + (1 : Int32))))) (fun r55 w56 w57 w58 w59 => ob2 (f_Mo_push mo_stack_27 (x1_27 - (3 : Int32)) (-1 : Int32) ((mo_stack_27 (Int32.toNatClampNeg ((x1_27 - (3 : Int32)) + (1 : Int32)))) + (1 : Int32)) (mo_stack_27 (Int32.toNatClampNeg ((x1_27 - (3 : Int32)) + (2 : Int32))))) (fun r61 w62 => (f_Mo_plant_L27 mo_mate k27_292 n27) r61 w56 w57 w58 w59 mo_other_27 w62))))) else (ob5 (f_Mo_node3 mo_nodes_27 mo_sort_27 mo_from_27 mo_to_27 (7 : Int32) (0 : Int32) (0 : Int32)) (fun r64 w65 w66 w67 w68 => (f_Mo_plant_L27 mo_mate k27_292 n27) (x1_27 - (3 : Int32)) w65 w66 w67 w68 mo_other_27 mo_stack_27))) else (ob5 (f_Mo_node3 mo_nodes_27 mo_sort_27 mo_from_27 mo_to_27 (6 : Int32) (0 : Int32) (0 : Int32)) (fun r70 w71 w72 w73 w74 => gd (xin ((mo_stack_27 (Int32.toNatClampNeg (x1_27 - (3 : Int32)))) - (100 : Int32)) 24) (ob2 (f_Mo_push mo_stack_27 (x1_27 - (3 : Int32)) (-1 : Int32) (mo_stack_27 (Int32.toNatClampNeg ((x1_27 - (3 : Int32)) + (1 : Int32)))) (mo_stack_27 (Int32.toNatClampNeg ((x1_27 - (3 : Int32)) + (2 : Int32))))) (fun r77 w78 => (f_Mo_plant_L27 mo_mate k27_292 n27) r77 w71 w72 w73 w74 (upd mo_other_27 (Int32.toNatClampNeg ((mo_stack_27 (Int32.toNatClampNeg (x1_27 - (3 : Int32)))) - (100 : Int32))) r70) w78)))))))))
def f_Mo_plant (mo_columns : Int32) (mo_mate : (Nat → Int32)) (mo_nodes : Int32) (mo_sort : (Nat → Int32)) (mo_from : (Nat → Int32)) (mo_to : (Nat → Int32)) (mo_other : (Nat → Int32)) (mo_stack : (Nat → Int32)) : Option (Int32 × (Nat → Int32) × (Nat → Int32) × (Nat → Int32) × (Nat → Int32) × (Nat → Int32)) := ob5 (f_Mo_node3 (0 : Int32) mo_sort mo_from mo_to (0 : Int32) (0 : Int32) (0 : Int32)) (fun r1 w2 w3 w4 w5 => ob2 (f_Mo_push mo_stack (0 : Int32) (-1 : Int32) (0 : Int32) (mo_columns - (1 : Int32))) (fun r7 w8 => f_Mo_plant_L27 mo_mate (f_Mo_plant_K27_292) 1000 r7 w2 w3 w4 w5 mo_other w8))
set_option maxHeartbeats 4000000 in
set_option maxRecDepth 100000 in
theorem c_Mo_plant (l : Launch) (dC : Nat → ClassId) (dI : Nat → Nat → Nat) (ty : Nat → ClassId) (ad : Nat → Nat) (ta : Nat → Nat) (sz : Nat) (mo_rows : Int32) (mo_columns : Int32) (mo_marks : (Nat → Int32)) (mo_letters : (Nat → Int32)) (mo_mate : (Nat → Int32)) (mo_made : Int32) (mo_nodes : Int32) (mo_sort : (Nat → Int32)) (mo_from : (Nat → Int32)) (mo_to : (Nat → Int32)) (mo_begin : (Nat → Int32)) (mo_other : (Nat → Int32)) (mo_states : Int32) (mo_kinds : (Nat → Int32)) (mo_nodeOf : (Nat → Int32)) (mo_steps : (Nat → Int32)) (mo_emissions : (Nat → Int32)) (mo_length : Int32) (mo_text : (Nat → Int32)) (mo_worked : Int32) (mo_values : (Nat → Int32)) (mo_hits : Int32) (mo_hitAt : (Nat → Int32)) (mo_hitLength : (Nat → Int32)) (mo_written : Int32) (mo_listState : (Nat → Int32)) (mo_listAt : (Nat → Int32)) (mo_listLength : (Nat → Int32)) (mo_stack : (Nat → Int32))  (n_mo_nodes : Int32) (n_mo_sort : (Nat → Int32)) (n_mo_from : (Nat → Int32)) (n_mo_to : (Nat → Int32)) (n_mo_other : (Nat → Int32)) (n_mo_stack : (Nat → Int32)) (hf : f_Mo_plant mo_columns mo_mate mo_nodes mo_sort mo_from mo_to mo_other mo_stack = some (n_mo_nodes, n_mo_sort, n_mo_from, n_mo_to, n_mo_other, n_mo_stack)) : Met l y_Mo_plant (.code y_Mo_plant prog_10_method_8_code 6 none :: gw) rm_Mo_plant (xPre ta (dC, dI) classes (tys3 ty) (wY ty ad mo_rows mo_columns mo_marks mo_letters mo_mate mo_made mo_nodes mo_sort mo_from mo_to mo_begin mo_other mo_states mo_kinds mo_nodeOf mo_steps mo_emissions mo_length mo_text mo_worked mo_values mo_hits mo_hitAt mo_hitLength mo_written mo_listState mo_listAt mo_listLength mo_stack) sz [.ref (ad 0)]) (xQv (dC, dI) classes (wY ty ad mo_rows mo_columns mo_marks mo_letters mo_mate mo_made mo_nodes mo_sort mo_from mo_to mo_begin mo_other mo_states mo_kinds mo_nodeOf mo_steps mo_emissions mo_length mo_text mo_worked mo_values mo_hits mo_hitAt mo_hitLength mo_written mo_listState mo_listAt mo_listLength mo_stack) (wY ty ad mo_rows mo_columns mo_marks mo_letters mo_mate mo_made n_mo_nodes n_mo_sort n_mo_from n_mo_to mo_begin n_mo_other mo_states mo_kinds mo_nodeOf mo_steps mo_emissions mo_length mo_text mo_worked mo_values mo_hits mo_hitAt mo_hitLength mo_written mo_listState mo_listAt mo_listLength n_mo_stack) sz) 0 0 (va_A (wY ty ad mo_rows mo_columns mo_marks mo_letters mo_mate mo_made mo_nodes mo_sort mo_from mo_to mo_begin mo_other mo_states mo_kinds mo_nodeOf mo_steps mo_emissions mo_length mo_text mo_worked mo_values mo_hits mo_hitAt mo_hitLength mo_written mo_listState mo_listAt mo_listLength mo_stack) sz) := by
  refine xmet_v rfl (Nat.le_of_ble_eq_true rfl) ?_
  intro p e s m below meth c A ls Q hx hb hml hts hown hK hN hA hP hD hS hl hret
  replace hown : s.vm.findClass R_Mo = some m.cls := hown
  have hl : lv_has ls 6 [(0, .ref (ad 0))] := hl
  rw [f_Mo_plant] at hf
  obtain ⟨H, eH⟩ : ∃ H : Heap, H = s.heap := ⟨_, rfl⟩
  obtain ⟨locs, eL⟩ : ∃ L : List Loc, L = [] := ⟨_, rfl⟩
  have hP : va_P (dC, dI) classes (wY ty ad mo_rows mo_columns mo_marks mo_letters mo_mate mo_made mo_nodes mo_sort mo_from mo_to mo_begin mo_other mo_states mo_kinds mo_nodeOf mo_steps mo_emissions mo_length mo_text mo_worked mo_values mo_hits mo_hitAt mo_hitLength mo_written mo_listState mo_listAt mo_listLength mo_stack) H := by rw [eH]; exact hP
  have hS : va_S A s.heap H locs := by rw [eH, eL]; exact hS
  rw [← eL]
  suffices hgoal : W p l e rm_Mo_plant s m (List.toArray [.ref (ad 0)]) below meth c H locs 0 0 Q (F0 m 0 ls []) by rw [eH] at hgoal; exact hgoal
  clear eH eL
  refine lv_aload_n hx hb d_Mo_plant_0 rfl (lv_at hl 0 rfl) ?_
  refine lv_iconst (v := 0) hx hb d_Mo_plant_1 (by decide) ?_
  refine va_put (D := (dC, dI)) (ci := 8) (v := .int (0 : Int32)) (ty := .int) (C := R_Mo) (T := F_Mo) (N := 29) hx hb hts iw_Mo t_Mo t_Mo_ok n_Mo hown hK hP hD hS 0 rfl rfl 6 (by decide) (hts _ m_723) (fun _ h9 => h9) rfl (by decide +kernel) rfl rfl (Nat.le_of_ble_eq_true rfl) d_Mo_plant_2 (fun H locs hP hD hS => ?_)
  have hP : va_P (dC, dI) classes (wY ty ad mo_rows mo_columns mo_marks mo_letters mo_mate mo_made (0 : Int32) mo_sort mo_from mo_to mo_begin mo_other mo_states mo_kinds mo_nodeOf mo_steps mo_emissions mo_length mo_text mo_worked mo_values mo_hits mo_hitAt mo_hitLength mo_written mo_listState mo_listAt mo_listLength mo_stack) H := hP
  have hD : va_D A (wY ty ad mo_rows mo_columns mo_marks mo_letters mo_mate mo_made (0 : Int32) mo_sort mo_from mo_to mo_begin mo_other mo_states mo_kinds mo_nodeOf mo_steps mo_emissions mo_length mo_text mo_worked mo_values mo_hits mo_hitAt mo_hitLength mo_written mo_listState mo_listAt mo_listLength mo_stack) := hD
  refine lv_aload_n hx hb d_Mo_plant_5 rfl (lv_at hl 0 rfl) ?_
  refine lv_iconst (v := 0) hx hb d_Mo_plant_6 (by decide) ?_
  refine lv_iconst (v := 0) hx hb d_Mo_plant_7 (by decide) ?_
  refine lv_iconst (v := 0) hx hb d_Mo_plant_8 (by decide) ?_
  obtain ⟨r1, w2, w3, w4, w5, hc6, hf⟩ := ob5_inv hf
  refine xk_i (xrunV (C := R_Mo) (As := [.int (0 : Int32), .int (0 : Int32), .int (0 : Int32)]) (rest := []) ⟨hx, hb, hml, hown, hts⟩ (c_Mo_node3 l dC dI ty ad ta H.size mo_rows mo_columns mo_marks mo_letters mo_mate mo_made (0 : Int32) mo_sort mo_from mo_to mo_begin mo_other mo_states mo_kinds mo_nodeOf mo_steps mo_emissions mo_length mo_text mo_worked mo_values mo_hits mo_hitAt mo_hitLength mo_written mo_listState mo_listAt mo_listLength mo_stack (0 : Int32) (0 : Int32) (0 : Int32) r1 w2 w3 w4 w5 hc6) z_Mo_90 ⟨⟨rfl, rfl⟩, by decide, by decide⟩ hK hP hD hN hS hA (va_recv hK hP (ci := 8) (q0 := 0) rfl rfl) rfl hl.1 rfl (Nat.le_of_ble_eq_true rfl) d_Mo_plant_9 ⟨Nat.zero_le _, Nat.zero_le _⟩) hS hD rfl hA (fun H locs hP hD hS => ?_)
  refine W.eq (g2 := F0 m 12 ls [.int r1]) rfl ?_
  refine lv_pop hx hb d_Mo_plant_12 rfl ?_
  refine lv_aload_n hx hb d_Mo_plant_13 rfl (lv_at hl 0 rfl) ?_
  refine lv_iconst (v := 0) hx hb d_Mo_plant_14 (by decide) ?_
  refine lv_iconst (v := -1) hx hb d_Mo_plant_15 (by decide) ?_
  refine lv_iconst (v := 0) hx hb d_Mo_plant_16 (by decide) ?_
  refine lv_aload_n hx hb d_Mo_plant_17 rfl (lv_at hl 0 rfl) ?_
  refine va_get (D := (dC, dI)) (ci := 8) (v := .int mo_columns) (C := R_Mo) (T := F_Mo) (N := 29) hx hb hts iw_Mo hown hK hP 0 rfl rfl 1 (by decide) (hts _ m_718) (fun _ h9 => h9) rfl d_Mo_plant_18 ?_
  refine lv_iconst (v := 1) hx hb d_Mo_plant_21 (by decide) ?_
  refine lv_isub hx hb d_Mo_plant_22 ?_
  obtain ⟨r7, w8, hc9, hf⟩ := ob2_inv hf
  refine xk_i (xrunV (C := R_Mo) (As := [.int (0 : Int32), .int (-1 : Int32), .int (0 : Int32), .int (mo_columns - (1 : Int32))]) (rest := []) ⟨hx, hb, hml, hown, hts⟩ (c_Mo_push l dC dI ty ad ta H.size mo_rows mo_columns mo_marks mo_letters mo_mate mo_made w2 w3 w4 w5 mo_begin mo_other mo_states mo_kinds mo_nodeOf mo_steps mo_emissions mo_length mo_text mo_worked mo_values mo_hits mo_hitAt mo_hitLength mo_written mo_listState mo_listAt mo_listLength mo_stack (0 : Int32) (-1 : Int32) (0 : Int32) (mo_columns - (1 : Int32)) r7 w8 hc9) z_Mo_94 ⟨⟨rfl, rfl⟩, by decide, by decide⟩ hK hP hD hN hS hA (va_recv hK hP (ci := 8) (q0 := 0) rfl rfl) rfl hl.1 rfl (Nat.le_of_ble_eq_true rfl) d_Mo_plant_23 ⟨Nat.zero_le _, Nat.zero_le _⟩) hS hD rfl hA (fun H locs hP hD hS => ?_)
  refine W.eq (g2 := F0 m 26 ls [.int r7]) rfl ?_
  refine lv_istore_n (lv' := [(1, .int r7), (0, .ref (ad 0))]) hx hb d_Mo_plant_26 rfl hl (by decide) rfl (fun ls hl => ?_)
  have K27_292 : ∀ (x1_27 : Int32) (mo_nodes_27 : Int32) (mo_sort_27 : (Nat → Int32)) (mo_from_27 : (Nat → Int32)) (mo_to_27 : (Nat → Int32)) (mo_other_27 : (Nat → Int32)) (mo_stack_27 : (Nat → Int32)) (H : Heap) (locs : List Loc) (ls : Array Slot), va_P (dC, dI) classes (wY ty ad mo_rows mo_columns mo_marks mo_letters mo_mate mo_made mo_nodes_27 mo_sort_27 mo_from_27 mo_to_27 mo_begin mo_other_27 mo_states mo_kinds mo_nodeOf mo_steps mo_emissions mo_length mo_text mo_worked mo_values mo_hits mo_hitAt mo_hitLength mo_written mo_listState mo_listAt mo_listLength mo_stack_27) H → va_D A (wY ty ad mo_rows mo_columns mo_marks mo_letters mo_mate mo_made mo_nodes_27 mo_sort_27 mo_from_27 mo_to_27 mo_begin mo_other_27 mo_states mo_kinds mo_nodeOf mo_steps mo_emissions mo_length mo_text mo_worked mo_values mo_hits mo_hitAt mo_hitLength mo_written mo_listState mo_listAt mo_listLength mo_stack_27) → va_S A s.heap H locs → lv_has ls 6 [] → f_Mo_plant_K27_292 x1_27 mo_nodes_27 mo_sort_27 mo_from_27 mo_to_27 mo_other_27 mo_stack_27 = some (n_mo_nodes, n_mo_sort, n_mo_from, n_mo_to, n_mo_other, n_mo_stack) → W p l e rm_Mo_plant s m (List.toArray [.ref (ad 0)]) below meth c H locs 0 0 Q (F0 m 292 ls []) := by
    intro x1_27 mo_nodes_27 mo_sort_27 mo_from_27 mo_to_27 mo_other_27 mo_stack_27 H locs ls hP hD hS hl hf
    rw [f_Mo_plant_K27_292] at hf
    obtain ⟨rfl, rfl, rfl, rfl, rfl, rfl⟩ := os6 hf
    exact hret H locs _ _ d_Mo_plant_292 hP hS
  have L27 : ∀ (n27 : Nat), ∀ (x1_27 : Int32) (mo_nodes_27 : Int32) (mo_sort_27 : (Nat → Int32)) (mo_from_27 : (Nat → Int32)) (mo_to_27 : (Nat → Int32)) (mo_other_27 : (Nat → Int32)) (mo_stack_27 : (Nat → Int32)) (H : Heap) (locs : List Loc) (ls : Array Slot), va_P (dC, dI) classes (wY ty ad mo_rows mo_columns mo_marks mo_letters mo_mate mo_made mo_nodes_27 mo_sort_27 mo_from_27 mo_to_27 mo_begin mo_other_27 mo_states mo_kinds mo_nodeOf mo_steps mo_emissions mo_length mo_text mo_worked mo_values mo_hits mo_hitAt mo_hitLength mo_written mo_listState mo_listAt mo_listLength mo_stack_27) H → va_D A (wY ty ad mo_rows mo_columns mo_marks mo_letters mo_mate mo_made mo_nodes_27 mo_sort_27 mo_from_27 mo_to_27 mo_begin mo_other_27 mo_states mo_kinds mo_nodeOf mo_steps mo_emissions mo_length mo_text mo_worked mo_values mo_hits mo_hitAt mo_hitLength mo_written mo_listState mo_listAt mo_listLength mo_stack_27) → va_S A s.heap H locs → lv_has ls 6 [(0, .ref (ad 0)), (1, .int x1_27)] → f_Mo_plant_L27 mo_mate (f_Mo_plant_K27_292) n27 x1_27 mo_nodes_27 mo_sort_27 mo_from_27 mo_to_27 mo_other_27 mo_stack_27 = some (n_mo_nodes, n_mo_sort, n_mo_from, n_mo_to, n_mo_other, n_mo_stack) → W p l e rm_Mo_plant s m (List.toArray [.ref (ad 0)]) below meth c H locs 0 0 Q (F0 m 27 ls []) := by
    intro n27
    induction n27 with
    | zero =>
      intro x1_27 mo_nodes_27 mo_sort_27 mo_from_27 mo_to_27 mo_other_27 mo_stack_27 H locs ls hP hD hS hl hf
      rw [f_Mo_plant_L27] at hf
      cases hf
    | succ n27 ih27 =>
      intro x1_27 mo_nodes_27 mo_sort_27 mo_from_27 mo_to_27 mo_other_27 mo_stack_27 H locs ls hP hD hS hl hf
      rw [f_Mo_plant_L27] at hf
      refine lv_iload_n hx hb d_Mo_plant_27 rfl (lv_at hl 1 rfl) ?_
      refine lv_if_le (tgt := 292) hx hb d_Mo_plant_28 (by decide) (fun c10 => ?_) (fun c10 => ?_)
      · have hf := xif_t c10 hf
        exact K27_292 x1_27 mo_nodes_27 mo_sort_27 mo_from_27 mo_to_27 mo_other_27 mo_stack_27 _ _ _ hP hD hS (lv_sub hl [] rfl) hf
      · have hf := xif_f c10 hf
        refine lv_iload_n hx hb d_Mo_plant_31 rfl (lv_at hl 1 rfl) ?_
        refine lv_iconst (v := 3) hx hb d_Mo_plant_32 (by decide) ?_
        refine lv_isub hx hb d_Mo_plant_33 ?_
        refine lv_istore_n (lv' := [(1, .int (x1_27 - (3 : Int32))), (0, .ref (ad 0))]) hx hb d_Mo_plant_34 rfl hl (by decide) rfl (fun ls hl => ?_)
        refine lv_aload_n hx hb d_Mo_plant_35 rfl (lv_at hl 1 rfl) ?_
        refine va_get (D := (dC, dI)) (ci := 8) (v := .ref (ad 20)) (C := R_Mo) (T := F_Mo) (N := 29) hx hb hts iw_Mo hown hK hP 0 rfl rfl 28 (by decide) (hts _ m_745) (fun _ h9 => h9) rfl d_Mo_plant_36 ?_
        refine lv_iload_n hx hb d_Mo_plant_39 rfl (lv_at hl 0 rfl) ?_
        obtain ⟨hi11, hf⟩ := gdi hf
        refine va_iald hx hb hK hP 20 0 rfl rfl hi11 d_Mo_plant_40 ?_
        refine lv_istore_n (lv' := [(2, .int (mo_stack_27 (Int32.toNatClampNeg (x1_27 - (3 : Int32))))), (1, .int (x1_27 - (3 : Int32))), (0, .ref (ad 0))]) hx hb d_Mo_plant_41 rfl hl (by decide) rfl (fun ls hl => ?_)
        refine lv_aload_n hx hb d_Mo_plant_42 rfl (lv_at hl 2 rfl) ?_
        refine va_get (D := (dC, dI)) (ci := 8) (v := .ref (ad 20)) (C := R_Mo) (T := F_Mo) (N := 29) hx hb hts iw_Mo hown hK hP 0 rfl rfl 28 (by decide) (hts _ m_745) (fun _ h9 => h9) rfl d_Mo_plant_43 ?_
        refine lv_iload_n hx hb d_Mo_plant_46 rfl (lv_at hl 1 rfl) ?_
        refine lv_iconst (v := 1) hx hb d_Mo_plant_47 (by decide) ?_
        refine lv_iadd hx hb d_Mo_plant_48 ?_
        obtain ⟨hi12, hf⟩ := gdi hf
        refine va_iald hx hb hK hP 20 0 rfl rfl hi12 d_Mo_plant_49 ?_
        refine lv_istore_n (lv' := [(3, .int (mo_stack_27 (Int32.toNatClampNeg ((x1_27 - (3 : Int32)) + (1 : Int32))))), (2, .int (mo_stack_27 (Int32.toNatClampNeg (x1_27 - (3 : Int32))))), (1, .int (x1_27 - (3 : Int32))), (0, .ref (ad 0))]) hx hb d_Mo_plant_50 rfl hl (by decide) rfl (fun ls hl => ?_)
        refine lv_aload_n hx hb d_Mo_plant_51 rfl (lv_at hl 3 rfl) ?_
        refine va_get (D := (dC, dI)) (ci := 8) (v := .ref (ad 20)) (C := R_Mo) (T := F_Mo) (N := 29) hx hb hts iw_Mo hown hK hP 0 rfl rfl 28 (by decide) (hts _ m_745) (fun _ h9 => h9) rfl d_Mo_plant_52 ?_
        refine lv_iload_n hx hb d_Mo_plant_55 rfl (lv_at hl 2 rfl) ?_
        refine lv_iconst (v := 2) hx hb d_Mo_plant_56 (by decide) ?_
        refine lv_iadd hx hb d_Mo_plant_57 ?_
        obtain ⟨hi13, hf⟩ := gdi hf
        refine va_iald hx hb hK hP 20 0 rfl rfl hi13 d_Mo_plant_58 ?_
        refine lv_istore (lv' := [(4, .int (mo_stack_27 (Int32.toNatClampNeg ((x1_27 - (3 : Int32)) + (2 : Int32))))), (3, .int (mo_stack_27 (Int32.toNatClampNeg ((x1_27 - (3 : Int32)) + (1 : Int32))))), (2, .int (mo_stack_27 (Int32.toNatClampNeg (x1_27 - (3 : Int32))))), (1, .int (x1_27 - (3 : Int32))), (0, .ref (ad 0))]) hx hb d_Mo_plant_59 hl (by decide) rfl (fun ls hl => ?_)
        refine lv_iload_n hx hb d_Mo_plant_61 rfl (lv_at hl 2 rfl) ?_
        refine lv_iconst (v := 5) hx hb d_Mo_plant_62 (by decide) ?_
        refine lv_icmp_ne (tgt := 87) hx hb d_Mo_plant_63 (by decide) (fun c14 => ?_) (fun c14 => ?_)
        · have hf := xif_f c14 hf
          refine lv_iload_n hx hb d_Mo_plant_87 rfl (lv_at hl 2 rfl) ?_
          refine lv_bipush (v := 100) hx hb d_Mo_plant_88 (by decide) ?_
          refine lv_icmp_lt (tgt := 123) hx hb d_Mo_plant_90 (by decide) (fun c15 => ?_) (fun c15 => ?_)
          · have hf := xif_t c15 hf
            refine lv_iload_n hx hb d_Mo_plant_123 rfl (lv_at hl 1 rfl) ?_
            refine lv_iload hx hb d_Mo_plant_124 (lv_at hl 0 rfl) ?_
            refine lv_icmp_le (tgt := 141) hx hb d_Mo_plant_126 (by decide) (fun c16 => ?_) (fun c16 => ?_)
            · have hf := xif_t c16 hf
              refine lv_aload_n hx hb d_Mo_plant_141 rfl (lv_at hl 4 rfl) ?_
              refine va_get (D := (dC, dI)) (ci := 8) (v := .ref (ad 3)) (C := R_Mo) (T := F_Mo) (N := 29) hx hb hts iw_Mo hown hK hP 0 rfl rfl 4 (by decide) (hts _ m_721) (fun _ h9 => h9) rfl d_Mo_plant_142 ?_
              refine lv_iload_n hx hb d_Mo_plant_145 rfl (lv_at hl 1 rfl) ?_
              obtain ⟨hi17, hf⟩ := gdi hf
              refine va_iald hx hb hK hP 3 0 rfl rfl hi17 d_Mo_plant_146 ?_
              refine lv_if_ge (tgt := 173) hx hb d_Mo_plant_147 (by decide) (fun c18 => ?_) (fun c18 => ?_)
              · have hf := xif_t c18 hf
                refine lv_aload_n hx hb d_Mo_plant_173 rfl (lv_at hl 4 rfl) ?_
                refine va_get (D := (dC, dI)) (ci := 8) (v := .ref (ad 3)) (C := R_Mo) (T := F_Mo) (N := 29) hx hb hts iw_Mo hown hK hP 0 rfl rfl 4 (by decide) (hts _ m_721) (fun _ h9 => h9) rfl d_Mo_plant_174 ?_
                refine lv_iload hx hb d_Mo_plant_177 (lv_at hl 0 rfl) ?_
                obtain ⟨hi19, hf⟩ := gdi hf
                refine va_iald hx hb hK hP 3 0 rfl rfl hi19 d_Mo_plant_179 ?_
                refine lv_if_ge (tgt := 208) hx hb d_Mo_plant_180 (by decide) (fun c20 => ?_) (fun c20 => ?_)
                · have hf := xif_t c20 hf
                  refine lv_aload_n hx hb d_Mo_plant_208 rfl (lv_at hl 4 rfl) ?_
                  refine va_get (D := (dC, dI)) (ci := 8) (v := .ref (ad 3)) (C := R_Mo) (T := F_Mo) (N := 29) hx hb hts iw_Mo hown hK hP 0 rfl rfl 4 (by decide) (hts _ m_721) (fun _ h9 => h9) rfl d_Mo_plant_209 ?_
                  refine lv_iload_n hx hb d_Mo_plant_212 rfl (lv_at hl 1 rfl) ?_
                  obtain ⟨hi21, hf⟩ := gdi hf
                  refine va_iald hx hb hK hP 3 0 rfl rfl hi21 d_Mo_plant_213 ?_
                  refine lv_iload hx hb d_Mo_plant_214 (lv_at hl 0 rfl) ?_
                  refine lv_icmp_ne (tgt := 245) hx hb d_Mo_plant_216 (by decide) (fun c22 => ?_) (fun c22 => ?_)
                  · have hf := xif_f c22 hf
                    refine lv_aload_n hx hb d_Mo_plant_245 rfl (lv_at hl 4 rfl) ?_
                    refine lv_iconst (v := 4) hx hb d_Mo_plant_246 (by decide) ?_
                    refine lv_iconst (v := 0) hx hb d_Mo_plant_247 (by decide) ?_
                    refine lv_iconst (v := 0) hx hb d_Mo_plant_248 (by decide) ?_
                    obtain ⟨r23, w24, w25, w26, w27, hc28, hf⟩ := ob5_inv hf
                    refine xk_i (xrunV (C := R_Mo) (As := [.int (4 : Int32), .int (0 : Int32), .int (0 : Int32)]) (rest := []) ⟨hx, hb, hml, hown, hts⟩ (c_Mo_node3 l dC dI ty ad ta H.size mo_rows mo_columns mo_marks mo_letters mo_mate mo_made mo_nodes_27 mo_sort_27 mo_from_27 mo_to_27 mo_begin mo_other_27 mo_states mo_kinds mo_nodeOf mo_steps mo_emissions mo_length mo_text mo_worked mo_values mo_hits mo_hitAt mo_hitLength mo_written mo_listState mo_listAt mo_listLength mo_stack_27 (4 : Int32) (0 : Int32) (0 : Int32) r23 w24 w25 w26 w27 hc28) z_Mo_90 ⟨⟨rfl, rfl⟩, by decide, by decide⟩ hK hP hD hN hS hA (va_recv hK hP (ci := 8) (q0 := 0) rfl rfl) rfl hl.1 rfl (Nat.le_of_ble_eq_true rfl) d_Mo_plant_249 ⟨Nat.zero_le _, Nat.zero_le _⟩) hS hD rfl hA (fun H locs hP hD hS => ?_)
                    refine W.eq (g2 := F0 m 252 ls [.int r23]) rfl ?_
                    refine lv_istore (lv' := [(5, .int r23), (4, .int (mo_stack_27 (Int32.toNatClampNeg ((x1_27 - (3 : Int32)) + (2 : Int32))))), (3, .int (mo_stack_27 (Int32.toNatClampNeg ((x1_27 - (3 : Int32)) + (1 : Int32))))), (2, .int (mo_stack_27 (Int32.toNatClampNeg (x1_27 - (3 : Int32))))), (1, .int (x1_27 - (3 : Int32))), (0, .ref (ad 0))]) hx hb d_Mo_plant_252 hl (by decide) rfl (fun ls hl => ?_)
                    refine lv_aload_n hx hb d_Mo_plant_254 rfl (lv_at hl 5 rfl) ?_
                    refine lv_iload_n hx hb d_Mo_plant_255 rfl (lv_at hl 4 rfl) ?_
                    refine lv_bipush (v := 100) hx hb d_Mo_plant_256 (by decide) ?_
                    refine lv_iload hx hb d_Mo_plant_258 (lv_at hl 0 rfl) ?_
                    refine lv_iadd hx hb d_Mo_plant_260 ?_
                    refine lv_aload_n hx hb d_Mo_plant_261 rfl (lv_at hl 5 rfl) ?_
                    refine va_get (D := (dC, dI)) (ci := 8) (v := .ref (ad 3)) (C := R_Mo) (T := F_Mo) (N := 29) hx hb hts iw_Mo hown hK hP 0 rfl rfl 4 (by decide) (hts _ m_721) (fun _ h9 => h9) rfl d_Mo_plant_262 ?_
                    refine lv_iload_n hx hb d_Mo_plant_265 rfl (lv_at hl 2 rfl) ?_
                    obtain ⟨hi29, hf⟩ := gdi hf
                    refine va_iald hx hb hK hP 3 0 rfl rfl hi29 d_Mo_plant_266 ?_
                    refine lv_iconst (v := 1) hx hb d_Mo_plant_267 (by decide) ?_
                    refine lv_iadd hx hb d_Mo_plant_268 ?_
                    refine lv_iload hx hb d_Mo_plant_269 (lv_at hl 1 rfl) ?_
                    obtain ⟨r30, w31, hc32, hf⟩ := ob2_inv hf
                    refine xk_i (xrunV (C := R_Mo) (As := [.int (x1_27 - (3 : Int32)), .int ((100 : Int32) + r23), .int ((mo_mate (Int32.toNatClampNeg (mo_stack_27 (Int32.toNatClampNeg ((x1_27 - (3 : Int32)) + (1 : Int32)))))) + (1 : Int32)), .int (mo_stack_27 (Int32.toNatClampNeg ((x1_27 - (3 : Int32)) + (2 : Int32))))]) (rest := []) ⟨hx, hb, hml, hown, hts⟩ (c_Mo_push l dC dI ty ad ta H.size mo_rows mo_columns mo_marks mo_letters mo_mate mo_made w24 w25 w26 w27 mo_begin mo_other_27 mo_states mo_kinds mo_nodeOf mo_steps mo_emissions mo_length mo_text mo_worked mo_values mo_hits mo_hitAt mo_hitLength mo_written mo_listState mo_listAt mo_listLength mo_stack_27 (x1_27 - (3 : Int32)) ((100 : Int32) + r23) ((mo_mate (Int32.toNatClampNeg (mo_stack_27 (Int32.toNatClampNeg ((x1_27 - (3 : Int32)) + (1 : Int32)))))) + (1 : Int32)) (mo_stack_27 (Int32.toNatClampNeg ((x1_27 - (3 : Int32)) + (2 : Int32)))) r30 w31 hc32) z_Mo_94 ⟨⟨rfl, rfl⟩, by decide, by decide⟩ hK hP hD hN hS hA (va_recv hK hP (ci := 8) (q0 := 0) rfl rfl) rfl hl.1 rfl (Nat.le_of_ble_eq_true rfl) d_Mo_plant_271 ⟨Nat.zero_le _, Nat.zero_le _⟩) hS hD rfl hA (fun H locs hP hD hS => ?_)
                    refine W.eq (g2 := F0 m 274 ls [.int r30]) rfl ?_
                    refine lv_istore_n (lv' := [(1, .int r30), (5, .int r23), (4, .int (mo_stack_27 (Int32.toNatClampNeg ((x1_27 - (3 : Int32)) + (2 : Int32))))), (3, .int (mo_stack_27 (Int32.toNatClampNeg ((x1_27 - (3 : Int32)) + (1 : Int32))))), (2, .int (mo_stack_27 (Int32.toNatClampNeg (x1_27 - (3 : Int32))))), (0, .ref (ad 0))]) hx hb d_Mo_plant_274 rfl hl (by decide) rfl (fun ls hl => ?_)
                    refine lv_aload_n hx hb d_Mo_plant_275 rfl (lv_at hl 5 rfl) ?_
                    refine lv_iload_n hx hb d_Mo_plant_276 rfl (lv_at hl 0 rfl) ?_
                    refine lv_iconst (v := 5) hx hb d_Mo_plant_277 (by decide) ?_
                    refine lv_iload_n hx hb d_Mo_plant_278 rfl (lv_at hl 3 rfl) ?_
                    refine lv_aload_n hx hb d_Mo_plant_279 rfl (lv_at hl 5 rfl) ?_
                    refine va_get (D := (dC, dI)) (ci := 8) (v := .ref (ad 3)) (C := R_Mo) (T := F_Mo) (N := 29) hx hb hts iw_Mo hown hK hP 0 rfl rfl 4 (by decide) (hts _ m_721) (fun _ h9 => h9) rfl d_Mo_plant_280 ?_
                    refine lv_iload_n hx hb d_Mo_plant_283 rfl (lv_at hl 3 rfl) ?_
                    obtain ⟨hi33, hf⟩ := gdi hf
                    refine va_iald hx hb hK hP 3 0 rfl rfl hi33 d_Mo_plant_284 ?_
                    obtain ⟨r34, w35, hc36, hf⟩ := ob2_inv hf
                    refine xk_i (xrunV (C := R_Mo) (As := [.int r30, .int (5 : Int32), .int (mo_stack_27 (Int32.toNatClampNeg ((x1_27 - (3 : Int32)) + (1 : Int32)))), .int (mo_mate (Int32.toNatClampNeg (mo_stack_27 (Int32.toNatClampNeg ((x1_27 - (3 : Int32)) + (1 : Int32))))))]) (rest := []) ⟨hx, hb, hml, hown, hts⟩ (c_Mo_push l dC dI ty ad ta H.size mo_rows mo_columns mo_marks mo_letters mo_mate mo_made w24 w25 w26 w27 mo_begin mo_other_27 mo_states mo_kinds mo_nodeOf mo_steps mo_emissions mo_length mo_text mo_worked mo_values mo_hits mo_hitAt mo_hitLength mo_written mo_listState mo_listAt mo_listLength w31 r30 (5 : Int32) (mo_stack_27 (Int32.toNatClampNeg ((x1_27 - (3 : Int32)) + (1 : Int32)))) (mo_mate (Int32.toNatClampNeg (mo_stack_27 (Int32.toNatClampNeg ((x1_27 - (3 : Int32)) + (1 : Int32)))))) r34 w35 hc36) z_Mo_94 ⟨⟨rfl, rfl⟩, by decide, by decide⟩ hK hP hD hN hS hA (va_recv hK hP (ci := 8) (q0 := 0) rfl rfl) rfl hl.1 rfl (Nat.le_of_ble_eq_true rfl) d_Mo_plant_285 ⟨Nat.zero_le _, Nat.zero_le _⟩) hS hD rfl hA (fun H locs hP hD hS => ?_)
                    refine W.eq (g2 := F0 m 288 ls [.int r34]) rfl ?_
                    refine lv_istore_n (lv' := [(1, .int r34), (5, .int r23), (4, .int (mo_stack_27 (Int32.toNatClampNeg ((x1_27 - (3 : Int32)) + (2 : Int32))))), (3, .int (mo_stack_27 (Int32.toNatClampNeg ((x1_27 - (3 : Int32)) + (1 : Int32))))), (2, .int (mo_stack_27 (Int32.toNatClampNeg (x1_27 - (3 : Int32))))), (0, .ref (ad 0))]) hx hb d_Mo_plant_288 rfl hl (by decide) rfl (fun ls hl => ?_)
                    refine lv_goto (tgt := 27) hx hb d_Mo_plant_289 (by decide) ?_
                    exact ih27 r34 w24 w25 w26 w27 mo_other_27 w35 _ _ _ hP hD hS (lv_sub hl [5, 0] rfl) hf
                  · have hf := xif_t c22 hf
                    refine lv_aload_n hx hb d_Mo_plant_219 rfl (lv_at hl 4 rfl) ?_
                    refine lv_iconst (v := 3) hx hb d_Mo_plant_220 (by decide) ?_
                    refine lv_iload_n hx hb d_Mo_plant_221 rfl (lv_at hl 1 rfl) ?_
                    refine lv_iload hx hb d_Mo_plant_222 (lv_at hl 0 rfl) ?_
                    obtain ⟨r37, w38, w39, w40, w41, hc42, hf⟩ := ob5_inv hf
                    refine xk_i (xrunV (C := R_Mo) (As := [.int (3 : Int32), .int (mo_stack_27 (Int32.toNatClampNeg ((x1_27 - (3 : Int32)) + (1 : Int32)))), .int (mo_stack_27 (Int32.toNatClampNeg ((x1_27 - (3 : Int32)) + (2 : Int32))))]) (rest := []) ⟨hx, hb, hml, hown, hts⟩ (c_Mo_node3 l dC dI ty ad ta H.size mo_rows mo_columns mo_marks mo_letters mo_mate mo_made mo_nodes_27 mo_sort_27 mo_from_27 mo_to_27 mo_begin mo_other_27 mo_states mo_kinds mo_nodeOf mo_steps mo_emissions mo_length mo_text mo_worked mo_values mo_hits mo_hitAt mo_hitLength mo_written mo_listState mo_listAt mo_listLength mo_stack_27 (3 : Int32) (mo_stack_27 (Int32.toNatClampNeg ((x1_27 - (3 : Int32)) + (1 : Int32)))) (mo_stack_27 (Int32.toNatClampNeg ((x1_27 - (3 : Int32)) + (2 : Int32)))) r37 w38 w39 w40 w41 hc42) z_Mo_90 ⟨⟨rfl, rfl⟩, by decide, by decide⟩ hK hP hD hN hS hA (va_recv hK hP (ci := 8) (q0 := 0) rfl rfl) rfl hl.1 rfl (Nat.le_of_ble_eq_true rfl) d_Mo_plant_224 ⟨Nat.zero_le _, Nat.zero_le _⟩) hS hD rfl hA (fun H locs hP hD hS => ?_)
                    refine W.eq (g2 := F0 m 227 ls [.int r37]) rfl ?_
                    refine lv_pop hx hb d_Mo_plant_227 rfl ?_
                    refine lv_aload_n hx hb d_Mo_plant_228 rfl (lv_at hl 4 rfl) ?_
                    refine lv_iload_n hx hb d_Mo_plant_229 rfl (lv_at hl 3 rfl) ?_
                    refine lv_iconst (v := -1) hx hb d_Mo_plant_230 (by decide) ?_
                    refine lv_iload_n hx hb d_Mo_plant_231 rfl (lv_at hl 1 rfl) ?_
                    refine lv_iconst (v := 1) hx hb d_Mo_plant_232 (by decide) ?_
                    refine lv_iadd hx hb d_Mo_plant_233 ?_
                    refine lv_iload hx hb d_Mo_plant_234 (lv_at hl 0 rfl) ?_
                    refine lv_iconst (v := 1) hx hb d_Mo_plant_236 (by decide) ?_
                    refine lv_isub hx hb d_Mo_plant_237 ?_
                    obtain ⟨r43, w44, hc45, hf⟩ := ob2_inv hf
                    refine xk_i (xrunV (C := R_Mo) (As := [.int (x1_27 - (3 : Int32)), .int (-1 : Int32), .int ((mo_stack_27 (Int32.toNatClampNeg ((x1_27 - (3 : Int32)) + (1 : Int32)))) + (1 : Int32)), .int ((mo_stack_27 (Int32.toNatClampNeg ((x1_27 - (3 : Int32)) + (2 : Int32)))) - (1 : Int32))]) (rest := []) ⟨hx, hb, hml, hown, hts⟩ (c_Mo_push l dC dI ty ad ta H.size mo_rows mo_columns mo_marks mo_letters mo_mate mo_made w38 w39 w40 w41 mo_begin mo_other_27 mo_states mo_kinds mo_nodeOf mo_steps mo_emissions mo_length mo_text mo_worked mo_values mo_hits mo_hitAt mo_hitLength mo_written mo_listState mo_listAt mo_listLength mo_stack_27 (x1_27 - (3 : Int32)) (-1 : Int32) ((mo_stack_27 (Int32.toNatClampNeg ((x1_27 - (3 : Int32)) + (1 : Int32)))) + (1 : Int32)) ((mo_stack_27 (Int32.toNatClampNeg ((x1_27 - (3 : Int32)) + (2 : Int32)))) - (1 : Int32)) r43 w44 hc45) z_Mo_94 ⟨⟨rfl, rfl⟩, by decide, by decide⟩ hK hP hD hN hS hA (va_recv hK hP (ci := 8) (q0 := 0) rfl rfl) rfl hl.1 rfl (Nat.le_of_ble_eq_true rfl) d_Mo_plant_238 ⟨Nat.zero_le _, Nat.zero_le _⟩) hS hD rfl hA (fun H locs hP hD hS => ?_)
                    refine W.eq (g2 := F0 m 241 ls [.int r43]) rfl ?_
                    refine lv_istore_n (lv' := [(1, .int r43), (4, .int (mo_stack_27 (Int32.toNatClampNeg ((x1_27 - (3 : Int32)) + (2 : Int32))))), (3, .int (mo_stack_27 (Int32.toNatClampNeg ((x1_27 - (3 : Int32)) + (1 : Int32))))), (2, .int (mo_stack_27 (Int32.toNatClampNeg (x1_27 - (3 : Int32))))), (0, .ref (ad 0))]) hx hb d_Mo_plant_241 rfl hl (by decide) rfl (fun ls hl => ?_)
                    refine lv_goto (tgt := 289) hx hb d_Mo_plant_242 (by decide) ?_
                    refine lv_goto (tgt := 27) hx hb d_Mo_plant_289 (by decide) ?_
                    exact ih27 r43 w38 w39 w40 w41 mo_other_27 w44 _ _ _ hP hD hS (lv_sub hl [4, 0] rfl) hf
                · have hf := xif_f c20 hf
                  refine lv_aload_n hx hb d_Mo_plant_183 rfl (lv_at hl 4 rfl) ?_
                  refine lv_iconst (v := 2) hx hb d_Mo_plant_184 (by decide) ?_
                  refine lv_iload hx hb d_Mo_plant_185 (lv_at hl 0 rfl) ?_
                  refine lv_iload hx hb d_Mo_plant_187 (lv_at hl 0 rfl) ?_
                  obtain ⟨r46, w47, w48, w49, w50, hc51, hf⟩ := ob5_inv hf
                  refine xk_i (xrunV (C := R_Mo) (As := [.int (2 : Int32), .int (mo_stack_27 (Int32.toNatClampNeg ((x1_27 - (3 : Int32)) + (2 : Int32)))), .int (mo_stack_27 (Int32.toNatClampNeg ((x1_27 - (3 : Int32)) + (2 : Int32))))]) (rest := []) ⟨hx, hb, hml, hown, hts⟩ (c_Mo_node3 l dC dI ty ad ta H.size mo_rows mo_columns mo_marks mo_letters mo_mate mo_made mo_nodes_27 mo_sort_27 mo_from_27 mo_to_27 mo_begin mo_other_27 mo_states mo_kinds mo_nodeOf mo_steps mo_emissions mo_length mo_text mo_worked mo_values mo_hits mo_hitAt mo_hitLength mo_written mo_listState mo_listAt mo_listLength mo_stack_27 (2 : Int32) (mo_stack_27 (Int32.toNatClampNeg ((x1_27 - (3 : Int32)) + (2 : Int32)))) (mo_stack_27 (Int32.toNatClampNeg ((x1_27 - (3 : Int32)) + (2 : Int32)))) r46 w47 w48 w49 w50 hc51) z_Mo_90 ⟨⟨rfl, rfl⟩, by decide, by decide⟩ hK hP hD hN hS hA (va_recv hK hP (ci := 8) (q0 := 0) rfl rfl) rfl hl.1 rfl (Nat.le_of_ble_eq_true rfl) d_Mo_plant_189 ⟨Nat.zero_le _, Nat.zero_le _⟩) hS hD rfl hA (fun H locs hP hD hS => ?_)
                  refine W.eq (g2 := F0 m 192 ls [.int r46]) rfl ?_
                  refine lv_pop hx hb d_Mo_plant_192 rfl ?_
                  refine lv_aload_n hx hb d_Mo_plant_193 rfl (lv_at hl 4 rfl) ?_
                  refine lv_iload_n hx hb d_Mo_plant_194 rfl (lv_at hl 3 rfl) ?_
                  refine lv_iconst (v := -1) hx hb d_Mo_plant_195 (by decide) ?_
                  refine lv_iload_n hx hb d_Mo_plant_196 rfl (lv_at hl 1 rfl) ?_
                  refine lv_iload hx hb d_Mo_plant_197 (lv_at hl 0 rfl) ?_
                  refine lv_iconst (v := 1) hx hb d_Mo_plant_199 (by decide) ?_
                  refine lv_isub hx hb d_Mo_plant_200 ?_
                  obtain ⟨r52, w53, hc54, hf⟩ := ob2_inv hf
                  refine xk_i (xrunV (C := R_Mo) (As := [.int (x1_27 - (3 : Int32)), .int (-1 : Int32), .int (mo_stack_27 (Int32.toNatClampNeg ((x1_27 - (3 : Int32)) + (1 : Int32)))), .int ((mo_stack_27 (Int32.toNatClampNeg ((x1_27 - (3 : Int32)) + (2 : Int32)))) - (1 : Int32))]) (rest := []) ⟨hx, hb, hml, hown, hts⟩ (c_Mo_push l dC dI ty ad ta H.size mo_rows mo_columns mo_marks mo_letters mo_mate mo_made w47 w48 w49 w50 mo_begin mo_other_27 mo_states mo_kinds mo_nodeOf mo_steps mo_emissions mo_length mo_text mo_worked mo_values mo_hits mo_hitAt mo_hitLength mo_written mo_listState mo_listAt mo_listLength mo_stack_27 (x1_27 - (3 : Int32)) (-1 : Int32) (mo_stack_27 (Int32.toNatClampNeg ((x1_27 - (3 : Int32)) + (1 : Int32)))) ((mo_stack_27 (Int32.toNatClampNeg ((x1_27 - (3 : Int32)) + (2 : Int32)))) - (1 : Int32)) r52 w53 hc54) z_Mo_94 ⟨⟨rfl, rfl⟩, by decide, by decide⟩ hK hP hD hN hS hA (va_recv hK hP (ci := 8) (q0 := 0) rfl rfl) rfl hl.1 rfl (Nat.le_of_ble_eq_true rfl) d_Mo_plant_201 ⟨Nat.zero_le _, Nat.zero_le _⟩) hS hD rfl hA (fun H locs hP hD hS => ?_)
                  refine W.eq (g2 := F0 m 204 ls [.int r52]) rfl ?_
                  refine lv_istore_n (lv' := [(1, .int r52), (4, .int (mo_stack_27 (Int32.toNatClampNeg ((x1_27 - (3 : Int32)) + (2 : Int32))))), (3, .int (mo_stack_27 (Int32.toNatClampNeg ((x1_27 - (3 : Int32)) + (1 : Int32))))), (2, .int (mo_stack_27 (Int32.toNatClampNeg (x1_27 - (3 : Int32))))), (0, .ref (ad 0))]) hx hb d_Mo_plant_204 rfl hl (by decide) rfl (fun ls hl => ?_)
                  refine lv_goto (tgt := 289) hx hb d_Mo_plant_205 (by decide) ?_
                  refine lv_goto (tgt := 27) hx hb d_Mo_plant_289 (by decide) ?_
                  exact ih27 r52 w47 w48 w49 w50 mo_other_27 w53 _ _ _ hP hD hS (lv_sub hl [4, 0] rfl) hf
              · have hf := xif_f c18 hf
                refine lv_aload_n hx hb d_Mo_plant_150 rfl (lv_at hl 4 rfl) ?_
                refine lv_iconst (v := 1) hx hb d_Mo_plant_151 (by decide) ?_
                refine lv_iload_n hx hb d_Mo_plant_152 rfl (lv_at hl 1 rfl) ?_
                refine lv_iload_n hx hb d_Mo_plant_153 rfl (lv_at hl 1 rfl) ?_
                obtain ⟨r55, w56, w57, w58, w59, hc60, hf⟩ := ob5_inv hf
                refine xk_i (xrunV (C := R_Mo) (As := [.int (1 : Int32), .int (mo_stack_27 (Int32.toNatClampNeg ((x1_27 - (3 : Int32)) + (1 : Int32)))), .int (mo_stack_27 (Int32.toNatClampNeg ((x1_27 - (3 : Int32)) + (1 : Int32))))]) (rest := []) ⟨hx, hb, hml, hown, hts⟩ (c_Mo_node3 l dC dI ty ad ta H.size mo_rows mo_columns mo_marks mo_letters mo_mate mo_made mo_nodes_27 mo_sort_27 mo_from_27 mo_to_27 mo_begin mo_other_27 mo_states mo_kinds mo_nodeOf mo_steps mo_emissions mo_length mo_text mo_worked mo_values mo_hits mo_hitAt mo_hitLength mo_written mo_listState mo_listAt mo_listLength mo_stack_27 (1 : Int32) (mo_stack_27 (Int32.toNatClampNeg ((x1_27 - (3 : Int32)) + (1 : Int32)))) (mo_stack_27 (Int32.toNatClampNeg ((x1_27 - (3 : Int32)) + (1 : Int32)))) r55 w56 w57 w58 w59 hc60) z_Mo_90 ⟨⟨rfl, rfl⟩, by decide, by decide⟩ hK hP hD hN hS hA (va_recv hK hP (ci := 8) (q0 := 0) rfl rfl) rfl hl.1 rfl (Nat.le_of_ble_eq_true rfl) d_Mo_plant_154 ⟨Nat.zero_le _, Nat.zero_le _⟩) hS hD rfl hA (fun H locs hP hD hS => ?_)
                refine W.eq (g2 := F0 m 157 ls [.int r55]) rfl ?_
                refine lv_pop hx hb d_Mo_plant_157 rfl ?_
                refine lv_aload_n hx hb d_Mo_plant_158 rfl (lv_at hl 4 rfl) ?_
                refine lv_iload_n hx hb d_Mo_plant_159 rfl (lv_at hl 3 rfl) ?_
                refine lv_iconst (v := -1) hx hb d_Mo_plant_160 (by decide) ?_
                refine lv_iload_n hx hb d_Mo_plant_161 rfl (lv_at hl 1 rfl) ?_
                refine lv_iconst (v := 1) hx hb d_Mo_plant_162 (by decide) ?_
                refine lv_iadd hx hb d_Mo_plant_163 ?_
                refine lv_iload hx hb d_Mo_plant_164 (lv_at hl 0 rfl) ?_
                obtain ⟨r61, w62, hc63, hf⟩ := ob2_inv hf
                refine xk_i (xrunV (C := R_Mo) (As := [.int (x1_27 - (3 : Int32)), .int (-1 : Int32), .int ((mo_stack_27 (Int32.toNatClampNeg ((x1_27 - (3 : Int32)) + (1 : Int32)))) + (1 : Int32)), .int (mo_stack_27 (Int32.toNatClampNeg ((x1_27 - (3 : Int32)) + (2 : Int32))))]) (rest := []) ⟨hx, hb, hml, hown, hts⟩ (c_Mo_push l dC dI ty ad ta H.size mo_rows mo_columns mo_marks mo_letters mo_mate mo_made w56 w57 w58 w59 mo_begin mo_other_27 mo_states mo_kinds mo_nodeOf mo_steps mo_emissions mo_length mo_text mo_worked mo_values mo_hits mo_hitAt mo_hitLength mo_written mo_listState mo_listAt mo_listLength mo_stack_27 (x1_27 - (3 : Int32)) (-1 : Int32) ((mo_stack_27 (Int32.toNatClampNeg ((x1_27 - (3 : Int32)) + (1 : Int32)))) + (1 : Int32)) (mo_stack_27 (Int32.toNatClampNeg ((x1_27 - (3 : Int32)) + (2 : Int32)))) r61 w62 hc63) z_Mo_94 ⟨⟨rfl, rfl⟩, by decide, by decide⟩ hK hP hD hN hS hA (va_recv hK hP (ci := 8) (q0 := 0) rfl rfl) rfl hl.1 rfl (Nat.le_of_ble_eq_true rfl) d_Mo_plant_166 ⟨Nat.zero_le _, Nat.zero_le _⟩) hS hD rfl hA (fun H locs hP hD hS => ?_)
                refine W.eq (g2 := F0 m 169 ls [.int r61]) rfl ?_
                refine lv_istore_n (lv' := [(1, .int r61), (4, .int (mo_stack_27 (Int32.toNatClampNeg ((x1_27 - (3 : Int32)) + (2 : Int32))))), (3, .int (mo_stack_27 (Int32.toNatClampNeg ((x1_27 - (3 : Int32)) + (1 : Int32))))), (2, .int (mo_stack_27 (Int32.toNatClampNeg (x1_27 - (3 : Int32))))), (0, .ref (ad 0))]) hx hb d_Mo_plant_169 rfl hl (by decide) rfl (fun ls hl => ?_)
                refine lv_goto (tgt := 289) hx hb d_Mo_plant_170 (by decide) ?_
                refine lv_goto (tgt := 27) hx hb d_Mo_plant_289 (by decide) ?_
                exact ih27 r61 w56 w57 w58 w59 mo_other_27 w62 _ _ _ hP hD hS (lv_sub hl [4, 0] rfl) hf
            · have hf := xif_f c16 hf
              refine lv_aload_n hx hb d_Mo_plant_129 rfl (lv_at hl 4 rfl) ?_
              refine lv_bipush (v := 7) hx hb d_Mo_plant_130 (by decide) ?_
              refine lv_iconst (v := 0) hx hb d_Mo_plant_132 (by decide) ?_
              refine lv_iconst (v := 0) hx hb d_Mo_plant_133 (by decide) ?_
              obtain ⟨r64, w65, w66, w67, w68, hc69, hf⟩ := ob5_inv hf
              refine xk_i (xrunV (C := R_Mo) (As := [.int (7 : Int32), .int (0 : Int32), .int (0 : Int32)]) (rest := []) ⟨hx, hb, hml, hown, hts⟩ (c_Mo_node3 l dC dI ty ad ta H.size mo_rows mo_columns mo_marks mo_letters mo_mate mo_made mo_nodes_27 mo_sort_27 mo_from_27 mo_to_27 mo_begin mo_other_27 mo_states mo_kinds mo_nodeOf mo_steps mo_emissions mo_length mo_text mo_worked mo_values mo_hits mo_hitAt mo_hitLength mo_written mo_listState mo_listAt mo_listLength mo_stack_27 (7 : Int32) (0 : Int32) (0 : Int32) r64 w65 w66 w67 w68 hc69) z_Mo_90 ⟨⟨rfl, rfl⟩, by decide, by decide⟩ hK hP hD hN hS hA (va_recv hK hP (ci := 8) (q0 := 0) rfl rfl) rfl hl.1 rfl (Nat.le_of_ble_eq_true rfl) d_Mo_plant_134 ⟨Nat.zero_le _, Nat.zero_le _⟩) hS hD rfl hA (fun H locs hP hD hS => ?_)
              refine W.eq (g2 := F0 m 137 ls [.int r64]) rfl ?_
              refine lv_pop hx hb d_Mo_plant_137 rfl ?_
              refine lv_goto (tgt := 289) hx hb d_Mo_plant_138 (by decide) ?_
              refine lv_goto (tgt := 27) hx hb d_Mo_plant_289 (by decide) ?_
              exact ih27 (x1_27 - (3 : Int32)) w65 w66 w67 w68 mo_other_27 mo_stack_27 _ _ _ hP hD hS (lv_sub hl [4, 3] rfl) hf
          · have hf := xif_f c15 hf
            refine lv_aload_n hx hb d_Mo_plant_93 rfl (lv_at hl 4 rfl) ?_
            refine va_get (D := (dC, dI)) (ci := 8) (v := .ref (ad 8)) (C := R_Mo) (T := F_Mo) (N := 29) hx hb hts iw_Mo hown hK hP 0 rfl rfl 11 (by decide) (hts _ m_728) (fun _ h9 => h9) rfl d_Mo_plant_94 ?_
            refine lv_iload_n hx hb d_Mo_plant_97 rfl (lv_at hl 2 rfl) ?_
            refine lv_bipush (v := 100) hx hb d_Mo_plant_98 (by decide) ?_
            refine lv_isub hx hb d_Mo_plant_100 ?_
            refine lv_aload_n hx hb d_Mo_plant_101 rfl (lv_at hl 4 rfl) ?_
            refine lv_bipush (v := 6) hx hb d_Mo_plant_102 (by decide) ?_
            refine lv_iconst (v := 0) hx hb d_Mo_plant_104 (by decide) ?_
            refine lv_iconst (v := 0) hx hb d_Mo_plant_105 (by decide) ?_
            obtain ⟨r70, w71, w72, w73, w74, hc75, hf⟩ := ob5_inv hf
            refine xk_i (xrunV (C := R_Mo) (As := [.int (6 : Int32), .int (0 : Int32), .int (0 : Int32)]) (rest := [.int ((mo_stack_27 (Int32.toNatClampNeg (x1_27 - (3 : Int32)))) - (100 : Int32)), .ref (ad 8)]) ⟨hx, hb, hml, hown, hts⟩ (c_Mo_node3 l dC dI ty ad ta H.size mo_rows mo_columns mo_marks mo_letters mo_mate mo_made mo_nodes_27 mo_sort_27 mo_from_27 mo_to_27 mo_begin mo_other_27 mo_states mo_kinds mo_nodeOf mo_steps mo_emissions mo_length mo_text mo_worked mo_values mo_hits mo_hitAt mo_hitLength mo_written mo_listState mo_listAt mo_listLength mo_stack_27 (6 : Int32) (0 : Int32) (0 : Int32) r70 w71 w72 w73 w74 hc75) z_Mo_90 ⟨⟨rfl, rfl⟩, by decide, by decide⟩ hK hP hD hN hS hA (va_recv hK hP (ci := 8) (q0 := 0) rfl rfl) rfl hl.1 rfl (Nat.le_of_ble_eq_true rfl) d_Mo_plant_106 ⟨Nat.zero_le _, Nat.zero_le _⟩) hS hD rfl hA (fun H locs hP hD hS => ?_)
            refine W.eq (g2 := F0 m 109 ls [.int r70, .int ((mo_stack_27 (Int32.toNatClampNeg (x1_27 - (3 : Int32)))) - (100 : Int32)), .ref (ad 8)]) rfl ?_
            obtain ⟨hi76, hf⟩ := gdi hf
            refine va_iast hx hb hK hP hD hS 8 0 rfl rfl hi76 d_Mo_plant_109 (fun H locs hP hD hS => ?_)
            have hP : va_P (dC, dI) classes (wY ty ad mo_rows mo_columns mo_marks mo_letters mo_mate mo_made w71 w72 w73 w74 mo_begin (upd mo_other_27 (Int32.toNatClampNeg ((mo_stack_27 (Int32.toNatClampNeg (x1_27 - (3 : Int32)))) - (100 : Int32))) r70) mo_states mo_kinds mo_nodeOf mo_steps mo_emissions mo_length mo_text mo_worked mo_values mo_hits mo_hitAt mo_hitLength mo_written mo_listState mo_listAt mo_listLength mo_stack_27) H := hP
            have hD : va_D A (wY ty ad mo_rows mo_columns mo_marks mo_letters mo_mate mo_made w71 w72 w73 w74 mo_begin (upd mo_other_27 (Int32.toNatClampNeg ((mo_stack_27 (Int32.toNatClampNeg (x1_27 - (3 : Int32)))) - (100 : Int32))) r70) mo_states mo_kinds mo_nodeOf mo_steps mo_emissions mo_length mo_text mo_worked mo_values mo_hits mo_hitAt mo_hitLength mo_written mo_listState mo_listAt mo_listLength mo_stack_27) := hD
            refine lv_aload_n hx hb d_Mo_plant_110 rfl (lv_at hl 4 rfl) ?_
            refine lv_iload_n hx hb d_Mo_plant_111 rfl (lv_at hl 3 rfl) ?_
            refine lv_iconst (v := -1) hx hb d_Mo_plant_112 (by decide) ?_
            refine lv_iload_n hx hb d_Mo_plant_113 rfl (lv_at hl 1 rfl) ?_
            refine lv_iload hx hb d_Mo_plant_114 (lv_at hl 0 rfl) ?_
            obtain ⟨r77, w78, hc79, hf⟩ := ob2_inv hf
            refine xk_i (xrunV (C := R_Mo) (As := [.int (x1_27 - (3 : Int32)), .int (-1 : Int32), .int (mo_stack_27 (Int32.toNatClampNeg ((x1_27 - (3 : Int32)) + (1 : Int32)))), .int (mo_stack_27 (Int32.toNatClampNeg ((x1_27 - (3 : Int32)) + (2 : Int32))))]) (rest := []) ⟨hx, hb, hml, hown, hts⟩ (c_Mo_push l dC dI ty ad ta H.size mo_rows mo_columns mo_marks mo_letters mo_mate mo_made w71 w72 w73 w74 mo_begin (upd mo_other_27 (Int32.toNatClampNeg ((mo_stack_27 (Int32.toNatClampNeg (x1_27 - (3 : Int32)))) - (100 : Int32))) r70) mo_states mo_kinds mo_nodeOf mo_steps mo_emissions mo_length mo_text mo_worked mo_values mo_hits mo_hitAt mo_hitLength mo_written mo_listState mo_listAt mo_listLength mo_stack_27 (x1_27 - (3 : Int32)) (-1 : Int32) (mo_stack_27 (Int32.toNatClampNeg ((x1_27 - (3 : Int32)) + (1 : Int32)))) (mo_stack_27 (Int32.toNatClampNeg ((x1_27 - (3 : Int32)) + (2 : Int32)))) r77 w78 hc79) z_Mo_94 ⟨⟨rfl, rfl⟩, by decide, by decide⟩ hK hP hD hN hS hA (va_recv hK hP (ci := 8) (q0 := 0) rfl rfl) rfl hl.1 rfl (Nat.le_of_ble_eq_true rfl) d_Mo_plant_116 ⟨Nat.zero_le _, Nat.zero_le _⟩) hS hD rfl hA (fun H locs hP hD hS => ?_)
            refine W.eq (g2 := F0 m 119 ls [.int r77]) rfl ?_
            refine lv_istore_n (lv' := [(1, .int r77), (4, .int (mo_stack_27 (Int32.toNatClampNeg ((x1_27 - (3 : Int32)) + (2 : Int32))))), (3, .int (mo_stack_27 (Int32.toNatClampNeg ((x1_27 - (3 : Int32)) + (1 : Int32))))), (2, .int (mo_stack_27 (Int32.toNatClampNeg (x1_27 - (3 : Int32))))), (0, .ref (ad 0))]) hx hb d_Mo_plant_119 rfl hl (by decide) rfl (fun ls hl => ?_)
            refine lv_goto (tgt := 289) hx hb d_Mo_plant_120 (by decide) ?_
            refine lv_goto (tgt := 27) hx hb d_Mo_plant_289 (by decide) ?_
            exact ih27 r77 w71 w72 w73 w74 (upd mo_other_27 (Int32.toNatClampNeg ((mo_stack_27 (Int32.toNatClampNeg (x1_27 - (3 : Int32)))) - (100 : Int32))) r70) w78 _ _ _ hP hD hS (lv_sub hl [4, 0] rfl) hf
        · have hf := xif_t c14 hf
          refine lv_aload_n hx hb d_Mo_plant_66 rfl (lv_at hl 4 rfl) ?_
          refine lv_iconst (v := 5) hx hb d_Mo_plant_67 (by decide) ?_
          refine lv_iconst (v := 0) hx hb d_Mo_plant_68 (by decide) ?_
          refine lv_iconst (v := 0) hx hb d_Mo_plant_69 (by decide) ?_
          obtain ⟨r80, w81, w82, w83, w84, hc85, hf⟩ := ob5_inv hf
          refine xk_i (xrunV (C := R_Mo) (As := [.int (5 : Int32), .int (0 : Int32), .int (0 : Int32)]) (rest := []) ⟨hx, hb, hml, hown, hts⟩ (c_Mo_node3 l dC dI ty ad ta H.size mo_rows mo_columns mo_marks mo_letters mo_mate mo_made mo_nodes_27 mo_sort_27 mo_from_27 mo_to_27 mo_begin mo_other_27 mo_states mo_kinds mo_nodeOf mo_steps mo_emissions mo_length mo_text mo_worked mo_values mo_hits mo_hitAt mo_hitLength mo_written mo_listState mo_listAt mo_listLength mo_stack_27 (5 : Int32) (0 : Int32) (0 : Int32) r80 w81 w82 w83 w84 hc85) z_Mo_90 ⟨⟨rfl, rfl⟩, by decide, by decide⟩ hK hP hD hN hS hA (va_recv hK hP (ci := 8) (q0 := 0) rfl rfl) rfl hl.1 rfl (Nat.le_of_ble_eq_true rfl) d_Mo_plant_70 ⟨Nat.zero_le _, Nat.zero_le _⟩) hS hD rfl hA (fun H locs hP hD hS => ?_)
          refine W.eq (g2 := F0 m 73 ls [.int r80]) rfl ?_
          refine lv_pop hx hb d_Mo_plant_73 rfl ?_
          refine lv_aload_n hx hb d_Mo_plant_74 rfl (lv_at hl 4 rfl) ?_
          refine lv_iload_n hx hb d_Mo_plant_75 rfl (lv_at hl 3 rfl) ?_
          refine lv_iconst (v := -1) hx hb d_Mo_plant_76 (by decide) ?_
          refine lv_iload_n hx hb d_Mo_plant_77 rfl (lv_at hl 1 rfl) ?_
          refine lv_iload hx hb d_Mo_plant_78 (lv_at hl 0 rfl) ?_
          obtain ⟨r86, w87, hc88, hf⟩ := ob2_inv hf
          refine xk_i (xrunV (C := R_Mo) (As := [.int (x1_27 - (3 : Int32)), .int (-1 : Int32), .int (mo_stack_27 (Int32.toNatClampNeg ((x1_27 - (3 : Int32)) + (1 : Int32)))), .int (mo_stack_27 (Int32.toNatClampNeg ((x1_27 - (3 : Int32)) + (2 : Int32))))]) (rest := []) ⟨hx, hb, hml, hown, hts⟩ (c_Mo_push l dC dI ty ad ta H.size mo_rows mo_columns mo_marks mo_letters mo_mate mo_made w81 w82 w83 w84 mo_begin mo_other_27 mo_states mo_kinds mo_nodeOf mo_steps mo_emissions mo_length mo_text mo_worked mo_values mo_hits mo_hitAt mo_hitLength mo_written mo_listState mo_listAt mo_listLength mo_stack_27 (x1_27 - (3 : Int32)) (-1 : Int32) (mo_stack_27 (Int32.toNatClampNeg ((x1_27 - (3 : Int32)) + (1 : Int32)))) (mo_stack_27 (Int32.toNatClampNeg ((x1_27 - (3 : Int32)) + (2 : Int32)))) r86 w87 hc88) z_Mo_94 ⟨⟨rfl, rfl⟩, by decide, by decide⟩ hK hP hD hN hS hA (va_recv hK hP (ci := 8) (q0 := 0) rfl rfl) rfl hl.1 rfl (Nat.le_of_ble_eq_true rfl) d_Mo_plant_80 ⟨Nat.zero_le _, Nat.zero_le _⟩) hS hD rfl hA (fun H locs hP hD hS => ?_)
          refine W.eq (g2 := F0 m 83 ls [.int r86]) rfl ?_
          refine lv_istore_n (lv' := [(1, .int r86), (4, .int (mo_stack_27 (Int32.toNatClampNeg ((x1_27 - (3 : Int32)) + (2 : Int32))))), (3, .int (mo_stack_27 (Int32.toNatClampNeg ((x1_27 - (3 : Int32)) + (1 : Int32))))), (2, .int (mo_stack_27 (Int32.toNatClampNeg (x1_27 - (3 : Int32))))), (0, .ref (ad 0))]) hx hb d_Mo_plant_83 rfl hl (by decide) rfl (fun ls hl => ?_)
          refine lv_goto (tgt := 289) hx hb d_Mo_plant_84 (by decide) ?_
          refine lv_goto (tgt := 27) hx hb d_Mo_plant_289 (by decide) ?_
          exact ih27 r86 w81 w82 w83 w84 mo_other_27 w87 _ _ _ hP hD hS (lv_sub hl [4, 0] rfl) hf
  exact L27 1000 r7 w2 w3 w4 w5 mo_other w8 _ _ _ hP hD hS (lv_sub hl [1, 0] rfl) hf
def f_Mo_state (mo_states : Int32) (mo_kinds : (Nat → Int32)) (mo_nodeOf : (Nat → Int32)) (a1 : Int32) (a2 : Int32) : Option (Int32 × (Nat → Int32) × (Nat → Int32)) := gd (xin mo_states 48) (gd (xin mo_states 48) (some ((mo_states + (1 : Int32)), (upd mo_kinds (Int32.toNatClampNeg mo_states) a2), (upd mo_nodeOf (Int32.toNatClampNeg mo_states) a1))))
set_option maxHeartbeats 4000000 in
set_option maxRecDepth 100000 in
theorem c_Mo_state (l : Launch) (dC : Nat → ClassId) (dI : Nat → Nat → Nat) (ty : Nat → ClassId) (ad : Nat → Nat) (ta : Nat → Nat) (sz : Nat) (mo_rows : Int32) (mo_columns : Int32) (mo_marks : (Nat → Int32)) (mo_letters : (Nat → Int32)) (mo_mate : (Nat → Int32)) (mo_made : Int32) (mo_nodes : Int32) (mo_sort : (Nat → Int32)) (mo_from : (Nat → Int32)) (mo_to : (Nat → Int32)) (mo_begin : (Nat → Int32)) (mo_other : (Nat → Int32)) (mo_states : Int32) (mo_kinds : (Nat → Int32)) (mo_nodeOf : (Nat → Int32)) (mo_steps : (Nat → Int32)) (mo_emissions : (Nat → Int32)) (mo_length : Int32) (mo_text : (Nat → Int32)) (mo_worked : Int32) (mo_values : (Nat → Int32)) (mo_hits : Int32) (mo_hitAt : (Nat → Int32)) (mo_hitLength : (Nat → Int32)) (mo_written : Int32) (mo_listState : (Nat → Int32)) (mo_listAt : (Nat → Int32)) (mo_listLength : (Nat → Int32)) (mo_stack : (Nat → Int32)) (a1 : Int32) (a2 : Int32) (n_mo_states : Int32) (n_mo_kinds : (Nat → Int32)) (n_mo_nodeOf : (Nat → Int32)) (hf : f_Mo_state mo_states mo_kinds mo_nodeOf a1 a2 = some (n_mo_states, n_mo_kinds, n_mo_nodeOf)) : Met l y_Mo_state (.code y_Mo_state prog_10_method_9_code 3 none :: gw) rm_Mo_state (xPre ta (dC, dI) classes (tys3 ty) (wY ty ad mo_rows mo_columns mo_marks mo_letters mo_mate mo_made mo_nodes mo_sort mo_from mo_to mo_begin mo_other mo_states mo_kinds mo_nodeOf mo_steps mo_emissions mo_length mo_text mo_worked mo_values mo_hits mo_hitAt mo_hitLength mo_written mo_listState mo_listAt mo_listLength mo_stack) sz [.ref (ad 0), .int a1, .int a2]) (xQv (dC, dI) classes (wY ty ad mo_rows mo_columns mo_marks mo_letters mo_mate mo_made mo_nodes mo_sort mo_from mo_to mo_begin mo_other mo_states mo_kinds mo_nodeOf mo_steps mo_emissions mo_length mo_text mo_worked mo_values mo_hits mo_hitAt mo_hitLength mo_written mo_listState mo_listAt mo_listLength mo_stack) (wY ty ad mo_rows mo_columns mo_marks mo_letters mo_mate mo_made mo_nodes mo_sort mo_from mo_to mo_begin mo_other n_mo_states n_mo_kinds n_mo_nodeOf mo_steps mo_emissions mo_length mo_text mo_worked mo_values mo_hits mo_hitAt mo_hitLength mo_written mo_listState mo_listAt mo_listLength mo_stack) sz) 0 0 (va_A (wY ty ad mo_rows mo_columns mo_marks mo_letters mo_mate mo_made mo_nodes mo_sort mo_from mo_to mo_begin mo_other mo_states mo_kinds mo_nodeOf mo_steps mo_emissions mo_length mo_text mo_worked mo_values mo_hits mo_hitAt mo_hitLength mo_written mo_listState mo_listAt mo_listLength mo_stack) sz) := by
  refine xmet_v rfl (Nat.le_of_ble_eq_true rfl) ?_
  intro p e s m below meth c A ls Q hx hb hml hts hown hK hN hA hP hD hS hl hret
  replace hown : s.vm.findClass R_Mo = some m.cls := hown
  have hl : lv_has ls 3 [(0, .ref (ad 0)), (1, .int a1), (2, .int a2)] := hl
  rw [f_Mo_state] at hf
  obtain ⟨H, eH⟩ : ∃ H : Heap, H = s.heap := ⟨_, rfl⟩
  obtain ⟨locs, eL⟩ : ∃ L : List Loc, L = [] := ⟨_, rfl⟩
  have hP : va_P (dC, dI) classes (wY ty ad mo_rows mo_columns mo_marks mo_letters mo_mate mo_made mo_nodes mo_sort mo_from mo_to mo_begin mo_other mo_states mo_kinds mo_nodeOf mo_steps mo_emissions mo_length mo_text mo_worked mo_values mo_hits mo_hitAt mo_hitLength mo_written mo_listState mo_listAt mo_listLength mo_stack) H := by rw [eH]; exact hP
  have hS : va_S A s.heap H locs := by rw [eH, eL]; exact hS
  rw [← eL]
  suffices hgoal : W p l e rm_Mo_state s m (List.toArray [.ref (ad 0), .int a1, .int a2]) below meth c H locs 0 0 Q (F0 m 0 ls []) by rw [eH] at hgoal; exact hgoal
  clear eH eL
  refine lv_aload_n hx hb d_Mo_state_0 rfl (lv_at hl 0 rfl) ?_
  refine va_get (D := (dC, dI)) (ci := 8) (v := .ref (ad 9)) (C := R_Mo) (T := F_Mo) (N := 29) hx hb hts iw_Mo hown hK hP 0 rfl rfl 13 (by decide) (hts _ m_730) (fun _ h9 => h9) rfl d_Mo_state_1 ?_
  refine lv_aload_n hx hb d_Mo_state_4 rfl (lv_at hl 0 rfl) ?_
  refine va_get (D := (dC, dI)) (ci := 8) (v := .int mo_states) (C := R_Mo) (T := F_Mo) (N := 29) hx hb hts iw_Mo hown hK hP 0 rfl rfl 12 (by decide) (hts _ m_729) (fun _ h9 => h9) rfl d_Mo_state_5 ?_
  refine lv_iload_n hx hb d_Mo_state_8 rfl (lv_at hl 2 rfl) ?_
  obtain ⟨hi1, hf⟩ := gdi hf
  refine va_iast hx hb hK hP hD hS 9 0 rfl rfl hi1 d_Mo_state_9 (fun H locs hP hD hS => ?_)
  have hP : va_P (dC, dI) classes (wY ty ad mo_rows mo_columns mo_marks mo_letters mo_mate mo_made mo_nodes mo_sort mo_from mo_to mo_begin mo_other mo_states (upd mo_kinds (Int32.toNatClampNeg mo_states) a2) mo_nodeOf mo_steps mo_emissions mo_length mo_text mo_worked mo_values mo_hits mo_hitAt mo_hitLength mo_written mo_listState mo_listAt mo_listLength mo_stack) H := hP
  have hD : va_D A (wY ty ad mo_rows mo_columns mo_marks mo_letters mo_mate mo_made mo_nodes mo_sort mo_from mo_to mo_begin mo_other mo_states (upd mo_kinds (Int32.toNatClampNeg mo_states) a2) mo_nodeOf mo_steps mo_emissions mo_length mo_text mo_worked mo_values mo_hits mo_hitAt mo_hitLength mo_written mo_listState mo_listAt mo_listLength mo_stack) := hD
  refine lv_aload_n hx hb d_Mo_state_10 rfl (lv_at hl 0 rfl) ?_
  refine va_get (D := (dC, dI)) (ci := 8) (v := .ref (ad 10)) (C := R_Mo) (T := F_Mo) (N := 29) hx hb hts iw_Mo hown hK hP 0 rfl rfl 14 (by decide) (hts _ m_731) (fun _ h9 => h9) rfl d_Mo_state_11 ?_
  refine lv_aload_n hx hb d_Mo_state_14 rfl (lv_at hl 0 rfl) ?_
  refine va_get (D := (dC, dI)) (ci := 8) (v := .int mo_states) (C := R_Mo) (T := F_Mo) (N := 29) hx hb hts iw_Mo hown hK hP 0 rfl rfl 12 (by decide) (hts _ m_729) (fun _ h9 => h9) rfl d_Mo_state_15 ?_
  refine lv_iload_n hx hb d_Mo_state_18 rfl (lv_at hl 1 rfl) ?_
  obtain ⟨hi2, hf⟩ := gdi hf
  refine va_iast hx hb hK hP hD hS 10 0 rfl rfl hi2 d_Mo_state_19 (fun H locs hP hD hS => ?_)
  have hP : va_P (dC, dI) classes (wY ty ad mo_rows mo_columns mo_marks mo_letters mo_mate mo_made mo_nodes mo_sort mo_from mo_to mo_begin mo_other mo_states (upd mo_kinds (Int32.toNatClampNeg mo_states) a2) (upd mo_nodeOf (Int32.toNatClampNeg mo_states) a1) mo_steps mo_emissions mo_length mo_text mo_worked mo_values mo_hits mo_hitAt mo_hitLength mo_written mo_listState mo_listAt mo_listLength mo_stack) H := hP
  have hD : va_D A (wY ty ad mo_rows mo_columns mo_marks mo_letters mo_mate mo_made mo_nodes mo_sort mo_from mo_to mo_begin mo_other mo_states (upd mo_kinds (Int32.toNatClampNeg mo_states) a2) (upd mo_nodeOf (Int32.toNatClampNeg mo_states) a1) mo_steps mo_emissions mo_length mo_text mo_worked mo_values mo_hits mo_hitAt mo_hitLength mo_written mo_listState mo_listAt mo_listLength mo_stack) := hD
  refine lv_aload_n hx hb d_Mo_state_20 rfl (lv_at hl 0 rfl) ?_
  refine lv_aload_n hx hb d_Mo_state_21 rfl (lv_at hl 0 rfl) ?_
  refine va_get (D := (dC, dI)) (ci := 8) (v := .int mo_states) (C := R_Mo) (T := F_Mo) (N := 29) hx hb hts iw_Mo hown hK hP 0 rfl rfl 12 (by decide) (hts _ m_729) (fun _ h9 => h9) rfl d_Mo_state_22 ?_
  refine lv_iconst (v := 1) hx hb d_Mo_state_25 (by decide) ?_
  refine lv_iadd hx hb d_Mo_state_26 ?_
  refine va_put (D := (dC, dI)) (ci := 8) (v := .int (mo_states + (1 : Int32))) (ty := .int) (C := R_Mo) (T := F_Mo) (N := 29) hx hb hts iw_Mo t_Mo t_Mo_ok n_Mo hown hK hP hD hS 0 rfl rfl 12 (by decide) (hts _ m_729) (fun _ h9 => h9) rfl (by decide +kernel) rfl rfl (Nat.le_of_ble_eq_true rfl) d_Mo_state_27 (fun H locs hP hD hS => ?_)
  have hP : va_P (dC, dI) classes (wY ty ad mo_rows mo_columns mo_marks mo_letters mo_mate mo_made mo_nodes mo_sort mo_from mo_to mo_begin mo_other (mo_states + (1 : Int32)) (upd mo_kinds (Int32.toNatClampNeg mo_states) a2) (upd mo_nodeOf (Int32.toNatClampNeg mo_states) a1) mo_steps mo_emissions mo_length mo_text mo_worked mo_values mo_hits mo_hitAt mo_hitLength mo_written mo_listState mo_listAt mo_listLength mo_stack) H := hP
  have hD : va_D A (wY ty ad mo_rows mo_columns mo_marks mo_letters mo_mate mo_made mo_nodes mo_sort mo_from mo_to mo_begin mo_other (mo_states + (1 : Int32)) (upd mo_kinds (Int32.toNatClampNeg mo_states) a2) (upd mo_nodeOf (Int32.toNatClampNeg mo_states) a1) mo_steps mo_emissions mo_length mo_text mo_worked mo_values mo_hits mo_hitAt mo_hitLength mo_written mo_listState mo_listAt mo_listLength mo_stack) := hD
  obtain ⟨rfl, rfl, rfl⟩ := os3 hf
  exact hret H locs _ _ d_Mo_state_30 hP hS
