/-! pure functions and contracts of Mo_scoreSteps, Mo_scoreLetters (written by wip/gen) -/
def f_Mo_scoreSteps_J69 (mo_rows : Int32) (mo_letters : (Nat → Int32)) (mo_sort : (Nat → Int32)) (mo_from : (Nat → Int32)) (mo_to : (Nat → Int32)) (mo_kinds : (Nat → Int32)) (mo_nodeOf : (Nat → Int32)) (a1 : Int32) (x2_2 : Int32) (x3_20 : Int32) (mo_steps_20 : (Nat → Int32)) (rec20 : (Int32 → (Nat → Int32) → Option ((Nat → Int32)))) (t0_69 : Int32) : Option ((Nat → Int32)) := gd (xin a1 48) (if (mo_kinds (Int32.toNatClampNeg a1)) = (7 : Int32) then (gd (xin (((8 : Int32) * a1) + x3_20) 384) (rec20 (x3_20 + (1 : Int32)) (upd mo_steps_20 (Int32.toNatClampNeg (((8 : Int32) * a1) + x3_20)) (0 : Int32)))) else (ob1 (f_Mo_rowsIn mo_rows mo_letters mo_sort mo_from mo_to mo_kinds mo_nodeOf a1) (fun r12 => ob1 (f_Mo_log (t0_69 + (1 : Int32)) (r12 + x2_2)) (fun r14 => gd (xin (((8 : Int32) * a1) + x3_20) 384) (rec20 (x3_20 + (1 : Int32)) (upd mo_steps_20 (Int32.toNatClampNeg (((8 : Int32) * a1) + x3_20)) r14))))))
def f_Mo_scoreSteps_J58 (mo_rows : Int32) (mo_letters : (Nat → Int32)) (mo_sort : (Nat → Int32)) (mo_from : (Nat → Int32)) (mo_to : (Nat → Int32)) (mo_kinds : (Nat → Int32)) (mo_nodeOf : (Nat → Int32)) (a1 : Int32) (x2_2 : Int32) (x3_20 : Int32) (mo_steps_20 : (Nat → Int32)) (rec20 : (Int32 → (Nat → Int32) → Option ((Nat → Int32))))  : Option ((Nat → Int32)) := f_Mo_scoreSteps_J69 mo_rows mo_letters mo_sort mo_from mo_to mo_kinds mo_nodeOf a1 x2_2 x3_20 mo_steps_20 rec20 (0 : Int32)
def f_Mo_scoreSteps_K20_117  (x3_20 : Int32) (mo_steps_20 : (Nat → Int32)) : Option ((Nat → Int32)) := some (mo_steps_20)
def f_Mo_scoreSteps_L20 (mo_rows : Int32) (mo_letters : (Nat → Int32)) (mo_sort : (Nat → Int32)) (mo_from : (Nat → Int32)) (mo_to : (Nat → Int32)) (mo_begin : (Nat → Int32)) (mo_other : (Nat → Int32)) (mo_kinds : (Nat → Int32)) (mo_nodeOf : (Nat → Int32)) (a1 : Int32) (x2_2 : Int32) (k20_117 : (Int32 → (Nat → Int32) → Option ((Nat → Int32)))) : Nat → Int32 → (Nat → Int32) → Option ((Nat → Int32))
  | 0, _, _ => none
  | n20 + 1, x3_20, mo_steps_20 => if x2_2 ≤ x3_20 then (k20_117 x3_20 mo_steps_20) else (ob1 (f_Mo_targetOf mo_begin mo_other mo_kinds mo_nodeOf a1 x3_20) (fun r5 => gd (xin a1 48) (ob1 (f_Mo_inserts (mo_kinds (Int32.toNatClampNeg a1))) (fun r8 => if r8 = (0 : Int32) then (gd (xin r5 48) (ob1 (f_Mo_inserts (mo_kinds (Int32.toNatClampNeg r5))) (fun r20 => if r20 = (0 : Int32) then (ob1 (f_Mo_rowsFrom mo_rows mo_letters mo_sort mo_from mo_to mo_kinds mo_nodeOf a1 r5) (fun r23 => f_Mo_scoreSteps_J69 mo_rows mo_letters mo_sort mo_from mo_to mo_kinds mo_nodeOf a1 x2_2 x3_20 mo_steps_20 (f_Mo_scoreSteps_L20 mo_rows mo_letters mo_sort mo_from mo_to mo_begin mo_other mo_kinds mo_nodeOf a1 x2_2 k20_117 n20) r23)) else (f_Mo_scoreSteps_J58 mo_rows mo_letters mo_sort mo_from mo_to mo_kinds mo_nodeOf a1 x2_2 x3_20 mo_steps_20 (f_Mo_scoreSteps_L20 mo_rows mo_letters mo_sort mo_from mo_to mo_begin mo_other mo_kinds mo_nodeOf a1 x2_2 k20_117 n20))))) else (f_Mo_scoreSteps_J58 mo_rows mo_letters mo_sort mo_from mo_to mo_kinds mo_nodeOf a1 x2_2 x3_20 mo_steps_20 (f_Mo_scoreSteps_L20 mo_rows mo_letters mo_sort mo_from mo_to mo_begin mo_other mo_kinds mo_nodeOf a1 x2_2 k20_117 n20))))))
def f_Mo_scoreSteps_K2_18 (mo_rows : Int32) (mo_letters : (Nat → Int32)) (mo_sort : (Nat → Int32)) (mo_from : (Nat → Int32)) (mo_to : (Nat → Int32)) (mo_begin : (Nat → Int32)) (mo_other : (Nat → Int32)) (mo_kinds : (Nat → Int32)) (mo_nodeOf : (Nat → Int32)) (mo_steps : (Nat → Int32)) (a1 : Int32) (x2_2 : Int32) : Option ((Nat → Int32)) := f_Mo_scoreSteps_L20 mo_rows mo_letters mo_sort mo_from mo_to mo_begin mo_other mo_kinds mo_nodeOf a1 x2_2 (f_Mo_scoreSteps_K20_117) 1000 (0 : Int32) mo_steps
def f_Mo_scoreSteps_L2 (mo_begin : (Nat → Int32)) (mo_other : (Nat → Int32)) (mo_kinds : (Nat → Int32)) (mo_nodeOf : (Nat → Int32)) (a1 : Int32) (k2_18 : (Int32 → Option ((Nat → Int32)))) : Nat → Int32 → Option ((Nat → Int32))
  | 0, _ => none
  | n2 + 1, x2_2 => ob1 (f_Mo_targetOf mo_begin mo_other mo_kinds mo_nodeOf a1 x2_2) (fun r1 => if r1 < (0 : Int32) then (k2_18 x2_2) else ((f_Mo_scoreSteps_L2 mo_begin mo_other mo_kinds mo_nodeOf a1 k2_18 n2) (x2_2 + (1 : Int32))))
def f_Mo_scoreSteps (mo_rows : Int32) (mo_letters : (Nat → Int32)) (mo_sort : (Nat → Int32)) (mo_from : (Nat → Int32)) (mo_to : (Nat → Int32)) (mo_begin : (Nat → Int32)) (mo_other : (Nat → Int32)) (mo_kinds : (Nat → Int32)) (mo_nodeOf : (Nat → Int32)) (mo_steps : (Nat → Int32)) (a1 : Int32) : Option ((Nat → Int32)) := f_Mo_scoreSteps_L2 mo_begin mo_other mo_kinds mo_nodeOf a1 (f_Mo_scoreSteps_K2_18 mo_rows mo_letters mo_sort mo_from mo_to mo_begin mo_other mo_kinds mo_nodeOf mo_steps a1) 1000 (0 : Int32)
set_option maxHeartbeats 4000000 in
set_option maxRecDepth 100000 in
theorem c_Mo_scoreSteps (l : Launch) (dC : Nat → ClassId) (dI : Nat → Nat → Nat) (ty : Nat → ClassId) (ad : Nat → Nat) (ta : Nat → Nat) (sz : Nat) (mo_rows : Int32) (mo_columns : Int32) (mo_marks : (Nat → Int32)) (mo_letters : (Nat → Int32)) (mo_mate : (Nat → Int32)) (mo_made : Int32) (mo_nodes : Int32) (mo_sort : (Nat → Int32)) (mo_from : (Nat → Int32)) (mo_to : (Nat → Int32)) (mo_begin : (Nat → Int32)) (mo_other : (Nat → Int32)) (mo_states : Int32) (mo_kinds : (Nat → Int32)) (mo_nodeOf : (Nat → Int32)) (mo_steps : (Nat → Int32)) (mo_emissions : (Nat → Int32)) (mo_length : Int32) (mo_text : (Nat → Int32)) (mo_worked : Int32) (mo_values : (Nat → Int32)) (mo_hits : Int32) (mo_hitAt : (Nat → Int32)) (mo_hitLength : (Nat → Int32)) (mo_written : Int32) (mo_listState : (Nat → Int32)) (mo_listAt : (Nat → Int32)) (mo_listLength : (Nat → Int32)) (mo_stack : (Nat → Int32)) (a1 : Int32) (n_mo_steps : (Nat → Int32)) (hf : f_Mo_scoreSteps mo_rows mo_letters mo_sort mo_from mo_to mo_begin mo_other mo_kinds mo_nodeOf mo_steps a1 = some (n_mo_steps)) : Met l y_Mo_scoreSteps (.code y_Mo_scoreSteps prog_10_method_18_code 6 none :: gw) rm_Mo_scoreSteps (xPre ta (dC, dI) classes (tys3 ty) (wY ty ad mo_rows mo_columns mo_marks mo_letters mo_mate mo_made mo_nodes mo_sort mo_from mo_to mo_begin mo_other mo_states mo_kinds mo_nodeOf mo_steps mo_emissions mo_length mo_text mo_worked mo_values mo_hits mo_hitAt mo_hitLength mo_written mo_listState mo_listAt mo_listLength mo_stack) sz [.ref (ad 0), .int a1]) (xQv (dC, dI) classes (wY ty ad mo_rows mo_columns mo_marks mo_letters mo_mate mo_made mo_nodes mo_sort mo_from mo_to mo_begin mo_other mo_states mo_kinds mo_nodeOf mo_steps mo_emissions mo_length mo_text mo_worked mo_values mo_hits mo_hitAt mo_hitLength mo_written mo_listState mo_listAt mo_listLength mo_stack) (wY ty ad mo_rows mo_columns mo_marks mo_letters mo_mate mo_made mo_nodes mo_sort mo_from mo_to mo_begin mo_other mo_states mo_kinds mo_nodeOf n_mo_steps mo_emissions mo_length mo_text mo_worked mo_values mo_hits mo_hitAt mo_hitLength mo_written mo_listState mo_listAt mo_listLength mo_stack) sz) 0 0 (va_A (wY ty ad mo_rows mo_columns mo_marks mo_letters mo_mate mo_made mo_nodes mo_sort mo_from mo_to mo_begin mo_other mo_states mo_kinds mo_nodeOf mo_steps mo_emissions mo_length mo_text mo_worked mo_values mo_hits mo_hitAt mo_hitLength mo_written mo_listState mo_listAt mo_listLength mo_stack) sz) := by
  refine xmet_v rfl (Nat.le_of_ble_eq_true rfl) ?_
  intro p e s m below meth c A ls Q hx hb hml hts hown hK hN hA hP hD hS hl hret
  replace hown : s.vm.findClass R_Mo = some m.cls := hown
  have hl : lv_has ls 6 [(0, .ref (ad 0)), (1, .int a1)] := hl
  rw [f_Mo_scoreSteps] at hf
  obtain ⟨H, eH⟩ : ∃ H : Heap, H = s.heap := ⟨_, rfl⟩
  obtain ⟨locs, eL⟩ : ∃ L : List Loc, L = [] := ⟨_, rfl⟩
  have hP : va_P (dC, dI) classes (wY ty ad mo_rows mo_columns mo_marks mo_letters mo_mate mo_made mo_nodes mo_sort mo_from mo_to mo_begin mo_other mo_states mo_kinds mo_nodeOf mo_steps mo_emissions mo_length mo_text mo_worked mo_values mo_hits mo_hitAt mo_hitLength mo_written mo_listState mo_listAt mo_listLength mo_stack) H := by rw [eH]; exact hP
  have hS : va_S A s.heap H locs := by rw [eH, eL]; exact hS
  rw [← eL]
  suffices hgoal : W p l e rm_Mo_scoreSteps s m (List.toArray [.ref (ad 0), .int a1]) below meth c H locs 0 0 Q (F0 m 0 ls []) by rw [eH] at hgoal; exact hgoal
  clear eH eL
  refine lv_iconst (v := 0) hx hb d_Mo_scoreSteps_0 (by decide) ?_
  refine lv_istore_n (lv' := [(2, .int (0 : Int32)), (0, .ref (ad 0)), (1, .int a1)]) hx hb d_Mo_scoreSteps_1 rfl hl (by decide) rfl (fun ls hl => ?_)
  have K2_18 : ∀ (x2_2 : Int32) (H : Heap) (locs : List Loc) (ls : Array Slot), va_P (dC, dI) classes (wY ty ad mo_rows mo_columns mo_marks mo_letters mo_mate mo_made mo_nodes mo_sort mo_from mo_to mo_begin mo_other mo_states mo_kinds mo_nodeOf mo_steps mo_emissions mo_length mo_text mo_worked mo_values mo_hits mo_hitAt mo_hitLength mo_written mo_listState mo_listAt mo_listLength mo_stack) H → va_D A (wY ty ad mo_rows mo_columns mo_marks mo_letters mo_mate mo_made mo_nodes mo_sort mo_from mo_to mo_begin mo_other mo_states mo_kinds mo_nodeOf mo_steps mo_emissions mo_length mo_text mo_worked mo_values mo_hits mo_hitAt mo_hitLength mo_written mo_listState mo_listAt mo_listLength mo_stack) → va_S A s.heap H locs → lv_has ls 6 [(0, .ref (ad 0)), (1, .int a1), (2, .int x2_2)] → f_Mo_scoreSteps_K2_18 mo_rows mo_letters mo_sort mo_from mo_to mo_begin mo_other mo_kinds mo_nodeOf mo_steps a1 x2_2 = some (n_mo_steps) → W p l e rm_Mo_scoreSteps s m (List.toArray [.ref (ad 0), .int a1]) below meth c H locs 0 0 Q (F0 m 18 ls []) := by
    intro x2_2 H locs ls hP hD hS hl hf
    rw [f_Mo_scoreSteps_K2_18] at hf
    refine lv_iconst (v := 0) hx hb d_Mo_scoreSteps_18 (by decide) ?_
    refine lv_istore_n (lv' := [(3, .int (0 : Int32)), (0, .ref (ad 0)), (1, .int a1), (2, .int x2_2)]) hx hb d_Mo_scoreSteps_19 rfl hl (by decide) rfl (fun ls hl => ?_)
    have K20_117 : ∀ (x3_20 : Int32) (mo_steps_20 : (Nat → Int32)) (H : Heap) (locs : List Loc) (ls : Array Slot), va_P (dC, dI) classes (wY ty ad mo_rows mo_columns mo_marks mo_letters mo_mate mo_made mo_nodes mo_sort mo_from mo_to mo_begin mo_other mo_states mo_kinds mo_nodeOf mo_steps_20 mo_emissions mo_length mo_text mo_worked mo_values mo_hits mo_hitAt mo_hitLength mo_written mo_listState mo_listAt mo_listLength mo_stack) H → va_D A (wY ty ad mo_rows mo_columns mo_marks mo_letters mo_mate mo_made mo_nodes mo_sort mo_from mo_to mo_begin mo_other mo_states mo_kinds mo_nodeOf mo_steps_20 mo_emissions mo_length mo_text mo_worked mo_values mo_hits mo_hitAt mo_hitLength mo_written mo_listState mo_listAt mo_listLength mo_stack) → va_S A s.heap H locs → lv_has ls 6 [] → f_Mo_scoreSteps_K20_117 x3_20 mo_steps_20 = some (n_mo_steps) → W p l e rm_Mo_scoreSteps s m (List.toArray [.ref (ad 0), .int a1]) below meth c H locs 0 0 Q (F0 m 117 ls []) := by
      intro x3_20 mo_steps_20 H locs ls hP hD hS hl hf
      rw [f_Mo_scoreSteps_K20_117] at hf
      obtain rfl := os1 hf
      exact hret H locs _ _ d_Mo_scoreSteps_117 hP hS
    have L20 : ∀ (n20 : Nat), ∀ (x3_20 : Int32) (mo_steps_20 : (Nat → Int32)) (H : Heap) (locs : List Loc) (ls : Array Slot), va_P (dC, dI) classes (wY ty ad mo_rows mo_columns mo_marks mo_letters mo_mate mo_made mo_nodes mo_sort mo_from mo_to mo_begin mo_other mo_states mo_kinds mo_nodeOf mo_steps_20 mo_emissions mo_length mo_text mo_worked mo_values mo_hits mo_hitAt mo_hitLength mo_written mo_listState mo_listAt mo_listLength mo_stack) H → va_D A (wY ty ad mo_rows mo_columns mo_marks mo_letters mo_mate mo_made mo_nodes mo_sort mo_from mo_to mo_begin mo_other mo_states mo_kinds mo_nodeOf mo_steps_20 mo_emissions mo_length mo_text mo_worked mo_values mo_hits mo_hitAt mo_hitLength mo_written mo_listState mo_listAt mo_listLength mo_stack) → va_S A s.heap H locs → lv_has ls 6 [(0, .ref (ad 0)), (1, .int a1), (2, .int x2_2), (3, .int x3_20)] → f_Mo_scoreSteps_L20 mo_rows mo_letters mo_sort mo_from mo_to mo_begin mo_other mo_kinds mo_nodeOf a1 x2_2 (f_Mo_scoreSteps_K20_117) n20 x3_20 mo_steps_20 = some (n_mo_steps) → W p l e rm_Mo_scoreSteps s m (List.toArray [.ref (ad 0), .int a1]) below meth c H locs 0 0 Q (F0 m 20 ls []) := by
      intro n20
      induction n20 with
      | zero =>
        intro x3_20 mo_steps_20 H locs ls hP hD hS hl hf
        rw [f_Mo_scoreSteps_L20] at hf
        cases hf
      | succ n20 ih20 =>
        intro x3_20 mo_steps_20 H locs ls hP hD hS hl hf
        rw [f_Mo_scoreSteps_L20] at hf
        refine lv_iload_n hx hb d_Mo_scoreSteps_20 rfl (lv_at hl 3 rfl) ?_
        refine lv_iload_n hx hb d_Mo_scoreSteps_21 rfl (lv_at hl 2 rfl) ?_
        refine lv_icmp_ge (tgt := 117) hx hb d_Mo_scoreSteps_22 (by decide) (fun c4 => ?_) (fun c4 => ?_)
        · have hf := xif_t c4 hf
          exact K20_117 x3_20 mo_steps_20 _ _ _ hP hD hS (lv_sub hl [] rfl) hf
        · have hf := xif_f c4 hf
          refine lv_aload_n hx hb d_Mo_scoreSteps_25 rfl (lv_at hl 0 rfl) ?_
          refine lv_iload_n hx hb d_Mo_scoreSteps_26 rfl (lv_at hl 1 rfl) ?_
          refine lv_iload_n hx hb d_Mo_scoreSteps_27 rfl (lv_at hl 3 rfl) ?_
          obtain ⟨r5, hc6, hf⟩ := ob1_inv hf
          refine xk_i (xrunV (C := R_Mo) (As := [.int a1, .int x3_20]) (rest := []) ⟨hx, hb, hml, hown, hts⟩ (c_Mo_targetOf l dC dI ty ad ta H.size mo_rows mo_columns mo_marks mo_letters mo_mate mo_made mo_nodes mo_sort mo_from mo_to mo_begin mo_other mo_states mo_kinds mo_nodeOf mo_steps_20 mo_emissions mo_length mo_text mo_worked mo_values mo_hits mo_hitAt mo_hitLength mo_written mo_listState mo_listAt mo_listLength mo_stack a1 x3_20 r5 hc6) z_Mo_119 ⟨⟨rfl, rfl⟩, by decide, by decide⟩ hK hP hD hN hS hA (va_recv hK hP (ci := 8) (q0 := 0) rfl rfl) rfl hl.1 rfl (Nat.le_of_ble_eq_true rfl) d_Mo_scoreSteps_28 ⟨Nat.zero_le _, Nat.zero_le _⟩) hS hD rfl hA (fun H locs hP hD hS => ?_)
          refine W.eq (g2 := F0 m 31 ls [.int r5]) rfl ?_
          refine lv_istore (lv' := [(4, .int r5), (0, .ref (ad 0)), (1, .int a1), (2, .int x2_2), (3, .int x3_20)]) hx hb d_Mo_scoreSteps_31 hl (by decide) rfl (fun ls hl => ?_)
          refine lv_aload_n hx hb d_Mo_scoreSteps_33 rfl (lv_at hl 1 rfl) ?_
          refine va_get (D := (dC, dI)) (ci := 8) (v := .ref (ad 9)) (C := R_Mo) (T := F_Mo) (N := 29) hx hb hts iw_Mo hown hK hP 0 rfl rfl 13 (by decide) (hts _ m_730) (fun _ h9 => h9) rfl d_Mo_scoreSteps_34 ?_
          refine lv_iload_n hx hb d_Mo_scoreSteps_37 rfl (lv_at hl 2 rfl) ?_
          obtain ⟨hi7, hf⟩ := gdi hf
          refine va_iald hx hb hK hP 9 0 rfl rfl hi7 d_Mo_scoreSteps_38 ?_
          obtain ⟨r8, hc9, hf⟩ := ob1_inv hf
          refine xk_i (xrunS (As := [.int (mo_kinds (Int32.toNatClampNeg a1))]) (rest := []) ⟨hx, hb, hml, hown, hts⟩ (c_Mo_inserts l dC dI ty ad ta H.size mo_rows mo_columns mo_marks mo_letters mo_mate mo_made mo_nodes mo_sort mo_from mo_to mo_begin mo_other mo_states mo_kinds mo_nodeOf mo_steps_20 mo_emissions mo_length mo_text mo_worked mo_values mo_hits mo_hitAt mo_hitLength mo_written mo_listState mo_listAt mo_listLength mo_stack (mo_kinds (Int32.toNatClampNeg a1)) r8 hc9) z_Mo_105 ⟨⟨rfl, rfl⟩, by decide, by decide⟩ hK hP hD hN hS hA rfl hl.1 rfl (Nat.le_of_ble_eq_true rfl) d_Mo_scoreSteps_39 ⟨Nat.zero_le _, Nat.zero_le _⟩) hS hD rfl hA (fun H locs hP hD hS => ?_)
          refine W.eq (g2 := F0 m 42 ls [.int r8]) rfl ?_
          have J69 : ∀ (t0_69 : Int32) (H : Heap) (locs : List Loc) (ls : Array Slot), va_P (dC, dI) classes (wY ty ad mo_rows mo_columns mo_marks mo_letters mo_mate mo_made mo_nodes mo_sort mo_from mo_to mo_begin mo_other mo_states mo_kinds mo_nodeOf mo_steps_20 mo_emissions mo_length mo_text mo_worked mo_values mo_hits mo_hitAt mo_hitLength mo_written mo_listState mo_listAt mo_listLength mo_stack) H → va_D A (wY ty ad mo_rows mo_columns mo_marks mo_letters mo_mate mo_made mo_nodes mo_sort mo_from mo_to mo_begin mo_other mo_states mo_kinds mo_nodeOf mo_steps_20 mo_emissions mo_length mo_text mo_worked mo_values mo_hits mo_hitAt mo_hitLength mo_written mo_listState mo_listAt mo_listLength mo_stack) → va_S A s.heap H locs → lv_has ls 6 [(0, .ref (ad 0)), (1, .int a1), (2, .int x2_2), (3, .int x3_20)] → f_Mo_scoreSteps_J69 mo_rows mo_letters mo_sort mo_from mo_to mo_kinds mo_nodeOf a1 x2_2 x3_20 mo_steps_20 (f_Mo_scoreSteps_L20 mo_rows mo_letters mo_sort mo_from mo_to mo_begin mo_other mo_kinds mo_nodeOf a1 x2_2 (f_Mo_scoreSteps_K20_117) n20) t0_69 = some (n_mo_steps) → W p l e rm_Mo_scoreSteps s m (List.toArray [.ref (ad 0), .int a1]) below meth c H locs 0 0 Q (F0 m 69 ls [.int t0_69]) := by
            intro t0_69 H locs ls hP hD hS hl hf
            rw [f_Mo_scoreSteps_J69] at hf
            refine lv_istore (lv' := [(5, .int t0_69), (0, .ref (ad 0)), (1, .int a1), (2, .int x2_2), (3, .int x3_20)]) hx hb d_Mo_scoreSteps_69 hl (by decide) rfl (fun ls hl => ?_)
            refine lv_aload_n hx hb d_Mo_scoreSteps_71 rfl (lv_at hl 1 rfl) ?_
            refine va_get (D := (dC, dI)) (ci := 8) (v := .ref (ad 11)) (C := R_Mo) (T := F_Mo) (N := 29) hx hb hts iw_Mo hown hK hP 0 rfl rfl 15 (by decide) (hts _ m_732) (fun _ h9 => h9) rfl d_Mo_scoreSteps_72 ?_
            refine lv_bipush (v := 8) hx hb d_Mo_scoreSteps_75 (by decide) ?_
            refine lv_iload_n hx hb d_Mo_scoreSteps_77 rfl (lv_at hl 2 rfl) ?_
            refine lv_imul hx hb d_Mo_scoreSteps_78 ?_
            refine lv_iload_n hx hb d_Mo_scoreSteps_79 rfl (lv_at hl 4 rfl) ?_
            refine lv_iadd hx hb d_Mo_scoreSteps_80 ?_
            refine lv_aload_n hx hb d_Mo_scoreSteps_81 rfl (lv_at hl 1 rfl) ?_
            refine va_get (D := (dC, dI)) (ci := 8) (v := .ref (ad 9)) (C := R_Mo) (T := F_Mo) (N := 29) hx hb hts iw_Mo hown hK hP 0 rfl rfl 13 (by decide) (hts _ m_730) (fun _ h9 => h9) rfl d_Mo_scoreSteps_82 ?_
            refine lv_iload_n hx hb d_Mo_scoreSteps_85 rfl (lv_at hl 2 rfl) ?_
            obtain ⟨hi10, hf⟩ := gdi hf
            refine va_iald hx hb hK hP 9 0 rfl rfl hi10 d_Mo_scoreSteps_86 ?_
            refine lv_bipush (v := 7) hx hb d_Mo_scoreSteps_87 (by decide) ?_
            refine lv_icmp_ne (tgt := 96) hx hb d_Mo_scoreSteps_89 (by decide) (fun c11 => ?_) (fun c11 => ?_)
            · have hf := xif_f c11 hf
              refine lv_iload hx hb d_Mo_scoreSteps_96 (lv_at hl 0 rfl) ?_
              refine lv_iconst (v := 1) hx hb d_Mo_scoreSteps_98 (by decide) ?_
              refine lv_iadd hx hb d_Mo_scoreSteps_99 ?_
              refine lv_aload_n hx hb d_Mo_scoreSteps_100 rfl (lv_at hl 1 rfl) ?_
              refine lv_iload_n hx hb d_Mo_scoreSteps_101 rfl (lv_at hl 2 rfl) ?_
              obtain ⟨r12, hc13, hf⟩ := ob1_inv hf
              refine xk_i (xrunV (C := R_Mo) (As := [.int a1]) (rest := [.int (t0_69 + (1 : Int32)), .int (((8 : Int32) * a1) + x3_20), .ref (ad 11)]) ⟨hx, hb, hml, hown, hts⟩ (c_Mo_rowsIn l dC dI ty ad ta H.size mo_rows mo_columns mo_marks mo_letters mo_mate mo_made mo_nodes mo_sort mo_from mo_to mo_begin mo_other mo_states mo_kinds mo_nodeOf mo_steps_20 mo_emissions mo_length mo_text mo_worked mo_values mo_hits mo_hitAt mo_hitLength mo_written mo_listState mo_listAt mo_listLength mo_stack a1 r12 hc13) z_Mo_125 ⟨⟨rfl, rfl⟩, by decide, by decide⟩ hK hP hD hN hS hA (va_recv hK hP (ci := 8) (q0 := 0) rfl rfl) rfl hl.1 rfl (Nat.le_of_ble_eq_true rfl) d_Mo_scoreSteps_102 ⟨Nat.zero_le _, Nat.zero_le _⟩) hS hD rfl hA (fun H locs hP hD hS => ?_)
              refine W.eq (g2 := F0 m 105 ls [.int r12, .int (t0_69 + (1 : Int32)), .int (((8 : Int32) * a1) + x3_20), .ref (ad 11)]) rfl ?_
              refine lv_iload_n hx hb d_Mo_scoreSteps_105 rfl (lv_at hl 3 rfl) ?_
              refine lv_iadd hx hb d_Mo_scoreSteps_106 ?_
              obtain ⟨r14, hc15, hf⟩ := ob1_inv hf
              refine xk_i (xrunS (As := [.int (t0_69 + (1 : Int32)), .int (r12 + x2_2)]) (rest := [.int (((8 : Int32) * a1) + x3_20), .ref (ad 11)]) ⟨hx, hb, hml, hown, hts⟩ (c_Mo_log l dC dI ty ad ta H.size mo_rows mo_columns mo_marks mo_letters mo_mate mo_made mo_nodes mo_sort mo_from mo_to mo_begin mo_other mo_states mo_kinds mo_nodeOf mo_steps_20 mo_emissions mo_length mo_text mo_worked mo_values mo_hits mo_hitAt mo_hitLength mo_written mo_listState mo_listAt mo_listLength mo_stack (t0_69 + (1 : Int32)) (r12 + x2_2) r14 hc15) z_Mo_129 ⟨⟨rfl, rfl⟩, by decide, by decide⟩ hK hP hD hN hS hA rfl hl.1 rfl (Nat.le_of_ble_eq_true rfl) d_Mo_scoreSteps_107 ⟨Nat.zero_le _, Nat.zero_le _⟩) hS hD rfl hA (fun H locs hP hD hS => ?_)
              refine W.eq (g2 := F0 m 110 ls [.int r14, .int (((8 : Int32) * a1) + x3_20), .ref (ad 11)]) rfl ?_
              obtain ⟨hi16, hf⟩ := gdi hf
              refine va_iast hx hb hK hP hD hS 11 0 rfl rfl hi16 d_Mo_scoreSteps_110 (fun H locs hP hD hS => ?_)
              have hP : va_P (dC, dI) classes (wY ty ad mo_rows mo_columns mo_marks mo_letters mo_mate mo_made mo_nodes mo_sort mo_from mo_to mo_begin mo_other mo_states mo_kinds mo_nodeOf (upd mo_steps_20 (Int32.toNatClampNeg (((8 : Int32) * a1) + x3_20)) r14) mo_emissions mo_length mo_text mo_worked mo_values mo_hits mo_hitAt mo_hitLength mo_written mo_listState mo_listAt mo_listLength mo_stack) H := hP
              have hD : va_D A (wY ty ad mo_rows mo_columns mo_marks mo_letters mo_mate mo_made mo_nodes mo_sort mo_from mo_to mo_begin mo_other mo_states mo_kinds mo_nodeOf (upd mo_steps_20 (Int32.toNatClampNeg (((8 : Int32) * a1) + x3_20)) r14) mo_emissions mo_length mo_text mo_worked mo_values mo_hits mo_hitAt mo_hitLength mo_written mo_listState mo_listAt mo_listLength mo_stack) := hD
              refine lv_iinc (v := (x3_20 + (1 : Int32))) (lv' := [(3, .int (x3_20 + (1 : Int32))), (5, .int t0_69), (0, .ref (ad 0)), (1, .int a1), (2, .int x2_2)]) hx hb d_Mo_scoreSteps_111 hl (k := 4) rfl rfl (by decide) rfl (fun ls hl => ?_)
              refine lv_goto (tgt := 20) hx hb d_Mo_scoreSteps_114 (by decide) ?_
              exact ih20 (x3_20 + (1 : Int32)) (upd mo_steps_20 (Int32.toNatClampNeg (((8 : Int32) * a1) + x3_20)) r14) _ _ _ hP hD hS (lv_sub hl [2, 3, 4, 0] rfl) hf
            · have hf := xif_t c11 hf
              refine lv_iconst (v := 0) hx hb d_Mo_scoreSteps_92 (by decide) ?_
              refine lv_goto (tgt := 110) hx hb d_Mo_scoreSteps_93 (by decide) ?_
              obtain ⟨hi17, hf⟩ := gdi hf
              refine va_iast hx hb hK hP hD hS 11 0 rfl rfl hi17 d_Mo_scoreSteps_110 (fun H locs hP hD hS => ?_)
              have hP : va_P (dC, dI) classes (wY ty ad mo_rows mo_columns mo_marks mo_letters mo_mate mo_made mo_nodes mo_sort mo_from mo_to mo_begin mo_other mo_states mo_kinds mo_nodeOf (upd mo_steps_20 (Int32.toNatClampNeg (((8 : Int32) * a1) + x3_20)) (0 : Int32)) mo_emissions mo_length mo_text mo_worked mo_values mo_hits mo_hitAt mo_hitLength mo_written mo_listState mo_listAt mo_listLength mo_stack) H := hP
              have hD : va_D A (wY ty ad mo_rows mo_columns mo_marks mo_letters mo_mate mo_made mo_nodes mo_sort mo_from mo_to mo_begin mo_other mo_states mo_kinds mo_nodeOf (upd mo_steps_20 (Int32.toNatClampNeg (((8 : Int32) * a1) + x3_20)) (0 : Int32)) mo_emissions mo_length mo_text mo_worked mo_values mo_hits mo_hitAt mo_hitLength mo_written mo_listState mo_listAt mo_listLength mo_stack) := hD
              refine lv_iinc (v := (x3_20 + (1 : Int32))) (lv' := [(3, .int (x3_20 + (1 : Int32))), (5, .int t0_69), (0, .ref (ad 0)), (1, .int a1), (2, .int x2_2)]) hx hb d_Mo_scoreSteps_111 hl (k := 4) rfl rfl (by decide) rfl (fun ls hl => ?_)
              refine lv_goto (tgt := 20) hx hb d_Mo_scoreSteps_114 (by decide) ?_
              exact ih20 (x3_20 + (1 : Int32)) (upd mo_steps_20 (Int32.toNatClampNeg (((8 : Int32) * a1) + x3_20)) (0 : Int32)) _ _ _ hP hD hS (lv_sub hl [2, 3, 4, 0] rfl) hf
          have J58 : ∀  (H : Heap) (locs : List Loc) (ls : Array Slot), va_P (dC, dI) classes (wY ty ad mo_rows mo_columns mo_marks mo_letters mo_mate mo_made mo_nodes mo_sort mo_from mo_to mo_begin mo_other mo_states mo_kinds mo_nodeOf mo_steps_20 mo_emissions mo_length mo_text mo_worked mo_values mo_hits mo_hitAt mo_hitLength mo_written mo_listState mo_listAt mo_listLength mo_stack) H → va_D A (wY ty ad mo_rows mo_columns mo_marks mo_letters mo_mate mo_made mo_nodes mo_sort mo_from mo_to mo_begin mo_other mo_states mo_kinds mo_nodeOf mo_steps_20 mo_emissions mo_length mo_text mo_worked mo_values mo_hits mo_hitAt mo_hitLength mo_written mo_listState mo_listAt mo_listLength mo_stack) → va_S A s.heap H locs → lv_has ls 6 [(0, .ref (ad 0)), (1, .int a1), (2, .int x2_2), (3, .int x3_20)] → f_Mo_scoreSteps_J58 mo_rows mo_letters mo_sort mo_from mo_to mo_kinds mo_nodeOf a1 x2_2 x3_20 mo_steps_20 (f_Mo_scoreSteps_L20 mo_rows mo_letters mo_sort mo_from mo_to mo_begin mo_other mo_kinds mo_nodeOf a1 x2_2 (f_Mo_scoreSteps_K20_117) n20) = some (n_mo_steps) → W p l e rm_Mo_scoreSteps s m (List.toArray [.ref (ad 0), .int a1]) below meth c H locs 0 0 Q (F0 m 58 ls []) := by
            intro  H locs ls hP hD hS hl hf
            rw [f_Mo_scoreSteps_J58] at hf
            refine lv_iconst (v := 0) hx hb d_Mo_scoreSteps_58 (by decide) ?_
            refine lv_goto (tgt := 69) hx hb d_Mo_scoreSteps_59 (by decide) ?_
            exact J69 (0 : Int32) _ _ _ hP hD hS (lv_sub hl [0, 1, 2, 3] rfl) hf
          refine lv_if_ne (tgt := 58) hx hb d_Mo_scoreSteps_42 (by decide) (fun c18 => ?_) (fun c18 => ?_)
          · have hf := xif_f c18 hf
            exact J58  _ _ _ hP hD hS (lv_sub hl [1, 2, 3, 4] rfl) hf
          · have hf := xif_t c18 hf
            refine lv_aload_n hx hb d_Mo_scoreSteps_45 rfl (lv_at hl 1 rfl) ?_
            refine va_get (D := (dC, dI)) (ci := 8) (v := .ref (ad 9)) (C := R_Mo) (T := F_Mo) (N := 29) hx hb hts iw_Mo hown hK hP 0 rfl rfl 13 (by decide) (hts _ m_730) (fun _ h9 => h9) rfl d_Mo_scoreSteps_46 ?_
            refine lv_iload hx hb d_Mo_scoreSteps_49 (lv_at hl 0 rfl) ?_
            obtain ⟨hi19, hf⟩ := gdi hf
            refine va_iald hx hb hK hP 9 0 rfl rfl hi19 d_Mo_scoreSteps_51 ?_
            obtain ⟨r20, hc21, hf⟩ := ob1_inv hf
            refine xk_i (xrunS (As := [.int (mo_kinds (Int32.toNatClampNeg r5))]) (rest := []) ⟨hx, hb, hml, hown, hts⟩ (c_Mo_inserts l dC dI ty ad ta H.size mo_rows mo_columns mo_marks mo_letters mo_mate mo_made mo_nodes mo_sort mo_from mo_to mo_begin mo_other mo_states mo_kinds mo_nodeOf mo_steps_20 mo_emissions mo_length mo_text mo_worked mo_values mo_hits mo_hitAt mo_hitLength mo_written mo_listState mo_listAt mo_listLength mo_stack (mo_kinds (Int32.toNatClampNeg r5)) r20 hc21) z_Mo_105 ⟨⟨rfl, rfl⟩, by decide, by decide⟩ hK hP hD hN hS hA rfl hl.1 rfl (Nat.le_of_ble_eq_true rfl) d_Mo_scoreSteps_52 ⟨Nat.zero_le _, Nat.zero_le _⟩) hS hD rfl hA (fun H locs hP hD hS => ?_)
            refine W.eq (g2 := F0 m 55 ls [.int r20]) rfl ?_
            refine lv_if_eq (tgt := 62) hx hb d_Mo_scoreSteps_55 (by decide) (fun c22 => ?_) (fun c22 => ?_)
            · have hf := xif_t c22 hf
              refine lv_aload_n hx hb d_Mo_scoreSteps_62 rfl (lv_at hl 1 rfl) ?_
              refine lv_iload_n hx hb d_Mo_scoreSteps_63 rfl (lv_at hl 2 rfl) ?_
              refine lv_iload hx hb d_Mo_scoreSteps_64 (lv_at hl 0 rfl) ?_
              obtain ⟨r23, hc24, hf⟩ := ob1_inv hf
              refine xk_i (xrunV (C := R_Mo) (As := [.int a1, .int r5]) (rest := []) ⟨hx, hb, hml, hown, hts⟩ (c_Mo_rowsFrom l dC dI ty ad ta H.size mo_rows mo_columns mo_marks mo_letters mo_mate mo_made mo_nodes mo_sort mo_from mo_to mo_begin mo_other mo_states mo_kinds mo_nodeOf mo_steps_20 mo_emissions mo_length mo_text mo_worked mo_values mo_hits mo_hitAt mo_hitLength mo_written mo_listState mo_listAt mo_listLength mo_stack a1 r5 r23 hc24) z_Mo_122 ⟨⟨rfl, rfl⟩, by decide, by decide⟩ hK hP hD hN hS hA (va_recv hK hP (ci := 8) (q0 := 0) rfl rfl) rfl hl.1 rfl (Nat.le_of_ble_eq_true rfl) d_Mo_scoreSteps_66 ⟨Nat.zero_le _, Nat.zero_le _⟩) hS hD rfl hA (fun H locs hP hD hS => ?_)
              refine W.eq (g2 := F0 m 69 ls [.int r23]) rfl ?_
              exact J69 r23 _ _ _ hP hD hS (lv_sub hl [1, 2, 3, 4] rfl) hf
            · have hf := xif_f c22 hf
              exact J58  _ _ _ hP hD hS (lv_sub hl [1, 2, 3, 4] rfl) hf
    exact L20 1000 (0 : Int32) mo_steps _ _ _ hP hD hS (lv_sub hl [1, 2, 3, 0] rfl) hf
  have L2 : ∀ (n2 : Nat), ∀ (x2_2 : Int32) (H : Heap) (locs : List Loc) (ls : Array Slot), va_P (dC, dI) classes (wY ty ad mo_rows mo_columns mo_marks mo_letters mo_mate mo_made mo_nodes mo_sort mo_from mo_to mo_begin mo_other mo_states mo_kinds mo_nodeOf mo_steps mo_emissions mo_length mo_text mo_worked mo_values mo_hits mo_hitAt mo_hitLength mo_written mo_listState mo_listAt mo_listLength mo_stack) H → va_D A (wY ty ad mo_rows mo_columns mo_marks mo_letters mo_mate mo_made mo_nodes mo_sort mo_from mo_to mo_begin mo_other mo_states mo_kinds mo_nodeOf mo_steps mo_emissions mo_length mo_text mo_worked mo_values mo_hits mo_hitAt mo_hitLength mo_written mo_listState mo_listAt mo_listLength mo_stack) → va_S A s.heap H locs → lv_has ls 6 [(0, .ref (ad 0)), (1, .int a1), (2, .int x2_2)] → f_Mo_scoreSteps_L2 mo_begin mo_other mo_kinds mo_nodeOf a1 (f_Mo_scoreSteps_K2_18 mo_rows mo_letters mo_sort mo_from mo_to mo_begin mo_other mo_kinds mo_nodeOf mo_steps a1) n2 x2_2 = some (n_mo_steps) → W p l e rm_Mo_scoreSteps s m (List.toArray [.ref (ad 0), .int a1]) below meth c H locs 0 0 Q (F0 m 2 ls []) := by
    intro n2
    induction n2 with
    | zero =>
      intro x2_2 H locs ls hP hD hS hl hf
      rw [f_Mo_scoreSteps_L2] at hf
      cases hf
    | succ n2 ih2 =>
      intro x2_2 H locs ls hP hD hS hl hf
      rw [f_Mo_scoreSteps_L2] at hf
      refine lv_aload_n hx hb d_Mo_scoreSteps_2 rfl (lv_at hl 0 rfl) ?_
      refine lv_iload_n hx hb d_Mo_scoreSteps_3 rfl (lv_at hl 1 rfl) ?_
      refine lv_iload_n hx hb d_Mo_scoreSteps_4 rfl (lv_at hl 2 rfl) ?_
      obtain ⟨r1, hc2, hf⟩ := ob1_inv hf
      refine xk_i (xrunV (C := R_Mo) (As := [.int a1, .int x2_2]) (rest := []) ⟨hx, hb, hml, hown, hts⟩ (c_Mo_targetOf l dC dI ty ad ta H.size mo_rows mo_columns mo_marks mo_letters mo_mate mo_made mo_nodes mo_sort mo_from mo_to mo_begin mo_other mo_states mo_kinds mo_nodeOf mo_steps mo_emissions mo_length mo_text mo_worked mo_values mo_hits mo_hitAt mo_hitLength mo_written mo_listState mo_listAt mo_listLength mo_stack a1 x2_2 r1 hc2) z_Mo_119 ⟨⟨rfl, rfl⟩, by decide, by decide⟩ hK hP hD hN hS hA (va_recv hK hP (ci := 8) (q0 := 0) rfl rfl) rfl hl.1 rfl (Nat.le_of_ble_eq_true rfl) d_Mo_scoreSteps_5 ⟨Nat.zero_le _, Nat.zero_le _⟩) hS hD rfl hA (fun H locs hP hD hS => ?_)
      refine W.eq (g2 := F0 m 8 ls [.int r1]) rfl ?_
      refine lv_if_lt (tgt := 18) hx hb d_Mo_scoreSteps_8 (by decide) (fun c3 => ?_) (fun c3 => ?_)
      · have hf := xif_t c3 hf
        exact K2_18 x2_2 _ _ _ hP hD hS (lv_sub hl [0, 1, 2] rfl) hf
      · have hf := xif_f c3 hf
        refine lv_iload_n hx hb d_Mo_scoreSteps_11 rfl (lv_at hl 2 rfl) ?_
        refine lv_iconst (v := 1) hx hb d_Mo_scoreSteps_12 (by decide) ?_
        refine lv_iadd hx hb d_Mo_scoreSteps_13 ?_
        refine lv_istore_n (lv' := [(2, .int (x2_2 + (1 : Int32))), (0, .ref (ad 0)), (1, .int a1)]) hx hb d_Mo_scoreSteps_14 rfl hl (by decide) rfl (fun ls hl => ?_)
        refine lv_goto (tgt := 2) hx hb d_Mo_scoreSteps_15 (by decide) ?_
        exact ih2 (x2_2 + (1 : Int32)) _ _ _ hP hD hS (lv_sub hl [1, 2, 0] rfl) hf
  exact L2 1000 (0 : Int32) _ _ _ hP hD hS (lv_sub hl [1, 2, 0] rfl) hf
def f_Mo_scoreLetters_J132 (mo_letters : (Nat → Int32)) (mo_sort : (Nat → Int32)) (mo_from : (Nat → Int32)) (mo_to : (Nat → Int32)) (mo_kinds : (Nat → Int32)) (mo_nodeOf : (Nat → Int32)) (a1 : Int32) (x6_38 : Int32) (x7_38 : Int32) (rec38 : (Int32 → Int32 → Option ((Nat → Int32)))) (t0_132 : Int32) : Option ((Nat → Int32)) := if t0_132 = (0 : Int32) then (rec38 x6_38 (x7_38 + (1 : Int32))) else (ob1 (f_Mo_kindAt mo_letters mo_sort mo_from mo_to x7_38 (mo_nodeOf (Int32.toNatClampNeg a1))) (fun r8 => if r8 = (mo_kinds (Int32.toNatClampNeg a1)) then (rec38 (x6_38 + (1 : Int32)) (x7_38 + (1 : Int32))) else (rec38 x6_38 (x7_38 + (1 : Int32)))))
def f_Mo_scoreLetters_J126 (mo_letters : (Nat → Int32)) (mo_sort : (Nat → Int32)) (mo_from : (Nat → Int32)) (mo_to : (Nat → Int32)) (mo_kinds : (Nat → Int32)) (mo_nodeOf : (Nat → Int32)) (a1 : Int32) (x6_38 : Int32) (x7_38 : Int32) (rec38 : (Int32 → Int32 → Option ((Nat → Int32))))  : Option ((Nat → Int32)) := f_Mo_scoreLetters_J132 mo_letters mo_sort mo_from mo_to mo_kinds mo_nodeOf a1 x6_38 x7_38 rec38 (0 : Int32)
def f_Mo_scoreLetters_J88 (mo_letters : (Nat → Int32)) (mo_sort : (Nat → Int32)) (mo_from : (Nat → Int32)) (mo_to : (Nat → Int32)) (mo_kinds : (Nat → Int32)) (mo_nodeOf : (Nat → Int32)) (a1 : Int32) (x5_26 : Int32) (x6_38 : Int32) (x7_38 : Int32) (rec38 : (Int32 → Int32 → Option ((Nat → Int32)))) (t0_88 : Int32) : Option ((Nat → Int32)) := if (mo_kinds (Int32.toNatClampNeg a1)) = (1 : Int32) then (if t0_88 = (0 : Int32) then (f_Mo_scoreLetters_J126 mo_letters mo_sort mo_from mo_to mo_kinds mo_nodeOf a1 x6_38 x7_38 rec38) else (gd (xin (mo_nodeOf (Int32.toNatClampNeg a1)) 24) (gd (xin (((8 : Int32) * x7_38) + (mo_to (Int32.toNatClampNeg (mo_nodeOf (Int32.toNatClampNeg a1))))) 32) (if (mo_letters (Int32.toNatClampNeg (((8 : Int32) * x7_38) + (mo_to (Int32.toNatClampNeg (mo_nodeOf (Int32.toNatClampNeg a1))))))) = x5_26 then (f_Mo_scoreLetters_J132 mo_letters mo_sort mo_from mo_to mo_kinds mo_nodeOf a1 x6_38 x7_38 rec38 (1 : Int32)) else (f_Mo_scoreLetters_J126 mo_letters mo_sort mo_from mo_to mo_kinds mo_nodeOf a1 x6_38 x7_38 rec38))))) else (f_Mo_scoreLetters_J132 mo_letters mo_sort mo_from mo_to mo_kinds mo_nodeOf a1 x6_38 x7_38 rec38 t0_88)
def f_Mo_scoreLetters_J76 (mo_letters : (Nat → Int32)) (mo_sort : (Nat → Int32)) (mo_from : (Nat → Int32)) (mo_to : (Nat → Int32)) (mo_kinds : (Nat → Int32)) (mo_nodeOf : (Nat → Int32)) (a1 : Int32) (x4_17 : Int32) (x5_26 : Int32) (x6_38 : Int32) (x7_38 : Int32) (rec38 : (Int32 → Int32 → Option ((Nat → Int32)))) (t0_76 : Int32) : Option ((Nat → Int32)) := gd (xin (((8 : Int32) * x7_38) + t0_76) 32) (if (mo_letters (Int32.toNatClampNeg (((8 : Int32) * x7_38) + t0_76))) = x4_17 then (f_Mo_scoreLetters_J88 mo_letters mo_sort mo_from mo_to mo_kinds mo_nodeOf a1 x5_26 x6_38 x7_38 rec38 (1 : Int32)) else (f_Mo_scoreLetters_J88 mo_letters mo_sort mo_from mo_to mo_kinds mo_nodeOf a1 x5_26 x6_38 x7_38 rec38 (0 : Int32)))
def f_Mo_scoreLetters_K38_167 (mo_rows : Int32) (mo_letters : (Nat → Int32)) (mo_sort : (Nat → Int32)) (mo_from : (Nat → Int32)) (mo_to : (Nat → Int32)) (mo_kinds : (Nat → Int32)) (mo_nodeOf : (Nat → Int32)) (a1 : Int32) (x4_17 : Int32) (x5_26 : Int32) (mo_emissions_26 : (Nat → Int32)) (rec26 : (Int32 → (Nat → Int32) → Option ((Nat → Int32)))) (x6_38 : Int32) (x7_38 : Int32) : Option ((Nat → Int32)) := ob1 (f_Mo_inserts (mo_kinds (Int32.toNatClampNeg a1))) (fun r20 => if r20 = (0 : Int32) then (if (mo_kinds (Int32.toNatClampNeg a1)) = (1 : Int32) then (ob1 (f_Mo_rowsIn mo_rows mo_letters mo_sort mo_from mo_to mo_kinds mo_nodeOf a1) (fun r29 => ob1 (f_Mo_log ((16 : Int32) * (x6_38 + (1 : Int32))) (r29 + (16 : Int32))) (fun r31 => gd (xin ((((16 : Int32) * a1) + ((4 : Int32) * x4_17)) + x5_26) 768) (rec26 (x5_26 + (1 : Int32)) (upd mo_emissions_26 (Int32.toNatClampNeg ((((16 : Int32) * a1) + ((4 : Int32) * x4_17)) + x5_26)) r31))))) else (ob1 (f_Mo_rowsIn mo_rows mo_letters mo_sort mo_from mo_to mo_kinds mo_nodeOf a1) (fun r24 => ob1 (f_Mo_log ((4 : Int32) * (x6_38 + (1 : Int32))) (r24 + (4 : Int32))) (fun r26 => gd (xin ((((16 : Int32) * a1) + ((4 : Int32) * x4_17)) + x5_26) 768) (rec26 (x5_26 + (1 : Int32)) (upd mo_emissions_26 (Int32.toNatClampNeg ((((16 : Int32) * a1) + ((4 : Int32) * x4_17)) + x5_26)) r26)))))) else (gd (xin ((((16 : Int32) * a1) + ((4 : Int32) * x4_17)) + x5_26) 768) (rec26 (x5_26 + (1 : Int32)) (upd mo_emissions_26 (Int32.toNatClampNeg ((((16 : Int32) * a1) + ((4 : Int32) * x4_17)) + x5_26)) (0 : Int32)))))
def f_Mo_scoreLetters_L38 (mo_rows : Int32) (mo_letters : (Nat → Int32)) (mo_sort : (Nat → Int32)) (mo_from : (Nat → Int32)) (mo_to : (Nat → Int32)) (mo_kinds : (Nat → Int32)) (mo_nodeOf : (Nat → Int32)) (a1 : Int32) (x4_17 : Int32) (x5_26 : Int32) (k38_167 : (Int32 → Int32 → Option ((Nat → Int32)))) : Nat → Int32 → Int32 → Option ((Nat → Int32))
  | 0, _, _ => none
  | n38 + 1, x6_38, x7_38 => if mo_rows ≤ x7_38 then (k38_167 x6_38 x7_38) else (if (mo_kinds (Int32.toNatClampNeg a1)) = (3 : Int32) then (gd (xin (mo_nodeOf (Int32.toNatClampNeg a1)) 24) (f_Mo_scoreLetters_J76 mo_letters mo_sort mo_from mo_to mo_kinds mo_nodeOf a1 x4_17 x5_26 x6_38 x7_38 (f_Mo_scoreLetters_L38 mo_rows mo_letters mo_sort mo_from mo_to mo_kinds mo_nodeOf a1 x4_17 x5_26 k38_167 n38) (mo_to (Int32.toNatClampNeg (mo_nodeOf (Int32.toNatClampNeg a1)))))) else (gd (xin (mo_nodeOf (Int32.toNatClampNeg a1)) 24) (f_Mo_scoreLetters_J76 mo_letters mo_sort mo_from mo_to mo_kinds mo_nodeOf a1 x4_17 x5_26 x6_38 x7_38 (f_Mo_scoreLetters_L38 mo_rows mo_letters mo_sort mo_from mo_to mo_kinds mo_nodeOf a1 x4_17 x5_26 k38_167 n38) (mo_from (Int32.toNatClampNeg (mo_nodeOf (Int32.toNatClampNeg a1)))))))
def f_Mo_scoreLetters_K26_243 (x4_17 : Int32) (rec17 : (Int32 → (Nat → Int32) → Option ((Nat → Int32)))) (x5_26 : Int32) (mo_emissions_26 : (Nat → Int32)) : Option ((Nat → Int32)) := rec17 (x4_17 + (1 : Int32)) mo_emissions_26
def f_Mo_scoreLetters_L26 (mo_rows : Int32) (mo_letters : (Nat → Int32)) (mo_sort : (Nat → Int32)) (mo_from : (Nat → Int32)) (mo_to : (Nat → Int32)) (mo_kinds : (Nat → Int32)) (mo_nodeOf : (Nat → Int32)) (a1 : Int32) (x4_17 : Int32) (k26_243 : (Int32 → (Nat → Int32) → Option ((Nat → Int32)))) : Nat → Int32 → (Nat → Int32) → Option ((Nat → Int32))
  | 0, _, _ => none
  | n26 + 1, x5_26, mo_emissions_26 => if (4 : Int32) ≤ x5_26 then (k26_243 x5_26 mo_emissions_26) else (f_Mo_scoreLetters_L38 mo_rows mo_letters mo_sort mo_from mo_to mo_kinds mo_nodeOf a1 x4_17 x5_26 (f_Mo_scoreLetters_K38_167 mo_rows mo_letters mo_sort mo_from mo_to mo_kinds mo_nodeOf a1 x4_17 x5_26 mo_emissions_26 (f_Mo_scoreLetters_L26 mo_rows mo_letters mo_sort mo_from mo_to mo_kinds mo_nodeOf a1 x4_17 k26_243 n26)) 1000 (0 : Int32) (0 : Int32))
def f_Mo_scoreLetters_K17_249  (x4_17 : Int32) (mo_emissions_17 : (Nat → Int32)) : Option ((Nat → Int32)) := some (mo_emissions_17)
def f_Mo_scoreLetters_L17 (mo_rows : Int32) (mo_letters : (Nat → Int32)) (mo_sort : (Nat → Int32)) (mo_from : (Nat → Int32)) (mo_to : (Nat → Int32)) (mo_kinds : (Nat → Int32)) (mo_nodeOf : (Nat → Int32)) (a1 : Int32) (k17_249 : (Int32 → (Nat → Int32) → Option ((Nat → Int32)))) : Nat → Int32 → (Nat → Int32) → Option ((Nat → Int32))
  | 0, _, _ => none
  | n17 + 1, x4_17, mo_emissions_17 => if (4 : Int32) ≤ x4_17 then (k17_249 x4_17 mo_emissions_17) else (f_Mo_scoreLetters_L26 mo_rows mo_letters mo_sort mo_from mo_to mo_kinds mo_nodeOf a1 x4_17 (f_Mo_scoreLetters_K26_243 x4_17 (f_Mo_scoreLetters_L17 mo_rows mo_letters mo_sort mo_from mo_to mo_kinds mo_nodeOf a1 k17_249 n17)) 1000 (0 : Int32) mo_emissions_17)
def f_Mo_scoreLetters (mo_rows : Int32) (mo_letters : (Nat → Int32)) (mo_sort : (Nat → Int32)) (mo_from : (Nat → Int32)) (mo_to : (Nat → Int32)) (mo_kinds : (Nat → Int32)) (mo_nodeOf : (Nat → Int32)) (mo_emissions : (Nat → Int32)) (a1 : Int32) : Option ((Nat → Int32)) := gd (xin a1 48) (gd (xin a1 48) (f_Mo_scoreLetters_L17 mo_rows mo_letters mo_sort mo_from mo_to mo_kinds mo_nodeOf a1 (f_Mo_scoreLetters_K17_249) 1000 (0 : Int32) mo_emissions))
set_option maxHeartbeats 4000000 in
set_option maxRecDepth 100000 in
theorem c_Mo_scoreLetters (l : Launch) (dC : Nat → ClassId) (dI : Nat → Nat → Nat) (ty : Nat → ClassId) (ad : Nat → Nat) (ta : Nat → Nat) (sz : Nat) (mo_rows : Int32) (mo_columns : Int32) (mo_marks : (Nat → Int32)) (mo_letters : (Nat → Int32)) (mo_mate : (Nat → Int32)) (mo_made : Int32) (mo_nodes : Int32) (mo_sort : (Nat → Int32)) (mo_from : (Nat → Int32)) (mo_to : (Nat → Int32)) (mo_begin : (Nat → Int32)) (mo_other : (Nat → Int32)) (mo_states : Int32) (mo_kinds : (Nat → Int32)) (mo_nodeOf : (Nat → Int32)) (mo_steps : (Nat → Int32)) (mo_emissions : (Nat → Int32)) (mo_length : Int32) (mo_text : (Nat → Int32)) (mo_worked : Int32) (mo_values : (Nat → Int32)) (mo_hits : Int32) (mo_hitAt : (Nat → Int32)) (mo_hitLength : (Nat → Int32)) (mo_written : Int32) (mo_listState : (Nat → Int32)) (mo_listAt : (Nat → Int32)) (mo_listLength : (Nat → Int32)) (mo_stack : (Nat → Int32)) (a1 : Int32) (n_mo_emissions : (Nat → Int32)) (hf : f_Mo_scoreLetters mo_rows mo_letters mo_sort mo_from mo_to mo_kinds mo_nodeOf mo_emissions a1 = some (n_mo_emissions)) : Met l y_Mo_scoreLetters (.code y_Mo_scoreLetters prog_10_method_19_code 10 none :: gw) rm_Mo_scoreLetters (xPre ta (dC, dI) classes (tys3 ty) (wY ty ad mo_rows mo_columns mo_marks mo_letters mo_mate mo_made mo_nodes mo_sort mo_from mo_to mo_begin mo_other mo_states mo_kinds mo_nodeOf mo_steps mo_emissions mo_length mo_text mo_worked mo_values mo_hits mo_hitAt mo_hitLength mo_written mo_listState mo_listAt mo_listLength mo_stack) sz [.ref (ad 0), .int a1]) (xQv (dC, dI) classes (wY ty ad mo_rows mo_columns mo_marks mo_letters mo_mate mo_made mo_nodes mo_sort mo_from mo_to mo_begin mo_other mo_states mo_kinds mo_nodeOf mo_steps mo_emissions mo_length mo_text mo_worked mo_values mo_hits mo_hitAt mo_hitLength mo_written mo_listState mo_listAt mo_listLength mo_stack) (wY ty ad mo_rows mo_columns mo_marks mo_letters mo_mate mo_made mo_nodes mo_sort mo_from mo_to mo_begin mo_other mo_states mo_kinds mo_nodeOf mo_steps n_mo_emissions mo_length mo_text mo_worked mo_values mo_hits mo_hitAt mo_hitLength mo_written mo_listState mo_listAt mo_listLength mo_stack) sz) 0 0 (va_A (wY ty ad mo_rows mo_columns mo_marks mo_letters mo_mate mo_made mo_nodes mo_sort mo_from mo_to mo_begin mo_other mo_states mo_kinds mo_nodeOf mo_steps mo_emissions mo_length mo_text mo_worked mo_values mo_hits mo_hitAt mo_hitLength mo_written mo_listState mo_listAt mo_listLength mo_stack) sz) := by
  refine xmet_v rfl (Nat.le_of_ble_eq_true rfl) ?_
  intro p e s m below meth c A ls Q hx hb hml hts hown hK hN hA hP hD hS hl hret
  replace hown : s.vm.findClass R_Mo = some m.cls := hown
  have hl : lv_has ls 10 [(0, .ref (ad 0)), (1, .int a1)] := hl
  rw [f_Mo_scoreLetters] at hf
  obtain ⟨H, eH⟩ : ∃ H : Heap, H = s.heap := ⟨_, rfl⟩
  obtain ⟨locs, eL⟩ : ∃ L : List Loc, L = [] := ⟨_, rfl⟩
  have hP : va_P (dC, dI) classes (wY ty ad mo_rows mo_columns mo_marks mo_letters mo_mate mo_made mo_nodes mo_sort mo_from mo_to mo_begin mo_other mo_states mo_kinds mo_nodeOf mo_steps mo_emissions mo_length mo_text mo_worked mo_values mo_hits mo_hitAt mo_hitLength mo_written mo_listState mo_listAt mo_listLength mo_stack) H := by rw [eH]; exact hP
  have hS : va_S A s.heap H locs := by rw [eH, eL]; exact hS
  rw [← eL]
  suffices hgoal : W p l e rm_Mo_scoreLetters s m (List.toArray [.ref (ad 0), .int a1]) below meth c H locs 0 0 Q (F0 m 0 ls []) by rw [eH] at hgoal; exact hgoal
  clear eH eL
  refine lv_aload_n hx hb d_Mo_scoreLetters_0 rfl (lv_at hl 0 rfl) ?_
  refine va_get (D := (dC, dI)) (ci := 8) (v := .ref (ad 10)) (C := R_Mo) (T := F_Mo) (N := 29) hx hb hts iw_Mo hown hK hP 0 rfl rfl 14 (by decide) (hts _ m_731) (fun _ h9 => h9) rfl d_Mo_scoreLetters_1 ?_
  refine lv_iload_n hx hb d_Mo_scoreLetters_4 rfl (lv_at hl 1 rfl) ?_
  obtain ⟨hi1, hf⟩ := gdi hf
  refine va_iald hx hb hK hP 10 0 rfl rfl hi1 d_Mo_scoreLetters_5 ?_
  refine lv_istore_n (lv' := [(2, .int (mo_nodeOf (Int32.toNatClampNeg a1))), (0, .ref (ad 0)), (1, .int a1)]) hx hb d_Mo_scoreLetters_6 rfl hl (by decide) rfl (fun ls hl => ?_)
  refine lv_aload_n hx hb d_Mo_scoreLetters_7 rfl (lv_at hl 1 rfl) ?_
  refine va_get (D := (dC, dI)) (ci := 8) (v := .ref (ad 9)) (C := R_Mo) (T := F_Mo) (N := 29) hx hb hts iw_Mo hown hK hP 0 rfl rfl 13 (by decide) (hts _ m_730) (fun _ h9 => h9) rfl d_Mo_scoreLetters_8 ?_
  refine lv_iload_n hx hb d_Mo_scoreLetters_11 rfl (lv_at hl 2 rfl) ?_
  obtain ⟨hi2, hf⟩ := gdi hf
  refine va_iald hx hb hK hP 9 0 rfl rfl hi2 d_Mo_scoreLetters_12 ?_
  refine lv_istore_n (lv' := [(3, .int (mo_kinds (Int32.toNatClampNeg a1))), (2, .int (mo_nodeOf (Int32.toNatClampNeg a1))), (0, .ref (ad 0)), (1, .int a1)]) hx hb d_Mo_scoreLetters_13 rfl hl (by decide) rfl (fun ls hl => ?_)
  refine lv_iconst (v := 0) hx hb d_Mo_scoreLetters_14 (by decide) ?_
  refine lv_istore (lv' := [(4, .int (0 : Int32)), (3, .int (mo_kinds (Int32.toNatClampNeg a1))), (2, .int (mo_nodeOf (Int32.toNatClampNeg a1))), (0, .ref (ad 0)), (1, .int a1)]) hx hb d_Mo_scoreLetters_15 hl (by decide) rfl (fun ls hl => ?_)
  have K17_249 : ∀ (x4_17 : Int32) (mo_emissions_17 : (Nat → Int32)) (H : Heap) (locs : List Loc) (ls : Array Slot), va_P (dC, dI) classes (wY ty ad mo_rows mo_columns mo_marks mo_letters mo_mate mo_made mo_nodes mo_sort mo_from mo_to mo_begin mo_other mo_states mo_kinds mo_nodeOf mo_steps mo_emissions_17 mo_length mo_text mo_worked mo_values mo_hits mo_hitAt mo_hitLength mo_written mo_listState mo_listAt mo_listLength mo_stack) H → va_D A (wY ty ad mo_rows mo_columns mo_marks mo_letters mo_mate mo_made mo_nodes mo_sort mo_from mo_to mo_begin mo_other mo_states mo_kinds mo_nodeOf mo_steps mo_emissions_17 mo_length mo_text mo_worked mo_values mo_hits mo_hitAt mo_hitLength mo_written mo_listState mo_listAt mo_listLength mo_stack) → va_S A s.heap H locs → lv_has ls 10 [] → f_Mo_scoreLetters_K17_249 x4_17 mo_emissions_17 = some (n_mo_emissions) → W p l e rm_Mo_scoreLetters s m (List.toArray [.ref (ad 0), .int a1]) below meth c H locs 0 0 Q (F0 m 249 ls []) := by
    intro x4_17 mo_emissions_17 H locs ls hP hD hS hl hf
    rw [f_Mo_scoreLetters_K17_249] at hf
    obtain rfl := os1 hf
    exact hret H locs _ _ d_Mo_scoreLetters_249 hP hS
  have L17 : ∀ (n17 : Nat), ∀ (x4_17 : Int32) (mo_emissions_17 : (Nat → Int32)) (H : Heap) (locs : List Loc) (ls : Array Slot), va_P (dC, dI) classes (wY ty ad mo_rows mo_columns mo_marks mo_letters mo_mate mo_made mo_nodes mo_sort mo_from mo_to mo_begin mo_other mo_states mo_kinds mo_nodeOf mo_steps mo_emissions_17 mo_length mo_text mo_worked mo_values mo_hits mo_hitAt mo_hitLength mo_written mo_listState mo_listAt mo_listLength mo_stack) H → va_D A (wY ty ad mo_rows mo_columns mo_marks mo_letters mo_mate mo_made mo_nodes mo_sort mo_from mo_to mo_begin mo_other mo_states mo_kinds mo_nodeOf mo_steps mo_emissions_17 mo_length mo_text mo_worked mo_values mo_hits mo_hitAt mo_hitLength mo_written mo_listState mo_listAt mo_listLength mo_stack) → va_S A s.heap H locs → lv_has ls 10 [(0, .ref (ad 0)), (1, .int a1), (2, .int (mo_nodeOf (Int32.toNatClampNeg a1))), (3, .int (mo_kinds (Int32.toNatClampNeg a1))), (4, .int x4_17)] → f_Mo_scoreLetters_L17 mo_rows mo_letters mo_sort mo_from mo_to mo_kinds mo_nodeOf a1 (f_Mo_scoreLetters_K17_249) n17 x4_17 mo_emissions_17 = some (n_mo_emissions) → W p l e rm_Mo_scoreLetters s m (List.toArray [.ref (ad 0), .int a1]) below meth c H locs 0 0 Q (F0 m 17 ls []) := by
    intro n17
    induction n17 with
    | zero =>
      intro x4_17 mo_emissions_17 H locs ls hP hD hS hl hf
      rw [f_Mo_scoreLetters_L17] at hf
      cases hf
    | succ n17 ih17 =>
      intro x4_17 mo_emissions_17 H locs ls hP hD hS hl hf
      rw [f_Mo_scoreLetters_L17] at hf
      refine lv_iload hx hb d_Mo_scoreLetters_17 (lv_at hl 4 rfl) ?_
      refine lv_iconst (v := 4) hx hb d_Mo_scoreLetters_19 (by decide) ?_
      refine lv_icmp_ge (tgt := 249) hx hb d_Mo_scoreLetters_20 (by decide) (fun c3 => ?_) (fun c3 => ?_)
      · have hf := xif_t c3 hf
        exact K17_249 x4_17 mo_emissions_17 _ _ _ hP hD hS (lv_sub hl [] rfl) hf
      · have hf := xif_f c3 hf
        refine lv_iconst (v := 0) hx hb d_Mo_scoreLetters_23 (by decide) ?_
        refine lv_istore (lv' := [(5, .int (0 : Int32)), (0, .ref (ad 0)), (1, .int a1), (2, .int (mo_nodeOf (Int32.toNatClampNeg a1))), (3, .int (mo_kinds (Int32.toNatClampNeg a1))), (4, .int x4_17)]) hx hb d_Mo_scoreLetters_24 hl (by decide) rfl (fun ls hl => ?_)
        have K26_243 : ∀ (x5_26 : Int32) (mo_emissions_26 : (Nat → Int32)) (H : Heap) (locs : List Loc) (ls : Array Slot), va_P (dC, dI) classes (wY ty ad mo_rows mo_columns mo_marks mo_letters mo_mate mo_made mo_nodes mo_sort mo_from mo_to mo_begin mo_other mo_states mo_kinds mo_nodeOf mo_steps mo_emissions_26 mo_length mo_text mo_worked mo_values mo_hits mo_hitAt mo_hitLength mo_written mo_listState mo_listAt mo_listLength mo_stack) H → va_D A (wY ty ad mo_rows mo_columns mo_marks mo_letters mo_mate mo_made mo_nodes mo_sort mo_from mo_to mo_begin mo_other mo_states mo_kinds mo_nodeOf mo_steps mo_emissions_26 mo_length mo_text mo_worked mo_values mo_hits mo_hitAt mo_hitLength mo_written mo_listState mo_listAt mo_listLength mo_stack) → va_S A s.heap H locs → lv_has ls 10 [(0, .ref (ad 0)), (1, .int a1), (2, .int (mo_nodeOf (Int32.toNatClampNeg a1))), (3, .int (mo_kinds (Int32.toNatClampNeg a1))), (4, .int x4_17)] → f_Mo_scoreLetters_K26_243 x4_17 (f_Mo_scoreLetters_L17 mo_rows mo_letters mo_sort mo_from mo_to mo_kinds mo_nodeOf a1 (f_Mo_scoreLetters_K17_249) n17) x5_26 mo_emissions_26 = some (n_mo_emissions) → W p l e rm_Mo_scoreLetters s m (List.toArray [.ref (ad 0), .int a1]) below meth c H locs 0 0 Q (F0 m 243 ls []) := by
          intro x5_26 mo_emissions_26 H locs ls hP hD hS hl hf
          rw [f_Mo_scoreLetters_K26_243] at hf
          refine lv_iinc (v := (x4_17 + (1 : Int32))) (lv' := [(4, .int (x4_17 + (1 : Int32))), (0, .ref (ad 0)), (1, .int a1), (2, .int (mo_nodeOf (Int32.toNatClampNeg a1))), (3, .int (mo_kinds (Int32.toNatClampNeg a1)))]) hx hb d_Mo_scoreLetters_243 hl (k := 4) rfl rfl (by decide) rfl (fun ls hl => ?_)
          refine lv_goto (tgt := 17) hx hb d_Mo_scoreLetters_246 (by decide) ?_
          exact ih17 (x4_17 + (1 : Int32)) mo_emissions_26 _ _ _ hP hD hS (lv_sub hl [1, 2, 3, 4, 0] rfl) hf
        have L26 : ∀ (n26 : Nat), ∀ (x5_26 : Int32) (mo_emissions_26 : (Nat → Int32)) (H : Heap) (locs : List Loc) (ls : Array Slot), va_P (dC, dI) classes (wY ty ad mo_rows mo_columns mo_marks mo_letters mo_mate mo_made mo_nodes mo_sort mo_from mo_to mo_begin mo_other mo_states mo_kinds mo_nodeOf mo_steps mo_emissions_26 mo_length mo_text mo_worked mo_values mo_hits mo_hitAt mo_hitLength mo_written mo_listState mo_listAt mo_listLength mo_stack) H → va_D A (wY ty ad mo_rows mo_columns mo_marks mo_letters mo_mate mo_made mo_nodes mo_sort mo_from mo_to mo_begin mo_other mo_states mo_kinds mo_nodeOf mo_steps mo_emissions_26 mo_length mo_text mo_worked mo_values mo_hits mo_hitAt mo_hitLength mo_written mo_listState mo_listAt mo_listLength mo_stack) → va_S A s.heap H locs → lv_has ls 10 [(0, .ref (ad 0)), (1, .int a1), (2, .int (mo_nodeOf (Int32.toNatClampNeg a1))), (3, .int (mo_kinds (Int32.toNatClampNeg a1))), (4, .int x4_17), (5, .int x5_26)] → f_Mo_scoreLetters_L26 mo_rows mo_letters mo_sort mo_from mo_to mo_kinds mo_nodeOf a1 x4_17 (f_Mo_scoreLetters_K26_243 x4_17 (f_Mo_scoreLetters_L17 mo_rows mo_letters mo_sort mo_from mo_to mo_kinds mo_nodeOf a1 (f_Mo_scoreLetters_K17_249) n17)) n26 x5_26 mo_emissions_26 = some (n_mo_emissions) → W p l e rm_Mo_scoreLetters s m (List.toArray [.ref (ad 0), .int a1]) below meth c H locs 0 0 Q (F0 m 26 ls []) := by
          intro n26
          induction n26 with
          | zero =>
            intro x5_26 mo_emissions_26 H locs ls hP hD hS hl hf
            rw [f_Mo_scoreLetters_L26] at hf
            cases hf
          | succ n26 ih26 =>
            intro x5_26 mo_emissions_26 H locs ls hP hD hS hl hf
            rw [f_Mo_scoreLetters_L26] at hf
            refine lv_iload hx hb d_Mo_scoreLetters_26 (lv_at hl 5 rfl) ?_
            refine lv_iconst (v := 4) hx hb d_Mo_scoreLetters_28 (by decide) ?_
            refine lv_icmp_ge (tgt := 243) hx hb d_Mo_scoreLetters_29 (by decide) (fun c4 => ?_) (fun c4 => ?_)
            · have hf := xif_t c4 hf
              exact K26_243 x5_26 mo_emissions_26 _ _ _ hP hD hS (lv_sub hl [0, 1, 2, 3, 4] rfl) hf
            · have hf := xif_f c4 hf
              refine lv_iconst (v := 0) hx hb d_Mo_scoreLetters_32 (by decide) ?_
              refine lv_istore (lv' := [(6, .int (0 : Int32)), (0, .ref (ad 0)), (1, .int a1), (2, .int (mo_nodeOf (Int32.toNatClampNeg a1))), (3, .int (mo_kinds (Int32.toNatClampNeg a1))), (4, .int x4_17), (5, .int x5_26)]) hx hb d_Mo_scoreLetters_33 hl (by decide) rfl (fun ls hl => ?_)
              refine lv_iconst (v := 0) hx hb d_Mo_scoreLetters_35 (by decide) ?_
              refine lv_istore (lv' := [(7, .int (0 : Int32)), (6, .int (0 : Int32)), (0, .ref (ad 0)), (1, .int a1), (2, .int (mo_nodeOf (Int32.toNatClampNeg a1))), (3, .int (mo_kinds (Int32.toNatClampNeg a1))), (4, .int x4_17), (5, .int x5_26)]) hx hb d_Mo_scoreLetters_36 hl (by decide) rfl (fun ls hl => ?_)
              have K38_167 : ∀ (x6_38 : Int32) (x7_38 : Int32) (H : Heap) (locs : List Loc) (ls : Array Slot), va_P (dC, dI) classes (wY ty ad mo_rows mo_columns mo_marks mo_letters mo_mate mo_made mo_nodes mo_sort mo_from mo_to mo_begin mo_other mo_states mo_kinds mo_nodeOf mo_steps mo_emissions_26 mo_length mo_text mo_worked mo_values mo_hits mo_hitAt mo_hitLength mo_written mo_listState mo_listAt mo_listLength mo_stack) H → va_D A (wY ty ad mo_rows mo_columns mo_marks mo_letters mo_mate mo_made mo_nodes mo_sort mo_from mo_to mo_begin mo_other mo_states mo_kinds mo_nodeOf mo_steps mo_emissions_26 mo_length mo_text mo_worked mo_values mo_hits mo_hitAt mo_hitLength mo_written mo_listState mo_listAt mo_listLength mo_stack) → va_S A s.heap H locs → lv_has ls 10 [(0, .ref (ad 0)), (1, .int a1), (2, .int (mo_nodeOf (Int32.toNatClampNeg a1))), (3, .int (mo_kinds (Int32.toNatClampNeg a1))), (4, .int x4_17), (5, .int x5_26), (6, .int x6_38)] → f_Mo_scoreLetters_K38_167 mo_rows mo_letters mo_sort mo_from mo_to mo_kinds mo_nodeOf a1 x4_17 x5_26 mo_emissions_26 (f_Mo_scoreLetters_L26 mo_rows mo_letters mo_sort mo_from mo_to mo_kinds mo_nodeOf a1 x4_17 (f_Mo_scoreLetters_K26_243 x4_17 (f_Mo_scoreLetters_L17 mo_rows mo_letters mo_sort mo_from mo_to mo_kinds mo_nodeOf a1 (f_Mo_scoreLetters_K17_249) n17)) n26) x6_38 x7_38 = some (n_mo_emissions) → W p l e rm_Mo_scoreLetters s m (List.toArray [.ref (ad 0), .int a1]) below meth c H locs 0 0 Q (F0 m 167 ls []) := by
                intro x6_38 x7_38 H locs ls hP hD hS hl hf
                rw [f_Mo_scoreLetters_K38_167] at hf
                refine lv_aload_n hx hb d_Mo_scoreLetters_167 rfl (lv_at hl 0 rfl) ?_
                refine va_get (D := (dC, dI)) (ci := 8) (v := .ref (ad 12)) (C := R_Mo) (T := F_Mo) (N := 29) hx hb hts iw_Mo hown hK hP 0 rfl rfl 16 (by decide) (hts _ m_733) (fun _ h9 => h9) rfl d_Mo_scoreLetters_168 ?_
                refine lv_bipush (v := 16) hx hb d_Mo_scoreLetters_171 (by decide) ?_
                refine lv_iload_n hx hb d_Mo_scoreLetters_173 rfl (lv_at hl 1 rfl) ?_
                refine lv_imul hx hb d_Mo_scoreLetters_174 ?_
                refine lv_iconst (v := 4) hx hb d_Mo_scoreLetters_175 (by decide) ?_
                refine lv_iload hx hb d_Mo_scoreLetters_176 (lv_at hl 4 rfl) ?_
                refine lv_imul hx hb d_Mo_scoreLetters_178 ?_
                refine lv_iadd hx hb d_Mo_scoreLetters_179 ?_
                refine lv_iload hx hb d_Mo_scoreLetters_180 (lv_at hl 5 rfl) ?_
                refine lv_iadd hx hb d_Mo_scoreLetters_182 ?_
                refine lv_iload_n hx hb d_Mo_scoreLetters_183 rfl (lv_at hl 3 rfl) ?_
                obtain ⟨r20, hc21, hf⟩ := ob1_inv hf
                refine xk_i (xrunS (As := [.int (mo_kinds (Int32.toNatClampNeg a1))]) (rest := [.int ((((16 : Int32) * a1) + ((4 : Int32) * x4_17)) + x5_26), .ref (ad 12)]) ⟨hx, hb, hml, hown, hts⟩ (c_Mo_inserts l dC dI ty ad ta H.size mo_rows mo_columns mo_marks mo_letters mo_mate mo_made mo_nodes mo_sort mo_from mo_to mo_begin mo_other mo_states mo_kinds mo_nodeOf mo_steps mo_emissions_26 mo_length mo_text mo_worked mo_values mo_hits mo_hitAt mo_hitLength mo_written mo_listState mo_listAt mo_listLength mo_stack (mo_kinds (Int32.toNatClampNeg a1)) r20 hc21) z_Mo_105 ⟨⟨rfl, rfl⟩, by decide, by decide⟩ hK hP hD hN hS hA rfl hl.1 rfl (Nat.le_of_ble_eq_true rfl) d_Mo_scoreLetters_184 ⟨Nat.zero_le _, Nat.zero_le _⟩) hS hD rfl hA (fun H locs hP hD hS => ?_)
                refine W.eq (g2 := F0 m 187 ls [.int r20, .int ((((16 : Int32) * a1) + ((4 : Int32) * x4_17)) + x5_26), .ref (ad 12)]) rfl ?_
                refine lv_if_eq (tgt := 194) hx hb d_Mo_scoreLetters_187 (by decide) (fun c22 => ?_) (fun c22 => ?_)
                · have hf := xif_t c22 hf
                  refine lv_iload_n hx hb d_Mo_scoreLetters_194 rfl (lv_at hl 3 rfl) ?_
                  refine lv_iconst (v := 1) hx hb d_Mo_scoreLetters_195 (by decide) ?_
                  refine lv_icmp_ne (tgt := 220) hx hb d_Mo_scoreLetters_196 (by decide) (fun c23 => ?_) (fun c23 => ?_)
                  · have hf := xif_f c23 hf
                    refine lv_iconst (v := 4) hx hb d_Mo_scoreLetters_220 (by decide) ?_
                    refine lv_iload hx hb d_Mo_scoreLetters_221 (lv_at hl 6 rfl) ?_
                    refine lv_iconst (v := 1) hx hb d_Mo_scoreLetters_223 (by decide) ?_
                    refine lv_iadd hx hb d_Mo_scoreLetters_224 ?_
                    refine lv_imul hx hb d_Mo_scoreLetters_225 ?_
                    refine lv_aload_n hx hb d_Mo_scoreLetters_226 rfl (lv_at hl 0 rfl) ?_
                    refine lv_iload_n hx hb d_Mo_scoreLetters_227 rfl (lv_at hl 1 rfl) ?_
                    obtain ⟨r24, hc25, hf⟩ := ob1_inv hf
                    refine xk_i (xrunV (C := R_Mo) (As := [.int a1]) (rest := [.int ((4 : Int32) * (x6_38 + (1 : Int32))), .int ((((16 : Int32) * a1) + ((4 : Int32) * x4_17)) + x5_26), .ref (ad 12)]) ⟨hx, hb, hml, hown, hts⟩ (c_Mo_rowsIn l dC dI ty ad ta H.size mo_rows mo_columns mo_marks mo_letters mo_mate mo_made mo_nodes mo_sort mo_from mo_to mo_begin mo_other mo_states mo_kinds mo_nodeOf mo_steps mo_emissions_26 mo_length mo_text mo_worked mo_values mo_hits mo_hitAt mo_hitLength mo_written mo_listState mo_listAt mo_listLength mo_stack a1 r24 hc25) z_Mo_125 ⟨⟨rfl, rfl⟩, by decide, by decide⟩ hK hP hD hN hS hA (va_recv hK hP (ci := 8) (q0 := 0) rfl rfl) rfl hl.1 rfl (Nat.le_of_ble_eq_true rfl) d_Mo_scoreLetters_228 ⟨Nat.zero_le _, Nat.zero_le _⟩) hS hD rfl hA (fun H locs hP hD hS => ?_)
                    refine W.eq (g2 := F0 m 231 ls [.int r24, .int ((4 : Int32) * (x6_38 + (1 : Int32))), .int ((((16 : Int32) * a1) + ((4 : Int32) * x4_17)) + x5_26), .ref (ad 12)]) rfl ?_
                    refine lv_iconst (v := 4) hx hb d_Mo_scoreLetters_231 (by decide) ?_
                    refine lv_iadd hx hb d_Mo_scoreLetters_232 ?_
                    obtain ⟨r26, hc27, hf⟩ := ob1_inv hf
                    refine xk_i (xrunS (As := [.int ((4 : Int32) * (x6_38 + (1 : Int32))), .int (r24 + (4 : Int32))]) (rest := [.int ((((16 : Int32) * a1) + ((4 : Int32) * x4_17)) + x5_26), .ref (ad 12)]) ⟨hx, hb, hml, hown, hts⟩ (c_Mo_log l dC dI ty ad ta H.size mo_rows mo_columns mo_marks mo_letters mo_mate mo_made mo_nodes mo_sort mo_from mo_to mo_begin mo_other mo_states mo_kinds mo_nodeOf mo_steps mo_emissions_26 mo_length mo_text mo_worked mo_values mo_hits mo_hitAt mo_hitLength mo_written mo_listState mo_listAt mo_listLength mo_stack ((4 : Int32) * (x6_38 + (1 : Int32))) (r24 + (4 : Int32)) r26 hc27) z_Mo_129 ⟨⟨rfl, rfl⟩, by decide, by decide⟩ hK hP hD hN hS hA rfl hl.1 rfl (Nat.le_of_ble_eq_true rfl) d_Mo_scoreLetters_233 ⟨Nat.zero_le _, Nat.zero_le _⟩) hS hD rfl hA (fun H locs hP hD hS => ?_)
                    refine W.eq (g2 := F0 m 236 ls [.int r26, .int ((((16 : Int32) * a1) + ((4 : Int32) * x4_17)) + x5_26), .ref (ad 12)]) rfl ?_
                    obtain ⟨hi28, hf⟩ := gdi hf
                    refine va_iast hx hb hK hP hD hS 12 0 rfl rfl hi28 d_Mo_scoreLetters_236 (fun H locs hP hD hS => ?_)
                    have hP : va_P (dC, dI) classes (wY ty ad mo_rows mo_columns mo_marks mo_letters mo_mate mo_made mo_nodes mo_sort mo_from mo_to mo_begin mo_other mo_states mo_kinds mo_nodeOf mo_steps (upd mo_emissions_26 (Int32.toNatClampNeg ((((16 : Int32) * a1) + ((4 : Int32) * x4_17)) + x5_26)) r26) mo_length mo_text mo_worked mo_values mo_hits mo_hitAt mo_hitLength mo_written mo_listState mo_listAt mo_listLength mo_stack) H := hP
                    have hD : va_D A (wY ty ad mo_rows mo_columns mo_marks mo_letters mo_mate mo_made mo_nodes mo_sort mo_from mo_to mo_begin mo_other mo_states mo_kinds mo_nodeOf mo_steps (upd mo_emissions_26 (Int32.toNatClampNeg ((((16 : Int32) * a1) + ((4 : Int32) * x4_17)) + x5_26)) r26) mo_length mo_text mo_worked mo_values mo_hits mo_hitAt mo_hitLength mo_written mo_listState mo_listAt mo_listLength mo_stack) := hD
                    refine lv_iinc (v := (x5_26 + (1 : Int32))) (lv' := [(5, .int (x5_26 + (1 : Int32))), (0, .ref (ad 0)), (1, .int a1), (2, .int (mo_nodeOf (Int32.toNatClampNeg a1))), (3, .int (mo_kinds (Int32.toNatClampNeg a1))), (4, .int x4_17), (6, .int x6_38)]) hx hb d_Mo_scoreLetters_237 hl (k := 5) rfl rfl (by decide) rfl (fun ls hl => ?_)
                    refine lv_goto (tgt := 26) hx hb d_Mo_scoreLetters_240 (by decide) ?_
                    exact ih26 (x5_26 + (1 : Int32)) (upd mo_emissions_26 (Int32.toNatClampNeg ((((16 : Int32) * a1) + ((4 : Int32) * x4_17)) + x5_26)) r26) _ _ _ hP hD hS (lv_sub hl [1, 2, 3, 4, 5, 0] rfl) hf
                  · have hf := xif_t c23 hf
                    refine lv_bipush (v := 16) hx hb d_Mo_scoreLetters_199 (by decide) ?_
                    refine lv_iload hx hb d_Mo_scoreLetters_201 (lv_at hl 6 rfl) ?_
                    refine lv_iconst (v := 1) hx hb d_Mo_scoreLetters_203 (by decide) ?_
                    refine lv_iadd hx hb d_Mo_scoreLetters_204 ?_
                    refine lv_imul hx hb d_Mo_scoreLetters_205 ?_
                    refine lv_aload_n hx hb d_Mo_scoreLetters_206 rfl (lv_at hl 0 rfl) ?_
                    refine lv_iload_n hx hb d_Mo_scoreLetters_207 rfl (lv_at hl 1 rfl) ?_
                    obtain ⟨r29, hc30, hf⟩ := ob1_inv hf
                    refine xk_i (xrunV (C := R_Mo) (As := [.int a1]) (rest := [.int ((16 : Int32) * (x6_38 + (1 : Int32))), .int ((((16 : Int32) * a1) + ((4 : Int32) * x4_17)) + x5_26), .ref (ad 12)]) ⟨hx, hb, hml, hown, hts⟩ (c_Mo_rowsIn l dC dI ty ad ta H.size mo_rows mo_columns mo_marks mo_letters mo_mate mo_made mo_nodes mo_sort mo_from mo_to mo_begin mo_other mo_states mo_kinds mo_nodeOf mo_steps mo_emissions_26 mo_length mo_text mo_worked mo_values mo_hits mo_hitAt mo_hitLength mo_written mo_listState mo_listAt mo_listLength mo_stack a1 r29 hc30) z_Mo_125 ⟨⟨rfl, rfl⟩, by decide, by decide⟩ hK hP hD hN hS hA (va_recv hK hP (ci := 8) (q0 := 0) rfl rfl) rfl hl.1 rfl (Nat.le_of_ble_eq_true rfl) d_Mo_scoreLetters_208 ⟨Nat.zero_le _, Nat.zero_le _⟩) hS hD rfl hA (fun H locs hP hD hS => ?_)
                    refine W.eq (g2 := F0 m 211 ls [.int r29, .int ((16 : Int32) * (x6_38 + (1 : Int32))), .int ((((16 : Int32) * a1) + ((4 : Int32) * x4_17)) + x5_26), .ref (ad 12)]) rfl ?_
                    refine lv_bipush (v := 16) hx hb d_Mo_scoreLetters_211 (by decide) ?_
                    refine lv_iadd hx hb d_Mo_scoreLetters_213 ?_
                    obtain ⟨r31, hc32, hf⟩ := ob1_inv hf
                    refine xk_i (xrunS (As := [.int ((16 : Int32) * (x6_38 + (1 : Int32))), .int (r29 + (16 : Int32))]) (rest := [.int ((((16 : Int32) * a1) + ((4 : Int32) * x4_17)) + x5_26), .ref (ad 12)]) ⟨hx, hb, hml, hown, hts⟩ (c_Mo_log l dC dI ty ad ta H.size mo_rows mo_columns mo_marks mo_letters mo_mate mo_made mo_nodes mo_sort mo_from mo_to mo_begin mo_other mo_states mo_kinds mo_nodeOf mo_steps mo_emissions_26 mo_length mo_text mo_worked mo_values mo_hits mo_hitAt mo_hitLength mo_written mo_listState mo_listAt mo_listLength mo_stack ((16 : Int32) * (x6_38 + (1 : Int32))) (r29 + (16 : Int32)) r31 hc32) z_Mo_129 ⟨⟨rfl, rfl⟩, by decide, by decide⟩ hK hP hD hN hS hA rfl hl.1 rfl (Nat.le_of_ble_eq_true rfl) d_Mo_scoreLetters_214 ⟨Nat.zero_le _, Nat.zero_le _⟩) hS hD rfl hA (fun H locs hP hD hS => ?_)
                    refine W.eq (g2 := F0 m 217 ls [.int r31, .int ((((16 : Int32) * a1) + ((4 : Int32) * x4_17)) + x5_26), .ref (ad 12)]) rfl ?_
                    refine lv_goto (tgt := 236) hx hb d_Mo_scoreLetters_217 (by decide) ?_
                    obtain ⟨hi33, hf⟩ := gdi hf
                    refine va_iast hx hb hK hP hD hS 12 0 rfl rfl hi33 d_Mo_scoreLetters_236 (fun H locs hP hD hS => ?_)
                    have hP : va_P (dC, dI) classes (wY ty ad mo_rows mo_columns mo_marks mo_letters mo_mate mo_made mo_nodes mo_sort mo_from mo_to mo_begin mo_other mo_states mo_kinds mo_nodeOf mo_steps (upd mo_emissions_26 (Int32.toNatClampNeg ((((16 : Int32) * a1) + ((4 : Int32) * x4_17)) + x5_26)) r31) mo_length mo_text mo_worked mo_values mo_hits mo_hitAt mo_hitLength mo_written mo_listState mo_listAt mo_listLength mo_stack) H := hP
                    have hD : va_D A (wY ty ad mo_rows mo_columns mo_marks mo_letters mo_mate mo_made mo_nodes mo_sort mo_from mo_to mo_begin mo_other mo_states mo_kinds mo_nodeOf mo_steps (upd mo_emissions_26 (Int32.toNatClampNeg ((((16 : Int32) * a1) + ((4 : Int32) * x4_17)) + x5_26)) r31) mo_length mo_text mo_worked mo_values mo_hits mo_hitAt mo_hitLength mo_written mo_listState mo_listAt mo_listLength mo_stack) := hD
                    refine lv_iinc (v := (x5_26 + (1 : Int32))) (lv' := [(5, .int (x5_26 + (1 : Int32))), (0, .ref (ad 0)), (1, .int a1), (2, .int (mo_nodeOf (Int32.toNatClampNeg a1))), (3, .int (mo_kinds (Int32.toNatClampNeg a1))), (4, .int x4_17), (6, .int x6_38)]) hx hb d_Mo_scoreLetters_237 hl (k := 5) rfl rfl (by decide) rfl (fun ls hl => ?_)
                    refine lv_goto (tgt := 26) hx hb d_Mo_scoreLetters_240 (by decide) ?_
                    exact ih26 (x5_26 + (1 : Int32)) (upd mo_emissions_26 (Int32.toNatClampNeg ((((16 : Int32) * a1) + ((4 : Int32) * x4_17)) + x5_26)) r31) _ _ _ hP hD hS (lv_sub hl [1, 2, 3, 4, 5, 0] rfl) hf
                · have hf := xif_f c22 hf
                  refine lv_iconst (v := 0) hx hb d_Mo_scoreLetters_190 (by decide) ?_
                  refine lv_goto (tgt := 236) hx hb d_Mo_scoreLetters_191 (by decide) ?_
                  obtain ⟨hi34, hf⟩ := gdi hf
                  refine va_iast hx hb hK hP hD hS 12 0 rfl rfl hi34 d_Mo_scoreLetters_236 (fun H locs hP hD hS => ?_)
                  have hP : va_P (dC, dI) classes (wY ty ad mo_rows mo_columns mo_marks mo_letters mo_mate mo_made mo_nodes mo_sort mo_from mo_to mo_begin mo_other mo_states mo_kinds mo_nodeOf mo_steps (upd mo_emissions_26 (Int32.toNatClampNeg ((((16 : Int32) * a1) + ((4 : Int32) * x4_17)) + x5_26)) (0 : Int32)) mo_length mo_text mo_worked mo_values mo_hits mo_hitAt mo_hitLength mo_written mo_listState mo_listAt mo_listLength mo_stack) H := hP
                  have hD : va_D A (wY ty ad mo_rows mo_columns mo_marks mo_letters mo_mate mo_made mo_nodes mo_sort mo_from mo_to mo_begin mo_other mo_states mo_kinds mo_nodeOf mo_steps (upd mo_emissions_26 (Int32.toNatClampNeg ((((16 : Int32) * a1) + ((4 : Int32) * x4_17)) + x5_26)) (0 : Int32)) mo_length mo_text mo_worked mo_values mo_hits mo_hitAt mo_hitLength mo_written mo_listState mo_listAt mo_listLength mo_stack) := hD
                  refine lv_iinc (v := (x5_26 + (1 : Int32))) (lv' := [(5, .int (x5_26 + (1 : Int32))), (0, .ref (ad 0)), (1, .int a1), (2, .int (mo_nodeOf (Int32.toNatClampNeg a1))), (3, .int (mo_kinds (Int32.toNatClampNeg a1))), (4, .int x4_17), (6, .int x6_38)]) hx hb d_Mo_scoreLetters_237 hl (k := 5) rfl rfl (by decide) rfl (fun ls hl => ?_)
                  refine lv_goto (tgt := 26) hx hb d_Mo_scoreLetters_240 (by decide) ?_
                  exact ih26 (x5_26 + (1 : Int32)) (upd mo_emissions_26 (Int32.toNatClampNeg ((((16 : Int32) * a1) + ((4 : Int32) * x4_17)) + x5_26)) (0 : Int32)) _ _ _ hP hD hS (lv_sub hl [1, 2, 3, 4, 5, 0] rfl) hf
              have L38 : ∀ (n38 : Nat), ∀ (x6_38 : Int32) (x7_38 : Int32) (H : Heap) (locs : List Loc) (ls : Array Slot), va_P (dC, dI) classes (wY ty ad mo_rows mo_columns mo_marks mo_letters mo_mate mo_made mo_nodes mo_sort mo_from mo_to mo_begin mo_other mo_states mo_kinds mo_nodeOf mo_steps mo_emissions_26 mo_length mo_text mo_worked mo_values mo_hits mo_hitAt mo_hitLength mo_written mo_listState mo_listAt mo_listLength mo_stack) H → va_D A (wY ty ad mo_rows mo_columns mo_marks mo_letters mo_mate mo_made mo_nodes mo_sort mo_from mo_to mo_begin mo_other mo_states mo_kinds mo_nodeOf mo_steps mo_emissions_26 mo_length mo_text mo_worked mo_values mo_hits mo_hitAt mo_hitLength mo_written mo_listState mo_listAt mo_listLength mo_stack) → va_S A s.heap H locs → lv_has ls 10 [(0, .ref (ad 0)), (1, .int a1), (2, .int (mo_nodeOf (Int32.toNatClampNeg a1))), (3, .int (mo_kinds (Int32.toNatClampNeg a1))), (4, .int x4_17), (5, .int x5_26), (6, .int x6_38), (7, .int x7_38)] → f_Mo_scoreLetters_L38 mo_rows mo_letters mo_sort mo_from mo_to mo_kinds mo_nodeOf a1 x4_17 x5_26 (f_Mo_scoreLetters_K38_167 mo_rows mo_letters mo_sort mo_from mo_to mo_kinds mo_nodeOf a1 x4_17 x5_26 mo_emissions_26 (f_Mo_scoreLetters_L26 mo_rows mo_letters mo_sort mo_from mo_to mo_kinds mo_nodeOf a1 x4_17 (f_Mo_scoreLetters_K26_243 x4_17 (f_Mo_scoreLetters_L17 mo_rows mo_letters mo_sort mo_from mo_to mo_kinds mo_nodeOf a1 (f_Mo_scoreLetters_K17_249) n17)) n26)) n38 x6_38 x7_38 = some (n_mo_emissions) → W p l e rm_Mo_scoreLetters s m (List.toArray [.ref (ad 0), .int a1]) below meth c H locs 0 0 Q (F0 m 38 ls []) := by
                intro n38
                induction n38 with
                | zero =>
                  intro x6_38 x7_38 H locs ls hP hD hS hl hf
                  rw [f_Mo_scoreLetters_L38] at hf
                  cases hf
                | succ n38 ih38 =>
                  intro x6_38 x7_38 H locs ls hP hD hS hl hf
                  rw [f_Mo_scoreLetters_L38] at hf
                  refine lv_iload hx hb d_Mo_scoreLetters_38 (lv_at hl 7 rfl) ?_
                  refine lv_aload_n hx hb d_Mo_scoreLetters_40 rfl (lv_at hl 0 rfl) ?_
                  refine va_get (D := (dC, dI)) (ci := 8) (v := .int mo_rows) (C := R_Mo) (T := F_Mo) (N := 29) hx hb hts iw_Mo hown hK hP 0 rfl rfl 0 (by decide) (hts _ m_717) (fun _ h9 => h9) rfl d_Mo_scoreLetters_41 ?_
                  refine lv_icmp_ge (tgt := 167) hx hb d_Mo_scoreLetters_44 (by decide) (fun c5 => ?_) (fun c5 => ?_)
                  · have hf := xif_t c5 hf
                    exact K38_167 x6_38 x7_38 _ _ _ hP hD hS (lv_sub hl [0, 1, 2, 3, 4, 5, 6] rfl) hf
                  · have hf := xif_f c5 hf
                    refine lv_aload_n hx hb d_Mo_scoreLetters_47 rfl (lv_at hl 0 rfl) ?_
                    refine va_get (D := (dC, dI)) (ci := 8) (v := .ref (ad 2)) (C := R_Mo) (T := F_Mo) (N := 29) hx hb hts iw_Mo hown hK hP 0 rfl rfl 3 (by decide) (hts _ m_720) (fun _ h9 => h9) rfl d_Mo_scoreLetters_48 ?_
                    refine lv_bipush (v := 8) hx hb d_Mo_scoreLetters_51 (by decide) ?_
                    refine lv_iload hx hb d_Mo_scoreLetters_53 (lv_at hl 7 rfl) ?_
                    refine lv_imul hx hb d_Mo_scoreLetters_55 ?_
                    refine lv_iload_n hx hb d_Mo_scoreLetters_56 rfl (lv_at hl 3 rfl) ?_
                    refine lv_iconst (v := 3) hx hb d_Mo_scoreLetters_57 (by decide) ?_
                    have J76 : ∀ (t0_76 : Int32) (H : Heap) (locs : List Loc) (ls : Array Slot), va_P (dC, dI) classes (wY ty ad mo_rows mo_columns mo_marks mo_letters mo_mate mo_made mo_nodes mo_sort mo_from mo_to mo_begin mo_other mo_states mo_kinds mo_nodeOf mo_steps mo_emissions_26 mo_length mo_text mo_worked mo_values mo_hits mo_hitAt mo_hitLength mo_written mo_listState mo_listAt mo_listLength mo_stack) H → va_D A (wY ty ad mo_rows mo_columns mo_marks mo_letters mo_mate mo_made mo_nodes mo_sort mo_from mo_to mo_begin mo_other mo_states mo_kinds mo_nodeOf mo_steps mo_emissions_26 mo_length mo_text mo_worked mo_values mo_hits mo_hitAt mo_hitLength mo_written mo_listState mo_listAt mo_listLength mo_stack) → va_S A s.heap H locs → lv_has ls 10 [(0, .ref (ad 0)), (1, .int a1), (2, .int (mo_nodeOf (Int32.toNatClampNeg a1))), (3, .int (mo_kinds (Int32.toNatClampNeg a1))), (4, .int x4_17), (5, .int x5_26), (6, .int x6_38), (7, .int x7_38)] → f_Mo_scoreLetters_J76 mo_letters mo_sort mo_from mo_to mo_kinds mo_nodeOf a1 x4_17 x5_26 x6_38 x7_38 (f_Mo_scoreLetters_L38 mo_rows mo_letters mo_sort mo_from mo_to mo_kinds mo_nodeOf a1 x4_17 x5_26 (f_Mo_scoreLetters_K38_167 mo_rows mo_letters mo_sort mo_from mo_to mo_kinds mo_nodeOf a1 x4_17 x5_26 mo_emissions_26 (f_Mo_scoreLetters_L26 mo_rows mo_letters mo_sort mo_from mo_to mo_kinds mo_nodeOf a1 x4_17 (f_Mo_scoreLetters_K26_243 x4_17 (f_Mo_scoreLetters_L17 mo_rows mo_letters mo_sort mo_from mo_to mo_kinds mo_nodeOf a1 (f_Mo_scoreLetters_K17_249) n17)) n26)) n38) t0_76 = some (n_mo_emissions) → W p l e rm_Mo_scoreLetters s m (List.toArray [.ref (ad 0), .int a1]) below meth c H locs 0 0 Q (F0 m 76 ls [.int t0_76, .int ((8 : Int32) * x7_38), .ref (ad 2)]) := by
                      intro t0_76 H locs ls hP hD hS hl hf
                      rw [f_Mo_scoreLetters_J76] at hf
                      refine lv_iadd hx hb d_Mo_scoreLetters_76 ?_
                      obtain ⟨hi6, hf⟩ := gdi hf
                      refine va_iald hx hb hK hP 2 0 rfl rfl hi6 d_Mo_scoreLetters_77 ?_
                      refine lv_iload hx hb d_Mo_scoreLetters_78 (lv_at hl 4 rfl) ?_
                      have J88 : ∀ (t0_88 : Int32) (H : Heap) (locs : List Loc) (ls : Array Slot), va_P (dC, dI) classes (wY ty ad mo_rows mo_columns mo_marks mo_letters mo_mate mo_made mo_nodes mo_sort mo_from mo_to mo_begin mo_other mo_states mo_kinds mo_nodeOf mo_steps mo_emissions_26 mo_length mo_text mo_worked mo_values mo_hits mo_hitAt mo_hitLength mo_written mo_listState mo_listAt mo_listLength mo_stack) H → va_D A (wY ty ad mo_rows mo_columns mo_marks mo_letters mo_mate mo_made mo_nodes mo_sort mo_from mo_to mo_begin mo_other mo_states mo_kinds mo_nodeOf mo_steps mo_emissions_26 mo_length mo_text mo_worked mo_values mo_hits mo_hitAt mo_hitLength mo_written mo_listState mo_listAt mo_listLength mo_stack) → va_S A s.heap H locs → lv_has ls 10 [(0, .ref (ad 0)), (1, .int a1), (2, .int (mo_nodeOf (Int32.toNatClampNeg a1))), (3, .int (mo_kinds (Int32.toNatClampNeg a1))), (4, .int x4_17), (5, .int x5_26), (6, .int x6_38), (7, .int x7_38)] → f_Mo_scoreLetters_J88 mo_letters mo_sort mo_from mo_to mo_kinds mo_nodeOf a1 x5_26 x6_38 x7_38 (f_Mo_scoreLetters_L38 mo_rows mo_letters mo_sort mo_from mo_to mo_kinds mo_nodeOf a1 x4_17 x5_26 (f_Mo_scoreLetters_K38_167 mo_rows mo_letters mo_sort mo_from mo_to mo_kinds mo_nodeOf a1 x4_17 x5_26 mo_emissions_26 (f_Mo_scoreLetters_L26 mo_rows mo_letters mo_sort mo_from mo_to mo_kinds mo_nodeOf a1 x4_17 (f_Mo_scoreLetters_K26_243 x4_17 (f_Mo_scoreLetters_L17 mo_rows mo_letters mo_sort mo_from mo_to mo_kinds mo_nodeOf a1 (f_Mo_scoreLetters_K17_249) n17)) n26)) n38) t0_88 = some (n_mo_emissions) → W p l e rm_Mo_scoreLetters s m (List.toArray [.ref (ad 0), .int a1]) below meth c H locs 0 0 Q (F0 m 88 ls [.int t0_88]) := by
                        intro t0_88 H locs ls hP hD hS hl hf
                        rw [f_Mo_scoreLetters_J88] at hf
                        refine lv_istore (lv' := [(8, .int t0_88), (0, .ref (ad 0)), (1, .int a1), (2, .int (mo_nodeOf (Int32.toNatClampNeg a1))), (3, .int (mo_kinds (Int32.toNatClampNeg a1))), (4, .int x4_17), (5, .int x5_26), (6, .int x6_38), (7, .int x7_38)]) hx hb d_Mo_scoreLetters_88 hl (by decide) rfl (fun ls hl => ?_)
                        refine lv_iload_n hx hb d_Mo_scoreLetters_90 rfl (lv_at hl 4 rfl) ?_
                        refine lv_iconst (v := 1) hx hb d_Mo_scoreLetters_91 (by decide) ?_
                        have J132 : ∀ (t0_132 : Int32) (H : Heap) (locs : List Loc) (ls : Array Slot), va_P (dC, dI) classes (wY ty ad mo_rows mo_columns mo_marks mo_letters mo_mate mo_made mo_nodes mo_sort mo_from mo_to mo_begin mo_other mo_states mo_kinds mo_nodeOf mo_steps mo_emissions_26 mo_length mo_text mo_worked mo_values mo_hits mo_hitAt mo_hitLength mo_written mo_listState mo_listAt mo_listLength mo_stack) H → va_D A (wY ty ad mo_rows mo_columns mo_marks mo_letters mo_mate mo_made mo_nodes mo_sort mo_from mo_to mo_begin mo_other mo_states mo_kinds mo_nodeOf mo_steps mo_emissions_26 mo_length mo_text mo_worked mo_values mo_hits mo_hitAt mo_hitLength mo_written mo_listState mo_listAt mo_listLength mo_stack) → va_S A s.heap H locs → lv_has ls 10 [(0, .ref (ad 0)), (1, .int a1), (2, .int (mo_nodeOf (Int32.toNatClampNeg a1))), (3, .int (mo_kinds (Int32.toNatClampNeg a1))), (4, .int x4_17), (5, .int x5_26), (6, .int x6_38), (7, .int x7_38)] → f_Mo_scoreLetters_J132 mo_letters mo_sort mo_from mo_to mo_kinds mo_nodeOf a1 x6_38 x7_38 (f_Mo_scoreLetters_L38 mo_rows mo_letters mo_sort mo_from mo_to mo_kinds mo_nodeOf a1 x4_17 x5_26 (f_Mo_scoreLetters_K38_167 mo_rows mo_letters mo_sort mo_from mo_to mo_kinds mo_nodeOf a1 x4_17 x5_26 mo_emissions_26 (f_Mo_scoreLetters_L26 mo_rows mo_letters mo_sort mo_from mo_to mo_kinds mo_nodeOf a1 x4_17 (f_Mo_scoreLetters_K26_243 x4_17 (f_Mo_scoreLetters_L17 mo_rows mo_letters mo_sort mo_from mo_to mo_kinds mo_nodeOf a1 (f_Mo_scoreLetters_K17_249) n17)) n26)) n38) t0_132 = some (n_mo_emissions) → W p l e rm_Mo_scoreLetters s m (List.toArray [.ref (ad 0), .int a1]) below meth c H locs 0 0 Q (F0 m 132 ls [.int t0_132]) := by
                          intro t0_132 H locs ls hP hD hS hl hf
                          rw [f_Mo_scoreLetters_J132] at hf
                          refine lv_istore (lv' := [(9, .int t0_132), (0, .ref (ad 0)), (1, .int a1), (2, .int (mo_nodeOf (Int32.toNatClampNeg a1))), (3, .int (mo_kinds (Int32.toNatClampNeg a1))), (4, .int x4_17), (5, .int x5_26), (6, .int x6_38), (7, .int x7_38)]) hx hb d_Mo_scoreLetters_132 hl (by decide) rfl (fun ls hl => ?_)
                          refine lv_iload hx hb d_Mo_scoreLetters_134 (lv_at hl 0 rfl) ?_
                          refine lv_if_eq (tgt := 157) hx hb d_Mo_scoreLetters_136 (by decide) (fun c7 => ?_) (fun c7 => ?_)
                          · have hf := xif_t c7 hf
                            refine lv_iload hx hb d_Mo_scoreLetters_157 (lv_at hl 7 rfl) ?_
                            refine lv_istore (lv' := [(6, .int x6_38), (9, .int t0_132), (0, .ref (ad 0)), (1, .int a1), (2, .int (mo_nodeOf (Int32.toNatClampNeg a1))), (3, .int (mo_kinds (Int32.toNatClampNeg a1))), (4, .int x4_17), (5, .int x5_26), (7, .int x7_38)]) hx hb d_Mo_scoreLetters_159 hl (by decide) rfl (fun ls hl => ?_)
                            refine lv_iinc (v := (x7_38 + (1 : Int32))) (lv' := [(7, .int (x7_38 + (1 : Int32))), (6, .int x6_38), (9, .int t0_132), (0, .ref (ad 0)), (1, .int a1), (2, .int (mo_nodeOf (Int32.toNatClampNeg a1))), (3, .int (mo_kinds (Int32.toNatClampNeg a1))), (4, .int x4_17), (5, .int x5_26)]) hx hb d_Mo_scoreLetters_161 hl (k := 8) rfl rfl (by decide) rfl (fun ls hl => ?_)
                            refine lv_goto (tgt := 38) hx hb d_Mo_scoreLetters_164 (by decide) ?_
                            exact ih38 x6_38 (x7_38 + (1 : Int32)) _ _ _ hP hD hS (lv_sub hl [3, 4, 5, 6, 7, 8, 1, 0] rfl) hf
                          · have hf := xif_f c7 hf
                            refine lv_aload_n hx hb d_Mo_scoreLetters_139 rfl (lv_at hl 1 rfl) ?_
                            refine lv_iload hx hb d_Mo_scoreLetters_140 (lv_at hl 8 rfl) ?_
                            refine lv_iload_n hx hb d_Mo_scoreLetters_142 rfl (lv_at hl 3 rfl) ?_
                            obtain ⟨r8, hc9, hf⟩ := ob1_inv hf
                            refine xk_i (xrunV (C := R_Mo) (As := [.int x7_38, .int (mo_nodeOf (Int32.toNatClampNeg a1))]) (rest := []) ⟨hx, hb, hml, hown, hts⟩ (c_Mo_kindAt l dC dI ty ad ta H.size mo_rows mo_columns mo_marks mo_letters mo_mate mo_made mo_nodes mo_sort mo_from mo_to mo_begin mo_other mo_states mo_kinds mo_nodeOf mo_steps mo_emissions_26 mo_length mo_text mo_worked mo_values mo_hits mo_hitAt mo_hitLength mo_written mo_listState mo_listAt mo_listLength mo_stack x7_38 (mo_nodeOf (Int32.toNatClampNeg a1)) r8 hc9) z_Mo_115 ⟨⟨rfl, rfl⟩, by decide, by decide⟩ hK hP hD hN hS hA (va_recv hK hP (ci := 8) (q0 := 0) rfl rfl) rfl hl.1 rfl (Nat.le_of_ble_eq_true rfl) d_Mo_scoreLetters_143 ⟨Nat.zero_le _, Nat.zero_le _⟩) hS hD rfl hA (fun H locs hP hD hS => ?_)
                            refine W.eq (g2 := F0 m 146 ls [.int r8]) rfl ?_
                            refine lv_iload_n hx hb d_Mo_scoreLetters_146 rfl (lv_at hl 4 rfl) ?_
                            refine lv_icmp_ne (tgt := 157) hx hb d_Mo_scoreLetters_147 (by decide) (fun c10 => ?_) (fun c10 => ?_)
                            · have hf := xif_f c10 hf
                              refine lv_iload hx hb d_Mo_scoreLetters_157 (lv_at hl 7 rfl) ?_
                              refine lv_istore (lv' := [(6, .int x6_38), (9, .int t0_132), (0, .ref (ad 0)), (1, .int a1), (2, .int (mo_nodeOf (Int32.toNatClampNeg a1))), (3, .int (mo_kinds (Int32.toNatClampNeg a1))), (4, .int x4_17), (5, .int x5_26), (7, .int x7_38)]) hx hb d_Mo_scoreLetters_159 hl (by decide) rfl (fun ls hl => ?_)
                              refine lv_iinc (v := (x7_38 + (1 : Int32))) (lv' := [(7, .int (x7_38 + (1 : Int32))), (6, .int x6_38), (9, .int t0_132), (0, .ref (ad 0)), (1, .int a1), (2, .int (mo_nodeOf (Int32.toNatClampNeg a1))), (3, .int (mo_kinds (Int32.toNatClampNeg a1))), (4, .int x4_17), (5, .int x5_26)]) hx hb d_Mo_scoreLetters_161 hl (k := 8) rfl rfl (by decide) rfl (fun ls hl => ?_)
                              refine lv_goto (tgt := 38) hx hb d_Mo_scoreLetters_164 (by decide) ?_
                              exact ih38 x6_38 (x7_38 + (1 : Int32)) _ _ _ hP hD hS (lv_sub hl [3, 4, 5, 6, 7, 8, 1, 0] rfl) hf
                            · have hf := xif_t c10 hf
                              refine lv_iload hx hb d_Mo_scoreLetters_150 (lv_at hl 7 rfl) ?_
                              refine lv_iconst (v := 1) hx hb d_Mo_scoreLetters_152 (by decide) ?_
                              refine lv_iadd hx hb d_Mo_scoreLetters_153 ?_
                              refine lv_goto (tgt := 159) hx hb d_Mo_scoreLetters_154 (by decide) ?_
                              refine lv_istore (lv' := [(6, .int (x6_38 + (1 : Int32))), (9, .int t0_132), (0, .ref (ad 0)), (1, .int a1), (2, .int (mo_nodeOf (Int32.toNatClampNeg a1))), (3, .int (mo_kinds (Int32.toNatClampNeg a1))), (4, .int x4_17), (5, .int x5_26), (7, .int x7_38)]) hx hb d_Mo_scoreLetters_159 hl (by decide) rfl (fun ls hl => ?_)
                              refine lv_iinc (v := (x7_38 + (1 : Int32))) (lv' := [(7, .int (x7_38 + (1 : Int32))), (6, .int (x6_38 + (1 : Int32))), (9, .int t0_132), (0, .ref (ad 0)), (1, .int a1), (2, .int (mo_nodeOf (Int32.toNatClampNeg a1))), (3, .int (mo_kinds (Int32.toNatClampNeg a1))), (4, .int x4_17), (5, .int x5_26)]) hx hb d_Mo_scoreLetters_161 hl (k := 8) rfl rfl (by decide) rfl (fun ls hl => ?_)
                              refine lv_goto (tgt := 38) hx hb d_Mo_scoreLetters_164 (by decide) ?_
                              exact ih38 (x6_38 + (1 : Int32)) (x7_38 + (1 : Int32)) _ _ _ hP hD hS (lv_sub hl [3, 4, 5, 6, 7, 8, 1, 0] rfl) hf
                        refine lv_icmp_ne (tgt := 130) hx hb d_Mo_scoreLetters_92 (by decide) (fun c11 => ?_) (fun c11 => ?_)
                        · have hf := xif_f c11 hf
                          refine lv_iload hx hb d_Mo_scoreLetters_130 (lv_at hl 0 rfl) ?_
                          exact J132 t0_88 _ _ _ hP hD hS (lv_sub hl [1, 2, 3, 4, 5, 6, 7, 8] rfl) hf
                        · have hf := xif_t c11 hf
                          refine lv_iload hx hb d_Mo_scoreLetters_95 (lv_at hl 0 rfl) ?_
                          have J126 : ∀  (H : Heap) (locs : List Loc) (ls : Array Slot), va_P (dC, dI) classes (wY ty ad mo_rows mo_columns mo_marks mo_letters mo_mate mo_made mo_nodes mo_sort mo_from mo_to mo_begin mo_other mo_states mo_kinds mo_nodeOf mo_steps mo_emissions_26 mo_length mo_text mo_worked mo_values mo_hits mo_hitAt mo_hitLength mo_written mo_listState mo_listAt mo_listLength mo_stack) H → va_D A (wY ty ad mo_rows mo_columns mo_marks mo_letters mo_mate mo_made mo_nodes mo_sort mo_from mo_to mo_begin mo_other mo_states mo_kinds mo_nodeOf mo_steps mo_emissions_26 mo_length mo_text mo_worked mo_values mo_hits mo_hitAt mo_hitLength mo_written mo_listState mo_listAt mo_listLength mo_stack) → va_S A s.heap H locs → lv_has ls 10 [(0, .ref (ad 0)), (1, .int a1), (2, .int (mo_nodeOf (Int32.toNatClampNeg a1))), (3, .int (mo_kinds (Int32.toNatClampNeg a1))), (4, .int x4_17), (5, .int x5_26), (6, .int x6_38), (7, .int x7_38)] → f_Mo_scoreLetters_J126 mo_letters mo_sort mo_from mo_to mo_kinds mo_nodeOf a1 x6_38 x7_38 (f_Mo_scoreLetters_L38 mo_rows mo_letters mo_sort mo_from mo_to mo_kinds mo_nodeOf a1 x4_17 x5_26 (f_Mo_scoreLetters_K38_167 mo_rows mo_letters mo_sort mo_from mo_to mo_kinds mo_nodeOf a1 x4_17 x5_26 mo_emissions_26 (f_Mo_scoreLetters_L26 mo_rows mo_letters mo_sort mo_from mo_to mo_kinds mo_nodeOf a1 x4_17 (f_Mo_scoreLetters_K26_243 x4_17 (f_Mo_scoreLetters_L17 mo_rows mo_letters mo_sort mo_from mo_to mo_kinds mo_nodeOf a1 (f_Mo_scoreLetters_K17_249) n17)) n26)) n38) = some (n_mo_emissions) → W p l e rm_Mo_scoreLetters s m (List.toArray [.ref (ad 0), .int a1]) below meth c H locs 0 0 Q (F0 m 126 ls []) := by
                            intro  H locs ls hP hD hS hl hf
                            rw [f_Mo_scoreLetters_J126] at hf
                            refine lv_iconst (v := 0) hx hb d_Mo_scoreLetters_126 (by decide) ?_
                            refine lv_goto (tgt := 132) hx hb d_Mo_scoreLetters_127 (by decide) ?_
                            exact J132 (0 : Int32) _ _ _ hP hD hS (lv_sub hl [0, 1, 2, 3, 4, 5, 6, 7] rfl) hf
                          refine lv_if_eq (tgt := 126) hx hb d_Mo_scoreLetters_97 (by decide) (fun c12 => ?_) (fun c12 => ?_)
                          · have hf := xif_t c12 hf
                            exact J126  _ _ _ hP hD hS (lv_sub hl [1, 2, 3, 4, 5, 6, 7, 8] rfl) hf
                          · have hf := xif_f c12 hf
                            refine lv_aload_n hx hb d_Mo_scoreLetters_100 rfl (lv_at hl 1 rfl) ?_
                            refine va_get (D := (dC, dI)) (ci := 8) (v := .ref (ad 2)) (C := R_Mo) (T := F_Mo) (N := 29) hx hb hts iw_Mo hown hK hP 0 rfl rfl 3 (by decide) (hts _ m_720) (fun _ h9 => h9) rfl d_Mo_scoreLetters_101 ?_
                            refine lv_bipush (v := 8) hx hb d_Mo_scoreLetters_104 (by decide) ?_
                            refine lv_iload hx hb d_Mo_scoreLetters_106 (lv_at hl 8 rfl) ?_
                            refine lv_imul hx hb d_Mo_scoreLetters_108 ?_
                            refine lv_aload_n hx hb d_Mo_scoreLetters_109 rfl (lv_at hl 1 rfl) ?_
                            refine va_get (D := (dC, dI)) (ci := 8) (v := .ref (ad 6)) (C := R_Mo) (T := F_Mo) (N := 29) hx hb hts iw_Mo hown hK hP 0 rfl rfl 9 (by decide) (hts _ m_726) (fun _ h9 => h9) rfl d_Mo_scoreLetters_110 ?_
                            refine lv_iload_n hx hb d_Mo_scoreLetters_113 rfl (lv_at hl 3 rfl) ?_
                            obtain ⟨hi13, hf⟩ := gdi hf
                            refine va_iald hx hb hK hP 6 0 rfl rfl hi13 d_Mo_scoreLetters_114 ?_
                            refine lv_iadd hx hb d_Mo_scoreLetters_115 ?_
                            obtain ⟨hi14, hf⟩ := gdi hf
                            refine va_iald hx hb hK hP 2 0 rfl rfl hi14 d_Mo_scoreLetters_116 ?_
                            refine lv_iload hx hb d_Mo_scoreLetters_117 (lv_at hl 6 rfl) ?_
                            refine lv_icmp_ne (tgt := 126) hx hb d_Mo_scoreLetters_119 (by decide) (fun c15 => ?_) (fun c15 => ?_)
                            · have hf := xif_f c15 hf
                              exact J126  _ _ _ hP hD hS (lv_sub hl [1, 2, 3, 4, 5, 6, 7, 8] rfl) hf
                            · have hf := xif_t c15 hf
                              refine lv_iconst (v := 1) hx hb d_Mo_scoreLetters_122 (by decide) ?_
                              refine lv_goto (tgt := 132) hx hb d_Mo_scoreLetters_123 (by decide) ?_
                              exact J132 (1 : Int32) _ _ _ hP hD hS (lv_sub hl [1, 2, 3, 4, 5, 6, 7, 8] rfl) hf
                      refine lv_icmp_ne (tgt := 87) hx hb d_Mo_scoreLetters_80 (by decide) (fun c16 => ?_) (fun c16 => ?_)
                      · have hf := xif_f c16 hf
                        refine lv_iconst (v := 0) hx hb d_Mo_scoreLetters_87 (by decide) ?_
                        exact J88 (0 : Int32) _ _ _ hP hD hS (lv_sub hl [0, 1, 2, 3, 4, 5, 6, 7] rfl) hf
                      · have hf := xif_t c16 hf
                        refine lv_iconst (v := 1) hx hb d_Mo_scoreLetters_83 (by decide) ?_
                        refine lv_goto (tgt := 88) hx hb d_Mo_scoreLetters_84 (by decide) ?_
                        exact J88 (1 : Int32) _ _ _ hP hD hS (lv_sub hl [0, 1, 2, 3, 4, 5, 6, 7] rfl) hf
                    refine lv_icmp_ne (tgt := 70) hx hb d_Mo_scoreLetters_58 (by decide) (fun c17 => ?_) (fun c17 => ?_)
                    · have hf := xif_f c17 hf
                      refine lv_aload_n hx hb d_Mo_scoreLetters_70 rfl (lv_at hl 0 rfl) ?_
                      refine va_get (D := (dC, dI)) (ci := 8) (v := .ref (ad 5)) (C := R_Mo) (T := F_Mo) (N := 29) hx hb hts iw_Mo hown hK hP 0 rfl rfl 8 (by decide) (hts _ m_725) (fun _ h9 => h9) rfl d_Mo_scoreLetters_71 ?_
                      refine lv_iload_n hx hb d_Mo_scoreLetters_74 rfl (lv_at hl 2 rfl) ?_
                      obtain ⟨hi18, hf⟩ := gdi hf
                      refine va_iald hx hb hK hP 5 0 rfl rfl hi18 d_Mo_scoreLetters_75 ?_
                      exact J76 (mo_from (Int32.toNatClampNeg (mo_nodeOf (Int32.toNatClampNeg a1)))) _ _ _ hP hD hS (lv_sub hl [0, 1, 2, 3, 4, 5, 6, 7] rfl) hf
                    · have hf := xif_t c17 hf
                      refine lv_aload_n hx hb d_Mo_scoreLetters_61 rfl (lv_at hl 0 rfl) ?_
                      refine va_get (D := (dC, dI)) (ci := 8) (v := .ref (ad 6)) (C := R_Mo) (T := F_Mo) (N := 29) hx hb hts iw_Mo hown hK hP 0 rfl rfl 9 (by decide) (hts _ m_726) (fun _ h9 => h9) rfl d_Mo_scoreLetters_62 ?_
                      refine lv_iload_n hx hb d_Mo_scoreLetters_65 rfl (lv_at hl 2 rfl) ?_
                      obtain ⟨hi19, hf⟩ := gdi hf
                      refine va_iald hx hb hK hP 6 0 rfl rfl hi19 d_Mo_scoreLetters_66 ?_
                      refine lv_goto (tgt := 76) hx hb d_Mo_scoreLetters_67 (by decide) ?_
                      exact J76 (mo_to (Int32.toNatClampNeg (mo_nodeOf (Int32.toNatClampNeg a1)))) _ _ _ hP hD hS (lv_sub hl [0, 1, 2, 3, 4, 5, 6, 7] rfl) hf
              exact L38 1000 (0 : Int32) (0 : Int32) _ _ _ hP hD hS (lv_sub hl [2, 3, 4, 5, 6, 7, 1, 0] rfl) hf
        exact L26 1000 (0 : Int32) mo_emissions_17 _ _ _ hP hD hS (lv_sub hl [1, 2, 3, 4, 5, 0] rfl) hf
  exact L17 1000 (0 : Int32) mo_emissions _ _ _ hP hD hS (lv_sub hl [3, 4, 2, 1, 0] rfl) hf
