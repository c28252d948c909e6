/-! pure functions and contracts of Mo_targetOf, Mo_eighth, Mo_log (written by wip/gen) -/
def f_Mo_targetOf_J187 (x5_82 : Int32) (x6_82 : Int32) (rec82 : (Int32 → Int32 → Option (Int32))) (t0_172 : Int32)  : Option (Int32) := if t0_172 = (0 : Int32) then (rec82 x5_82 (x6_82 + (1 : Int32))) else (rec82 (x5_82 - (1 : Int32)) (x6_82 + (1 : Int32)))
def f_Mo_targetOf_J172 (x5_82 : Int32) (x6_82 : Int32) (rec82 : (Int32 → Int32 → Option (Int32))) (t0_172 : Int32) : Option (Int32) := if t0_172 = (0 : Int32) then (f_Mo_targetOf_J187 x5_82 x6_82 rec82 t0_172) else (if x5_82 = (0 : Int32) then (some (x6_82)) else (f_Mo_targetOf_J187 x5_82 x6_82 rec82 t0_172))
def f_Mo_targetOf_J150 (x5_82 : Int32) (x6_82 : Int32) (rec82 : (Int32 → Int32 → Option (Int32)))  : Option (Int32) := f_Mo_targetOf_J172 x5_82 x6_82 rec82 (0 : Int32)
def f_Mo_targetOf_J146 (x5_82 : Int32) (x6_82 : Int32) (rec82 : (Int32 → Int32 → Option (Int32)))  : Option (Int32) := f_Mo_targetOf_J172 x5_82 x6_82 rec82 (1 : Int32)
def f_Mo_targetOf_J113 (mo_kinds : (Nat → Int32)) (a1 : Int32) (x5_82 : Int32) (x6_82 : Int32) (rec82 : (Int32 → Int32 → Option (Int32))) (t0_113 : Int32) : Option (Int32) := if t0_113 = (0 : Int32) then (gd (xin x6_82 48) (ob1 (f_Mo_inserts (mo_kinds (Int32.toNatClampNeg x6_82))) (fun r15 => if r15 = (0 : Int32) then (f_Mo_targetOf_J172 x5_82 x6_82 rec82 (1 : Int32)) else (f_Mo_targetOf_J172 x5_82 x6_82 rec82 (0 : Int32))))) else (gd (xin x6_82 48) (ob1 (f_Mo_inserts (mo_kinds (Int32.toNatClampNeg x6_82))) (fun r19 => if r19 = (0 : Int32) then (f_Mo_targetOf_J150 x5_82 x6_82 rec82) else (if (mo_kinds (Int32.toNatClampNeg a1)) = (6 : Int32) then (if x6_82 = a1 then (f_Mo_targetOf_J146 x5_82 x6_82 rec82) else (f_Mo_targetOf_J150 x5_82 x6_82 rec82)) else (f_Mo_targetOf_J146 x5_82 x6_82 rec82)))))
def f_Mo_targetOf_K82_209  (x5_82 : Int32) (x6_82 : Int32) : Option (Int32) := some ((-1 : Int32))
def f_Mo_targetOf_L82 (mo_begin : (Nat → Int32)) (mo_kinds : (Nat → Int32)) (mo_nodeOf : (Nat → Int32)) (a1 : Int32) (k82_209 : (Int32 → Int32 → Option (Int32))) : Nat → Int32 → Int32 → Option (Int32)
  | 0, _, _ => none
  | n82 + 1, x5_82, x6_82 => gd (xin ((mo_nodeOf (Int32.toNatClampNeg a1)) + (2 : Int32)) 25) (if (mo_begin (Int32.toNatClampNeg ((mo_nodeOf (Int32.toNatClampNeg a1)) + (2 : Int32)))) ≤ x6_82 then (k82_209 x5_82 x6_82) else (gd (xin ((mo_nodeOf (Int32.toNatClampNeg a1)) + (1 : Int32)) 25) (if (mo_begin (Int32.toNatClampNeg ((mo_nodeOf (Int32.toNatClampNeg a1)) + (1 : Int32)))) ≤ x6_82 then (f_Mo_targetOf_J113 mo_kinds a1 x5_82 x6_82 (f_Mo_targetOf_L82 mo_begin mo_kinds mo_nodeOf a1 k82_209 n82) (0 : Int32)) else (f_Mo_targetOf_J113 mo_kinds a1 x5_82 x6_82 (f_Mo_targetOf_L82 mo_begin mo_kinds mo_nodeOf a1 k82_209 n82) (1 : Int32)))))
def f_Mo_targetOf (mo_begin : (Nat → Int32)) (mo_other : (Nat → Int32)) (mo_kinds : (Nat → Int32)) (mo_nodeOf : (Nat → Int32)) (a1 : Int32) (a2 : Int32) : Option (Int32) := gd (xin a1 48) (gd (xin a1 48) (if (mo_kinds (Int32.toNatClampNeg a1)) = (8 : Int32) then (some ((-1 : Int32))) else (if (0 : Int32) ≤ a2 then (if (mo_kinds (Int32.toNatClampNeg a1)) = (7 : Int32) then (if a2 = (0 : Int32) then (gd (xin ((mo_nodeOf (Int32.toNatClampNeg a1)) + (1 : Int32)) 25) (some ((mo_begin (Int32.toNatClampNeg ((mo_nodeOf (Int32.toNatClampNeg a1)) + (1 : Int32))))))) else (if a2 = (1 : Int32) then (gd (xin (mo_nodeOf (Int32.toNatClampNeg a1)) 24) (gd (xin (mo_other (Int32.toNatClampNeg (mo_nodeOf (Int32.toNatClampNeg a1)))) 25) (some ((mo_begin (Int32.toNatClampNeg (mo_other (Int32.toNatClampNeg (mo_nodeOf (Int32.toNatClampNeg a1)))))))))) else (some ((-1 : Int32))))) else (gd (xin (mo_nodeOf (Int32.toNatClampNeg a1)) 25) (f_Mo_targetOf_L82 mo_begin mo_kinds mo_nodeOf a1 (f_Mo_targetOf_K82_209) 1000 a2 (mo_begin (Int32.toNatClampNeg (mo_nodeOf (Int32.toNatClampNeg a1))))))) else (some ((-1 : Int32))))))
set_option maxHeartbeats 4000000 in
set_option maxRecDepth 100000 in
theorem c_Mo_targetOf (l : Launch) (dC : Nat → ClassId) (dI : Nat → Nat → Nat) (ty : Nat → ClassId) (ad : Nat → Nat) (ta : Nat → Nat) (sz : Nat) (mo_rows : Int32) (mo_columns : Int32) (mo_marks : (Nat → Int32)) (mo_letters : (Nat → Int32)) (mo_mate : (Nat → Int32)) (mo_made : Int32) (mo_nodes : Int32) (mo_sort : (Nat → Int32)) (mo_from : (Nat → Int32)) (mo_to : (Nat → Int32)) (mo_begin : (Nat → Int32)) (mo_other : (Nat → Int32)) (mo_states : Int32) (mo_kinds : (Nat → Int32)) (mo_nodeOf : (Nat → Int32)) (mo_steps : (Nat → Int32)) (mo_emissions : (Nat → Int32)) (mo_length : Int32) (mo_text : (Nat → Int32)) (mo_worked : Int32) (mo_values : (Nat → Int32)) (mo_hits : Int32) (mo_hitAt : (Nat → Int32)) (mo_hitLength : (Nat → Int32)) (mo_written : Int32) (mo_listState : (Nat → Int32)) (mo_listAt : (Nat → Int32)) (mo_listLength : (Nat → Int32)) (mo_stack : (Nat → Int32)) (a1 : Int32) (a2 : Int32) (r0 : Int32) (hf : f_Mo_targetOf mo_begin mo_other mo_kinds mo_nodeOf a1 a2 = some (r0)) : Met l y_Mo_targetOf (.code y_Mo_targetOf prog_10_method_12_code 9 (some .int) :: gw) rm_Mo_targetOf (xPre ta (dC, dI) classes (tys3 ty) (wY ty ad mo_rows mo_columns mo_marks mo_letters mo_mate mo_made mo_nodes mo_sort mo_from mo_to mo_begin mo_other mo_states mo_kinds mo_nodeOf mo_steps mo_emissions mo_length mo_text mo_worked mo_values mo_hits mo_hitAt mo_hitLength mo_written mo_listState mo_listAt mo_listLength mo_stack) sz [.ref (ad 0), .int a1, .int a2]) (xQi (dC, dI) classes (wY ty ad mo_rows mo_columns mo_marks mo_letters mo_mate mo_made mo_nodes mo_sort mo_from mo_to mo_begin mo_other mo_states mo_kinds mo_nodeOf mo_steps mo_emissions mo_length mo_text mo_worked mo_values mo_hits mo_hitAt mo_hitLength mo_written mo_listState mo_listAt mo_listLength mo_stack) (wY ty ad mo_rows mo_columns mo_marks mo_letters mo_mate mo_made mo_nodes mo_sort mo_from mo_to mo_begin mo_other mo_states mo_kinds mo_nodeOf mo_steps mo_emissions mo_length mo_text mo_worked mo_values mo_hits mo_hitAt mo_hitLength mo_written mo_listState mo_listAt mo_listLength mo_stack) sz r0) 0 0 (va_A (wY ty ad mo_rows mo_columns mo_marks mo_letters mo_mate mo_made mo_nodes mo_sort mo_from mo_to mo_begin mo_other mo_states mo_kinds mo_nodeOf mo_steps mo_emissions mo_length mo_text mo_worked mo_values mo_hits mo_hitAt mo_hitLength mo_written mo_listState mo_listAt mo_listLength mo_stack) sz) := by
  refine xmet_i rfl (Nat.le_of_ble_eq_true rfl) ?_
  intro p e s m below meth c A ls Q hx hb hml hts hown hK hN hA hP hD hS hl hret
  replace hown : s.vm.findClass R_Mo = some m.cls := hown
  have hl : lv_has ls 9 [(0, .ref (ad 0)), (1, .int a1), (2, .int a2)] := hl
  rw [f_Mo_targetOf] at hf
  obtain ⟨H, eH⟩ : ∃ H : Heap, H = s.heap := ⟨_, rfl⟩
  obtain ⟨locs, eL⟩ : ∃ L : List Loc, L = [] := ⟨_, rfl⟩
  have hP : va_P (dC, dI) classes (wY ty ad mo_rows mo_columns mo_marks mo_letters mo_mate mo_made mo_nodes mo_sort mo_from mo_to mo_begin mo_other mo_states mo_kinds mo_nodeOf mo_steps mo_emissions mo_length mo_text mo_worked mo_values mo_hits mo_hitAt mo_hitLength mo_written mo_listState mo_listAt mo_listLength mo_stack) H := by rw [eH]; exact hP
  have hS : va_S A s.heap H locs := by rw [eH, eL]; exact hS
  rw [← eL]
  suffices hgoal : W p l e rm_Mo_targetOf s m (List.toArray [.ref (ad 0), .int a1, .int a2]) below meth c H locs 0 0 Q (F0 m 0 ls []) by rw [eH] at hgoal; exact hgoal
  clear eH eL
  refine lv_aload_n hx hb d_Mo_targetOf_0 rfl (lv_at hl 0 rfl) ?_
  refine va_get (D := (dC, dI)) (ci := 8) (v := .ref (ad 10)) (C := R_Mo) (T := F_Mo) (N := 29) hx hb hts iw_Mo hown hK hP 0 rfl rfl 14 (by decide) (hts _ m_731) (fun _ h9 => h9) rfl d_Mo_targetOf_1 ?_
  refine lv_iload_n hx hb d_Mo_targetOf_4 rfl (lv_at hl 1 rfl) ?_
  obtain ⟨hi1, hf⟩ := gdi hf
  refine va_iald hx hb hK hP 10 0 rfl rfl hi1 d_Mo_targetOf_5 ?_
  refine lv_istore_n (lv' := [(3, .int (mo_nodeOf (Int32.toNatClampNeg a1))), (0, .ref (ad 0)), (1, .int a1), (2, .int a2)]) hx hb d_Mo_targetOf_6 rfl hl (by decide) rfl (fun ls hl => ?_)
  refine lv_aload_n hx hb d_Mo_targetOf_7 rfl (lv_at hl 1 rfl) ?_
  refine va_get (D := (dC, dI)) (ci := 8) (v := .ref (ad 9)) (C := R_Mo) (T := F_Mo) (N := 29) hx hb hts iw_Mo hown hK hP 0 rfl rfl 13 (by decide) (hts _ m_730) (fun _ h9 => h9) rfl d_Mo_targetOf_8 ?_
  refine lv_iload_n hx hb d_Mo_targetOf_11 rfl (lv_at hl 2 rfl) ?_
  obtain ⟨hi2, hf⟩ := gdi hf
  refine va_iald hx hb hK hP 9 0 rfl rfl hi2 d_Mo_targetOf_12 ?_
  refine lv_istore (lv' := [(4, .int (mo_kinds (Int32.toNatClampNeg a1))), (3, .int (mo_nodeOf (Int32.toNatClampNeg a1))), (0, .ref (ad 0)), (1, .int a1), (2, .int a2)]) hx hb d_Mo_targetOf_13 hl (by decide) rfl (fun ls hl => ?_)
  refine lv_iload hx hb d_Mo_targetOf_15 (lv_at hl 0 rfl) ?_
  refine lv_bipush (v := 8) hx hb d_Mo_targetOf_17 (by decide) ?_
  refine lv_icmp_eq (tgt := 26) hx hb d_Mo_targetOf_19 (by decide) (fun c3 => ?_) (fun c3 => ?_)
  · have hf := xif_t c3 hf
    refine lv_iconst (v := -1) hx hb d_Mo_targetOf_26 (by decide) ?_
    obtain rfl := os1 hf
    exact hret H locs _ _ _ d_Mo_targetOf_27 rfl hP hS
  · have hf := xif_f c3 hf
    refine lv_iload_n hx hb d_Mo_targetOf_22 rfl (lv_at hl 4 rfl) ?_
    refine lv_if_ge (tgt := 28) hx hb d_Mo_targetOf_23 (by decide) (fun c4 => ?_) (fun c4 => ?_)
    · have hf := xif_t c4 hf
      refine lv_iload hx hb d_Mo_targetOf_28 (lv_at hl 0 rfl) ?_
      refine lv_bipush (v := 7) hx hb d_Mo_targetOf_30 (by decide) ?_
      refine lv_icmp_ne (tgt := 71) hx hb d_Mo_targetOf_32 (by decide) (fun c5 => ?_) (fun c5 => ?_)
      · have hf := xif_f c5 hf
        refine lv_iload_n hx hb d_Mo_targetOf_71 rfl (lv_at hl 4 rfl) ?_
        refine lv_istore (lv' := [(5, .int a2), (4, .int (mo_kinds (Int32.toNatClampNeg a1))), (3, .int (mo_nodeOf (Int32.toNatClampNeg a1))), (0, .ref (ad 0)), (1, .int a1), (2, .int a2)]) hx hb d_Mo_targetOf_72 hl (by decide) rfl (fun ls hl => ?_)
        refine lv_aload_n hx hb d_Mo_targetOf_74 rfl (lv_at hl 3 rfl) ?_
        refine va_get (D := (dC, dI)) (ci := 8) (v := .ref (ad 7)) (C := R_Mo) (T := F_Mo) (N := 29) hx hb hts iw_Mo hown hK hP 0 rfl rfl 10 (by decide) (hts _ m_727) (fun _ h9 => h9) rfl d_Mo_targetOf_75 ?_
        refine lv_iload_n hx hb d_Mo_targetOf_78 rfl (lv_at hl 2 rfl) ?_
        obtain ⟨hi6, hf⟩ := gdi hf
        refine va_iald hx hb hK hP 7 0 rfl rfl hi6 d_Mo_targetOf_79 ?_
        refine lv_istore (lv' := [(6, .int (mo_begin (Int32.toNatClampNeg (mo_nodeOf (Int32.toNatClampNeg a1))))), (5, .int a2), (4, .int (mo_kinds (Int32.toNatClampNeg a1))), (3, .int (mo_nodeOf (Int32.toNatClampNeg a1))), (0, .ref (ad 0)), (1, .int a1), (2, .int a2)]) hx hb d_Mo_targetOf_80 hl (by decide) rfl (fun ls hl => ?_)
        have K82_209 : ∀ (x5_82 : Int32) (x6_82 : Int32) (H : Heap) (locs : List Loc) (ls : Array Slot), va_P (dC, dI) classes (wY ty ad mo_rows mo_columns mo_marks mo_letters mo_mate mo_made mo_nodes mo_sort mo_from mo_to mo_begin mo_other mo_states mo_kinds mo_nodeOf mo_steps mo_emissions mo_length mo_text mo_worked mo_values mo_hits mo_hitAt mo_hitLength mo_written mo_listState mo_listAt mo_listLength mo_stack) H → va_D A (wY ty ad mo_rows mo_columns mo_marks mo_letters mo_mate mo_made mo_nodes mo_sort mo_from mo_to mo_begin mo_other mo_states mo_kinds mo_nodeOf mo_steps mo_emissions mo_length mo_text mo_worked mo_values mo_hits mo_hitAt mo_hitLength mo_written mo_listState mo_listAt mo_listLength mo_stack) → va_S A s.heap H locs → lv_has ls 9 [] → f_Mo_targetOf_K82_209 x5_82 x6_82 = some (r0) → W p l e rm_Mo_targetOf s m (List.toArray [.ref (ad 0), .int a1, .int a2]) below meth c H locs 0 0 Q (F0 m 209 ls []) := by
          intro x5_82 x6_82 H locs ls hP hD hS hl hf
          rw [f_Mo_targetOf_K82_209] at hf
          refine lv_iconst (v := -1) hx hb d_Mo_targetOf_209 (by decide) ?_
          obtain rfl := os1 hf
          exact hret H locs _ _ _ d_Mo_targetOf_210 rfl hP hS
        have L82 : ∀ (n82 : Nat), ∀ (x5_82 : Int32) (x6_82 : Int32) (H : Heap) (locs : List Loc) (ls : Array Slot), va_P (dC, dI) classes (wY ty ad mo_rows mo_columns mo_marks mo_letters mo_mate mo_made mo_nodes mo_sort mo_from mo_to mo_begin mo_other mo_states mo_kinds mo_nodeOf mo_steps mo_emissions mo_length mo_text mo_worked mo_values mo_hits mo_hitAt mo_hitLength mo_written mo_listState mo_listAt mo_listLength mo_stack) H → va_D A (wY ty ad mo_rows mo_columns mo_marks mo_letters mo_mate mo_made mo_nodes mo_sort mo_from mo_to mo_begin mo_other mo_states mo_kinds mo_nodeOf mo_steps mo_emissions mo_length mo_text mo_worked mo_values mo_hits mo_hitAt mo_hitLength mo_written mo_listState mo_listAt mo_listLength mo_stack) → va_S A s.heap H locs → lv_has ls 9 [(0, .ref (ad 0)), (1, .int a1), (3, .int (mo_nodeOf (Int32.toNatClampNeg a1))), (4, .int (mo_kinds (Int32.toNatClampNeg a1))), (5, .int x5_82), (6, .int x6_82)] → f_Mo_targetOf_L82 mo_begin mo_kinds mo_nodeOf a1 (f_Mo_targetOf_K82_209) n82 x5_82 x6_82 = some (r0) → W p l e rm_Mo_targetOf s m (List.toArray [.ref (ad 0), .int a1, .int a2]) below meth c H locs 0 0 Q (F0 m 82 ls []) := by
          intro n82
          induction n82 with
          | zero =>
            intro x5_82 x6_82 H locs ls hP hD hS hl hf
            rw [f_Mo_targetOf_L82] at hf
            cases hf
          | succ n82 ih82 =>
            intro x5_82 x6_82 H locs ls hP hD hS hl hf
            rw [f_Mo_targetOf_L82] at hf
            refine lv_iload hx hb d_Mo_targetOf_82 (lv_at hl 5 rfl) ?_
            refine lv_aload_n hx hb d_Mo_targetOf_84 rfl (lv_at hl 0 rfl) ?_
            refine va_get (D := (dC, dI)) (ci := 8) (v := .ref (ad 7)) (C := R_Mo) (T := F_Mo) (N := 29) hx hb hts iw_Mo hown hK hP 0 rfl rfl 10 (by decide) (hts _ m_727) (fun _ h9 => h9) rfl d_Mo_targetOf_85 ?_
            refine lv_iload_n hx hb d_Mo_targetOf_88 rfl (lv_at hl 2 rfl) ?_
            refine lv_iconst (v := 2) hx hb d_Mo_targetOf_89 (by decide) ?_
            refine lv_iadd hx hb d_Mo_targetOf_90 ?_
            obtain ⟨hi7, hf⟩ := gdi hf
            refine va_iald hx hb hK hP 7 0 rfl rfl hi7 d_Mo_targetOf_91 ?_
            refine lv_icmp_ge (tgt := 209) hx hb d_Mo_targetOf_92 (by decide) (fun c8 => ?_) (fun c8 => ?_)
            · have hf := xif_t c8 hf
              exact K82_209 x5_82 x6_82 _ _ _ hP hD hS (lv_sub hl [] rfl) hf
            · have hf := xif_f c8 hf
              refine lv_iload hx hb d_Mo_targetOf_95 (lv_at hl 5 rfl) ?_
              refine lv_aload_n hx hb d_Mo_targetOf_97 rfl (lv_at hl 0 rfl) ?_
              refine va_get (D := (dC, dI)) (ci := 8) (v := .ref (ad 7)) (C := R_Mo) (T := F_Mo) (N := 29) hx hb hts iw_Mo hown hK hP 0 rfl rfl 10 (by decide) (hts _ m_727) (fun _ h9 => h9) rfl d_Mo_targetOf_98 ?_
              refine lv_iload_n hx hb d_Mo_targetOf_101 rfl (lv_at hl 2 rfl) ?_
              refine lv_iconst (v := 1) hx hb d_Mo_targetOf_102 (by decide) ?_
              refine lv_iadd hx hb d_Mo_targetOf_103 ?_
              obtain ⟨hi9, hf⟩ := gdi hf
              refine va_iald hx hb hK hP 7 0 rfl rfl hi9 d_Mo_targetOf_104 ?_
              have J113 : ∀ (t0_113 : Int32) (H : Heap) (locs : List Loc) (ls : Array Slot), va_P (dC, dI) classes (wY ty ad mo_rows mo_columns mo_marks mo_letters mo_mate mo_made mo_nodes mo_sort mo_from mo_to mo_begin mo_other mo_states mo_kinds mo_nodeOf mo_steps mo_emissions mo_length mo_text mo_worked mo_values mo_hits mo_hitAt mo_hitLength mo_written mo_listState mo_listAt mo_listLength mo_stack) H → va_D A (wY ty ad mo_rows mo_columns mo_marks mo_letters mo_mate mo_made mo_nodes mo_sort mo_from mo_to mo_begin mo_other mo_states mo_kinds mo_nodeOf mo_steps mo_emissions mo_length mo_text mo_worked mo_values mo_hits mo_hitAt mo_hitLength mo_written mo_listState mo_listAt mo_listLength mo_stack) → va_S A s.heap H locs → lv_has ls 9 [(0, .ref (ad 0)), (1, .int a1), (3, .int (mo_nodeOf (Int32.toNatClampNeg a1))), (4, .int (mo_kinds (Int32.toNatClampNeg a1))), (5, .int x5_82), (6, .int x6_82)] → f_Mo_targetOf_J113 mo_kinds a1 x5_82 x6_82 (f_Mo_targetOf_L82 mo_begin mo_kinds mo_nodeOf a1 (f_Mo_targetOf_K82_209) n82) t0_113 = some (r0) → W p l e rm_Mo_targetOf s m (List.toArray [.ref (ad 0), .int a1, .int a2]) below meth c H locs 0 0 Q (F0 m 113 ls [.int t0_113]) := by
                intro t0_113 H locs ls hP hD hS hl hf
                rw [f_Mo_targetOf_J113] at hf
                refine lv_istore (lv' := [(7, .int t0_113), (0, .ref (ad 0)), (1, .int a1), (3, .int (mo_nodeOf (Int32.toNatClampNeg a1))), (4, .int (mo_kinds (Int32.toNatClampNeg a1))), (5, .int x5_82), (6, .int x6_82)]) hx hb d_Mo_targetOf_113 hl (by decide) rfl (fun ls hl => ?_)
                refine lv_iload hx hb d_Mo_targetOf_115 (lv_at hl 0 rfl) ?_
                have J172 : ∀ (t0_172 : Int32) (H : Heap) (locs : List Loc) (ls : Array Slot), va_P (dC, dI) classes (wY ty ad mo_rows mo_columns mo_marks mo_letters mo_mate mo_made mo_nodes mo_sort mo_from mo_to mo_begin mo_other mo_states mo_kinds mo_nodeOf mo_steps mo_emissions mo_length mo_text mo_worked mo_values mo_hits mo_hitAt mo_hitLength mo_written mo_listState mo_listAt mo_listLength mo_stack) H → va_D A (wY ty ad mo_rows mo_columns mo_marks mo_letters mo_mate mo_made mo_nodes mo_sort mo_from mo_to mo_begin mo_other mo_states mo_kinds mo_nodeOf mo_steps mo_emissions mo_length mo_text mo_worked mo_values mo_hits mo_hitAt mo_hitLength mo_written mo_listState mo_listAt mo_listLength mo_stack) → va_S A s.heap H locs → lv_has ls 9 [(0, .ref (ad 0)), (1, .int a1), (3, .int (mo_nodeOf (Int32.toNatClampNeg a1))), (4, .int (mo_kinds (Int32.toNatClampNeg a1))), (5, .int x5_82), (6, .int x6_82)] → f_Mo_targetOf_J172 x5_82 x6_82 (f_Mo_targetOf_L82 mo_begin mo_kinds mo_nodeOf a1 (f_Mo_targetOf_K82_209) n82) t0_172 = some (r0) → W p l e rm_Mo_targetOf s m (List.toArray [.ref (ad 0), .int a1, .int a2]) below meth c H locs 0 0 Q (F0 m 172 ls [.int t0_172]) := by
                  intro t0_172 H locs ls hP hD hS hl hf
                  rw [f_Mo_targetOf_J172] at hf
                  refine lv_istore (lv' := [(8, .int t0_172), (0, .ref (ad 0)), (1, .int a1), (3, .int (mo_nodeOf (Int32.toNatClampNeg a1))), (4, .int (mo_kinds (Int32.toNatClampNeg a1))), (5, .int x5_82), (6, .int x6_82)]) hx hb d_Mo_targetOf_172 hl (by decide) rfl (fun ls hl => ?_)
                  refine lv_iload hx hb d_Mo_targetOf_174 (lv_at hl 0 rfl) ?_
                  have J187 : ∀  (H : Heap) (locs : List Loc) (ls : Array Slot), va_P (dC, dI) classes (wY ty ad mo_rows mo_columns mo_marks mo_letters mo_mate mo_made mo_nodes mo_sort mo_from mo_to mo_begin mo_other mo_states mo_kinds mo_nodeOf mo_steps mo_emissions mo_length mo_text mo_worked mo_values mo_hits mo_hitAt mo_hitLength mo_written mo_listState mo_listAt mo_listLength mo_stack) H → va_D A (wY ty ad mo_rows mo_columns mo_marks mo_letters mo_mate mo_made mo_nodes mo_sort mo_from mo_to mo_begin mo_other mo_states mo_kinds mo_nodeOf mo_steps mo_emissions mo_length mo_text mo_worked mo_values mo_hits mo_hitAt mo_hitLength mo_written mo_listState mo_listAt mo_listLength mo_stack) → va_S A s.heap H locs → lv_has ls 9 [(0, .ref (ad 0)), (1, .int a1), (3, .int (mo_nodeOf (Int32.toNatClampNeg a1))), (4, .int (mo_kinds (Int32.toNatClampNeg a1))), (5, .int x5_82), (6, .int x6_82), (8, .int t0_172)] → f_Mo_targetOf_J187 x5_82 x6_82 (f_Mo_targetOf_L82 mo_begin mo_kinds mo_nodeOf a1 (f_Mo_targetOf_K82_209) n82) t0_172 = some (r0) → W p l e rm_Mo_targetOf s m (List.toArray [.ref (ad 0), .int a1, .int a2]) below meth c H locs 0 0 Q (F0 m 187 ls []) := by
                    intro  H locs ls hP hD hS hl hf
                    rw [f_Mo_targetOf_J187] at hf
                    refine lv_iload hx hb d_Mo_targetOf_187 (lv_at hl 6 rfl) ?_
                    refine lv_if_eq (tgt := 199) hx hb d_Mo_targetOf_189 (by decide) (fun c10 => ?_) (fun c10 => ?_)
                    · have hf := xif_t c10 hf
                      refine lv_iload hx hb d_Mo_targetOf_199 (lv_at hl 4 rfl) ?_
                      refine lv_istore (lv' := [(5, .int x5_82), (0, .ref (ad 0)), (1, .int a1), (3, .int (mo_nodeOf (Int32.toNatClampNeg a1))), (4, .int (mo_kinds (Int32.toNatClampNeg a1))), (6, .int x6_82), (8, .int t0_172)]) hx hb d_Mo_targetOf_201 hl (by decide) rfl (fun ls hl => ?_)
                      refine lv_iinc (v := (x6_82 + (1 : Int32))) (lv' := [(6, .int (x6_82 + (1 : Int32))), (5, .int x5_82), (0, .ref (ad 0)), (1, .int a1), (3, .int (mo_nodeOf (Int32.toNatClampNeg a1))), (4, .int (mo_kinds (Int32.toNatClampNeg a1))), (8, .int t0_172)]) hx hb d_Mo_targetOf_203 hl (k := 5) rfl rfl (by decide) rfl (fun ls hl => ?_)
                      refine lv_goto (tgt := 82) hx hb d_Mo_targetOf_206 (by decide) ?_
                      exact ih82 x5_82 (x6_82 + (1 : Int32)) _ _ _ hP hD hS (lv_sub hl [2, 3, 4, 5, 1, 0] rfl) hf
                    · have hf := xif_f c10 hf
                      refine lv_iload hx hb d_Mo_targetOf_192 (lv_at hl 4 rfl) ?_
                      refine lv_iconst (v := 1) hx hb d_Mo_targetOf_194 (by decide) ?_
                      refine lv_isub hx hb d_Mo_targetOf_195 ?_
                      refine lv_goto (tgt := 201) hx hb d_Mo_targetOf_196 (by decide) ?_
                      refine lv_istore (lv' := [(5, .int (x5_82 - (1 : Int32))), (0, .ref (ad 0)), (1, .int a1), (3, .int (mo_nodeOf (Int32.toNatClampNeg a1))), (4, .int (mo_kinds (Int32.toNatClampNeg a1))), (6, .int x6_82), (8, .int t0_172)]) hx hb d_Mo_targetOf_201 hl (by decide) rfl (fun ls hl => ?_)
                      refine lv_iinc (v := (x6_82 + (1 : Int32))) (lv' := [(6, .int (x6_82 + (1 : Int32))), (5, .int (x5_82 - (1 : Int32))), (0, .ref (ad 0)), (1, .int a1), (3, .int (mo_nodeOf (Int32.toNatClampNeg a1))), (4, .int (mo_kinds (Int32.toNatClampNeg a1))), (8, .int t0_172)]) hx hb d_Mo_targetOf_203 hl (k := 5) rfl rfl (by decide) rfl (fun ls hl => ?_)
                      refine lv_goto (tgt := 82) hx hb d_Mo_targetOf_206 (by decide) ?_
                      exact ih82 (x5_82 - (1 : Int32)) (x6_82 + (1 : Int32)) _ _ _ hP hD hS (lv_sub hl [2, 3, 4, 5, 1, 0] rfl) hf
                  refine lv_if_eq (tgt := 187) hx hb d_Mo_targetOf_176 (by decide) (fun c11 => ?_) (fun c11 => ?_)
                  · have hf := xif_t c11 hf
                    exact J187  _ _ _ hP hD hS (lv_sub hl [1, 2, 3, 4, 5, 6, 0] rfl) hf
                  · have hf := xif_f c11 hf
                    refine lv_iload hx hb d_Mo_targetOf_179 (lv_at hl 5 rfl) ?_
                    refine lv_if_ne (tgt := 187) hx hb d_Mo_targetOf_181 (by decide) (fun c12 => ?_) (fun c12 => ?_)
                    · have hf := xif_f c12 hf
                      exact J187  _ _ _ hP hD hS (lv_sub hl [1, 2, 3, 4, 5, 6, 0] rfl) hf
                    · have hf := xif_t c12 hf
                      refine lv_iload hx hb d_Mo_targetOf_184 (lv_at hl 6 rfl) ?_
                      obtain rfl := os1 hf
                      exact hret H locs _ _ _ d_Mo_targetOf_186 rfl hP hS
                refine lv_if_eq (tgt := 154) hx hb d_Mo_targetOf_117 (by decide) (fun c13 => ?_) (fun c13 => ?_)
                · have hf := xif_t c13 hf
                  refine lv_aload_n hx hb d_Mo_targetOf_154 rfl (lv_at hl 1 rfl) ?_
                  refine va_get (D := (dC, dI)) (ci := 8) (v := .ref (ad 9)) (C := R_Mo) (T := F_Mo) (N := 29) hx hb hts iw_Mo hown hK hP 0 rfl rfl 13 (by decide) (hts _ m_730) (fun _ h9 => h9) rfl d_Mo_targetOf_155 ?_
                  refine lv_iload hx hb d_Mo_targetOf_158 (lv_at hl 6 rfl) ?_
                  obtain ⟨hi14, hf⟩ := gdi hf
                  refine va_iald hx hb hK hP 9 0 rfl rfl hi14 d_Mo_targetOf_160 ?_
                  obtain ⟨r15, hc16, hf⟩ := ob1_inv hf
                  refine xk_i (xrunS (As := [.int (mo_kinds (Int32.toNatClampNeg x6_82))]) (rest := []) ⟨hx, hb, hml, hown, hts⟩ (c_Mo_inserts l dC dI ty ad ta H.size mo_rows mo_columns mo_marks mo_letters mo_mate mo_made mo_nodes mo_sort mo_from mo_to mo_begin mo_other mo_states mo_kinds mo_nodeOf mo_steps mo_emissions mo_length mo_text mo_worked mo_values mo_hits mo_hitAt mo_hitLength mo_written mo_listState mo_listAt mo_listLength mo_stack (mo_kinds (Int32.toNatClampNeg x6_82)) r15 hc16) z_Mo_105 ⟨⟨rfl, rfl⟩, by decide, by decide⟩ hK hP hD hN hS hA rfl hl.1 rfl (Nat.le_of_ble_eq_true rfl) d_Mo_targetOf_161 ⟨Nat.zero_le _, Nat.zero_le _⟩) hS hD rfl hA (fun H locs hP hD hS => ?_)
                  refine W.eq (g2 := F0 m 164 ls [.int r15]) rfl ?_
                  refine lv_if_ne (tgt := 171) hx hb d_Mo_targetOf_164 (by decide) (fun c17 => ?_) (fun c17 => ?_)
                  · have hf := xif_f c17 hf
                    refine lv_iconst (v := 0) hx hb d_Mo_targetOf_171 (by decide) ?_
                    exact J172 (0 : Int32) _ _ _ hP hD hS (lv_sub hl [1, 2, 3, 4, 5, 6] rfl) hf
                  · have hf := xif_t c17 hf
                    refine lv_iconst (v := 1) hx hb d_Mo_targetOf_167 (by decide) ?_
                    refine lv_goto (tgt := 172) hx hb d_Mo_targetOf_168 (by decide) ?_
                    exact J172 (1 : Int32) _ _ _ hP hD hS (lv_sub hl [1, 2, 3, 4, 5, 6] rfl) hf
                · have hf := xif_f c13 hf
                  refine lv_aload_n hx hb d_Mo_targetOf_120 rfl (lv_at hl 1 rfl) ?_
                  refine va_get (D := (dC, dI)) (ci := 8) (v := .ref (ad 9)) (C := R_Mo) (T := F_Mo) (N := 29) hx hb hts iw_Mo hown hK hP 0 rfl rfl 13 (by decide) (hts _ m_730) (fun _ h9 => h9) rfl d_Mo_targetOf_121 ?_
                  refine lv_iload hx hb d_Mo_targetOf_124 (lv_at hl 6 rfl) ?_
                  obtain ⟨hi18, hf⟩ := gdi hf
                  refine va_iald hx hb hK hP 9 0 rfl rfl hi18 d_Mo_targetOf_126 ?_
                  obtain ⟨r19, hc20, hf⟩ := ob1_inv hf
                  refine xk_i (xrunS (As := [.int (mo_kinds (Int32.toNatClampNeg x6_82))]) (rest := []) ⟨hx, hb, hml, hown, hts⟩ (c_Mo_inserts l dC dI ty ad ta H.size mo_rows mo_columns mo_marks mo_letters mo_mate mo_made mo_nodes mo_sort mo_from mo_to mo_begin mo_other mo_states mo_kinds mo_nodeOf mo_steps mo_emissions mo_length mo_text mo_worked mo_values mo_hits mo_hitAt mo_hitLength mo_written mo_listState mo_listAt mo_listLength mo_stack (mo_kinds (Int32.toNatClampNeg x6_82)) r19 hc20) z_Mo_105 ⟨⟨rfl, rfl⟩, by decide, by decide⟩ hK hP hD hN hS hA rfl hl.1 rfl (Nat.le_of_ble_eq_true rfl) d_Mo_targetOf_127 ⟨Nat.zero_le _, Nat.zero_le _⟩) hS hD rfl hA (fun H locs hP hD hS => ?_)
                  refine W.eq (g2 := F0 m 130 ls [.int r19]) rfl ?_
                  have J150 : ∀  (H : Heap) (locs : List Loc) (ls : Array Slot), va_P (dC, dI) classes (wY ty ad mo_rows mo_columns mo_marks mo_letters mo_mate mo_made mo_nodes mo_sort mo_from mo_to mo_begin mo_other mo_states mo_kinds mo_nodeOf mo_steps mo_emissions mo_length mo_text mo_worked mo_values mo_hits mo_hitAt mo_hitLength mo_written mo_listState mo_listAt mo_listLength mo_stack) H → va_D A (wY ty ad mo_rows mo_columns mo_marks mo_letters mo_mate mo_made mo_nodes mo_sort mo_from mo_to mo_begin mo_other mo_states mo_kinds mo_nodeOf mo_steps mo_emissions mo_length mo_text mo_worked mo_values mo_hits mo_hitAt mo_hitLength mo_written mo_listState mo_listAt mo_listLength mo_stack) → va_S A s.heap H locs → lv_has ls 9 [(0, .ref (ad 0)), (1, .int a1), (3, .int (mo_nodeOf (Int32.toNatClampNeg a1))), (4, .int (mo_kinds (Int32.toNatClampNeg a1))), (5, .int x5_82), (6, .int x6_82)] → f_Mo_targetOf_J150 x5_82 x6_82 (f_Mo_targetOf_L82 mo_begin mo_kinds mo_nodeOf a1 (f_Mo_targetOf_K82_209) n82) = some (r0) → W p l e rm_Mo_targetOf s m (List.toArray [.ref (ad 0), .int a1, .int a2]) below meth c H locs 0 0 Q (F0 m 150 ls []) := by
                    intro  H locs ls hP hD hS hl hf
                    rw [f_Mo_targetOf_J150] at hf
                    refine lv_iconst (v := 0) hx hb d_Mo_targetOf_150 (by decide) ?_
                    refine lv_goto (tgt := 172) hx hb d_Mo_targetOf_151 (by decide) ?_
                    exact J172 (0 : Int32) _ _ _ hP hD hS (lv_sub hl [0, 1, 2, 3, 4, 5] rfl) hf
                  refine lv_if_eq (tgt := 150) hx hb d_Mo_targetOf_130 (by decide) (fun c21 => ?_) (fun c21 => ?_)
                  · have hf := xif_t c21 hf
                    exact J150  _ _ _ hP hD hS (lv_sub hl [1, 2, 3, 4, 5, 6] rfl) hf
                  · have hf := xif_f c21 hf
                    refine lv_iload hx hb d_Mo_targetOf_133 (lv_at hl 4 rfl) ?_
                    refine lv_bipush (v := 6) hx hb d_Mo_targetOf_135 (by decide) ?_
                    have J146 : ∀  (H : Heap) (locs : List Loc) (ls : Array Slot), va_P (dC, dI) classes (wY ty ad mo_rows mo_columns mo_marks mo_letters mo_mate mo_made mo_nodes mo_sort mo_from mo_to mo_begin mo_other mo_states mo_kinds mo_nodeOf mo_steps mo_emissions mo_length mo_text mo_worked mo_values mo_hits mo_hitAt mo_hitLength mo_written mo_listState mo_listAt mo_listLength mo_stack) H → va_D A (wY ty ad mo_rows mo_columns mo_marks mo_letters mo_mate mo_made mo_nodes mo_sort mo_from mo_to mo_begin mo_other mo_states mo_kinds mo_nodeOf mo_steps mo_emissions mo_length mo_text mo_worked mo_values mo_hits mo_hitAt mo_hitLength mo_written mo_listState mo_listAt mo_listLength mo_stack) → va_S A s.heap H locs → lv_has ls 9 [(0, .ref (ad 0)), (1, .int a1), (3, .int (mo_nodeOf (Int32.toNatClampNeg a1))), (4, .int (mo_kinds (Int32.toNatClampNeg a1))), (5, .int x5_82), (6, .int x6_82)] → f_Mo_targetOf_J146 x5_82 x6_82 (f_Mo_targetOf_L82 mo_begin mo_kinds mo_nodeOf a1 (f_Mo_targetOf_K82_209) n82) = some (r0) → W p l e rm_Mo_targetOf s m (List.toArray [.ref (ad 0), .int a1, .int a2]) below meth c H locs 0 0 Q (F0 m 146 ls []) := by
                      intro  H locs ls hP hD hS hl hf
                      rw [f_Mo_targetOf_J146] at hf
                      refine lv_iconst (v := 1) hx hb d_Mo_targetOf_146 (by decide) ?_
                      refine lv_goto (tgt := 172) hx hb d_Mo_targetOf_147 (by decide) ?_
                      exact J172 (1 : Int32) _ _ _ hP hD hS (lv_sub hl [0, 1, 2, 3, 4, 5] rfl) hf
                    refine lv_icmp_ne (tgt := 146) hx hb d_Mo_targetOf_137 (by decide) (fun c22 => ?_) (fun c22 => ?_)
                    · have hf := xif_f c22 hf
                      exact J146  _ _ _ hP hD hS (lv_sub hl [1, 2, 3, 4, 5, 6] rfl) hf
                    · have hf := xif_t c22 hf
                      refine lv_iload hx hb d_Mo_targetOf_140 (lv_at hl 6 rfl) ?_
                      refine lv_iload_n hx hb d_Mo_targetOf_142 rfl (lv_at hl 2 rfl) ?_
                      refine lv_icmp_ne (tgt := 150) hx hb d_Mo_targetOf_143 (by decide) (fun c23 => ?_) (fun c23 => ?_)
                      · have hf := xif_f c23 hf
                        exact J150  _ _ _ hP hD hS (lv_sub hl [1, 2, 3, 4, 5, 6] rfl) hf
                      · have hf := xif_t c23 hf
                        exact J146  _ _ _ hP hD hS (lv_sub hl [1, 2, 3, 4, 5, 6] rfl) hf
              refine lv_icmp_ge (tgt := 112) hx hb d_Mo_targetOf_105 (by decide) (fun c24 => ?_) (fun c24 => ?_)
              · have hf := xif_t c24 hf
                refine lv_iconst (v := 0) hx hb d_Mo_targetOf_112 (by decide) ?_
                exact J113 (0 : Int32) _ _ _ hP hD hS (lv_sub hl [0, 1, 2, 3, 4, 5] rfl) hf
              · have hf := xif_f c24 hf
                refine lv_iconst (v := 1) hx hb d_Mo_targetOf_108 (by decide) ?_
                refine lv_goto (tgt := 113) hx hb d_Mo_targetOf_109 (by decide) ?_
                exact J113 (1 : Int32) _ _ _ hP hD hS (lv_sub hl [0, 1, 2, 3, 4, 5] rfl) hf
        exact L82 1000 a2 (mo_begin (Int32.toNatClampNeg (mo_nodeOf (Int32.toNatClampNeg a1)))) _ _ _ hP hD hS (lv_sub hl [4, 5, 3, 2, 1, 0] rfl) hf
      · have hf := xif_t c5 hf
        refine lv_iload_n hx hb d_Mo_targetOf_35 rfl (lv_at hl 4 rfl) ?_
        refine lv_if_ne (tgt := 50) hx hb d_Mo_targetOf_36 (by decide) (fun c25 => ?_) (fun c25 => ?_)
        · have hf := xif_f c25 hf
          refine lv_iload_n hx hb d_Mo_targetOf_50 rfl (lv_at hl 4 rfl) ?_
          refine lv_iconst (v := 1) hx hb d_Mo_targetOf_51 (by decide) ?_
          refine lv_icmp_ne (tgt := 69) hx hb d_Mo_targetOf_52 (by decide) (fun c26 => ?_) (fun c26 => ?_)
          · have hf := xif_f c26 hf
            refine lv_iconst (v := -1) hx hb d_Mo_targetOf_69 (by decide) ?_
            obtain rfl := os1 hf
            exact hret H locs _ _ _ d_Mo_targetOf_70 rfl hP hS
          · have hf := xif_t c26 hf
            refine lv_aload_n hx hb d_Mo_targetOf_55 rfl (lv_at hl 2 rfl) ?_
            refine va_get (D := (dC, dI)) (ci := 8) (v := .ref (ad 7)) (C := R_Mo) (T := F_Mo) (N := 29) hx hb hts iw_Mo hown hK hP 0 rfl rfl 10 (by decide) (hts _ m_727) (fun _ h9 => h9) rfl d_Mo_targetOf_56 ?_
            refine lv_aload_n hx hb d_Mo_targetOf_59 rfl (lv_at hl 2 rfl) ?_
            refine va_get (D := (dC, dI)) (ci := 8) (v := .ref (ad 8)) (C := R_Mo) (T := F_Mo) (N := 29) hx hb hts iw_Mo hown hK hP 0 rfl rfl 11 (by decide) (hts _ m_728) (fun _ h9 => h9) rfl d_Mo_targetOf_60 ?_
            refine lv_iload_n hx hb d_Mo_targetOf_63 rfl (lv_at hl 1 rfl) ?_
            obtain ⟨hi27, hf⟩ := gdi hf
            refine va_iald hx hb hK hP 8 0 rfl rfl hi27 d_Mo_targetOf_64 ?_
            obtain ⟨hi28, hf⟩ := gdi hf
            refine va_iald hx hb hK hP 7 0 rfl rfl hi28 d_Mo_targetOf_65 ?_
            refine lv_goto (tgt := 70) hx hb d_Mo_targetOf_66 (by decide) ?_
            obtain rfl := os1 hf
            exact hret H locs _ _ _ d_Mo_targetOf_70 rfl hP hS
        · have hf := xif_t c25 hf
          refine lv_aload_n hx hb d_Mo_targetOf_39 rfl (lv_at hl 2 rfl) ?_
          refine va_get (D := (dC, dI)) (ci := 8) (v := .ref (ad 7)) (C := R_Mo) (T := F_Mo) (N := 29) hx hb hts iw_Mo hown hK hP 0 rfl rfl 10 (by decide) (hts _ m_727) (fun _ h9 => h9) rfl d_Mo_targetOf_40 ?_
          refine lv_iload_n hx hb d_Mo_targetOf_43 rfl (lv_at hl 1 rfl) ?_
          refine lv_iconst (v := 1) hx hb d_Mo_targetOf_44 (by decide) ?_
          refine lv_iadd hx hb d_Mo_targetOf_45 ?_
          obtain ⟨hi29, hf⟩ := gdi hf
          refine va_iald hx hb hK hP 7 0 rfl rfl hi29 d_Mo_targetOf_46 ?_
          refine lv_goto (tgt := 70) hx hb d_Mo_targetOf_47 (by decide) ?_
          obtain rfl := os1 hf
          exact hret H locs _ _ _ d_Mo_targetOf_70 rfl hP hS
    · have hf := xif_f c4 hf
      refine lv_iconst (v := -1) hx hb d_Mo_targetOf_26 (by decide) ?_
      obtain rfl := os1 hf
      exact hret H locs _ _ _ d_Mo_targetOf_27 rfl hP hS
def f_Mo_eighth_K4_21  (x1_4 : Int64) (x3_4 : Int32) : Option (Int64) := some (x1_4)
def f_Mo_eighth_L4 (a1 : Int32) (k4_21 : (Int64 → Int32 → Option (Int64))) : Nat → Int64 → Int32 → Option (Int64)
  | 0, _, _ => none
  | n4 + 1, x1_4, x3_4 => if (8 : Int32) ≤ x3_4 then (k4_21 x1_4 x3_4) else ((f_Mo_eighth_L4 a1 k4_21 n4) (x1_4 * (Int32.toInt64 a1)) (x3_4 + (1 : Int32)))
def f_Mo_eighth (a1 : Int32) : Option (Int64) := f_Mo_eighth_L4 a1 (f_Mo_eighth_K4_21) 1000 (1 : Int64) (0 : Int32)
set_option maxHeartbeats 4000000 in
set_option maxRecDepth 100000 in
theorem c_Mo_eighth (l : Launch) (dC : Nat → ClassId) (dI : Nat → Nat → Nat) (ty : Nat → ClassId) (ad : Nat → Nat) (ta : Nat → Nat) (sz : Nat) (mo_rows : Int32) (mo_columns : Int32) (mo_marks : (Nat → Int32)) (mo_letters : (Nat → Int32)) (mo_mate : (Nat → Int32)) (mo_made : Int32) (mo_nodes : Int32) (mo_sort : (Nat → Int32)) (mo_from : (Nat → Int32)) (mo_to : (Nat → Int32)) (mo_begin : (Nat → Int32)) (mo_other : (Nat → Int32)) (mo_states : Int32) (mo_kinds : (Nat → Int32)) (mo_nodeOf : (Nat → Int32)) (mo_steps : (Nat → Int32)) (mo_emissions : (Nat → Int32)) (mo_length : Int32) (mo_text : (Nat → Int32)) (mo_worked : Int32) (mo_values : (Nat → Int32)) (mo_hits : Int32) (mo_hitAt : (Nat → Int32)) (mo_hitLength : (Nat → Int32)) (mo_written : Int32) (mo_listState : (Nat → Int32)) (mo_listAt : (Nat → Int32)) (mo_listLength : (Nat → Int32)) (mo_stack : (Nat → Int32)) (a1 : Int32) (r0 : Int64) (hf : f_Mo_eighth a1 = some (r0)) : Met l y_Mo_eighth (.code y_Mo_eighth prog_10_method_13_code 4 (some .long) :: gw) rm_Mo_eighth (xPre ta (dC, dI) classes (tys3 ty) (wY ty ad mo_rows mo_columns mo_marks mo_letters mo_mate mo_made mo_nodes mo_sort mo_from mo_to mo_begin mo_other mo_states mo_kinds mo_nodeOf mo_steps mo_emissions mo_length mo_text mo_worked mo_values mo_hits mo_hitAt mo_hitLength mo_written mo_listState mo_listAt mo_listLength mo_stack) sz [.int a1]) (xQl (dC, dI) classes (wY ty ad mo_rows mo_columns mo_marks mo_letters mo_mate mo_made mo_nodes mo_sort mo_from mo_to mo_begin mo_other mo_states mo_kinds mo_nodeOf mo_steps mo_emissions mo_length mo_text mo_worked mo_values mo_hits mo_hitAt mo_hitLength mo_written mo_listState mo_listAt mo_listLength mo_stack) (wY ty ad mo_rows mo_columns mo_marks mo_letters mo_mate mo_made mo_nodes mo_sort mo_from mo_to mo_begin mo_other mo_states mo_kinds mo_nodeOf mo_steps mo_emissions mo_length mo_text mo_worked mo_values mo_hits mo_hitAt mo_hitLength mo_written mo_listState mo_listAt mo_listLength mo_stack) sz r0) 0 0 (va_A (wY ty ad mo_rows mo_columns mo_marks mo_letters mo_mate mo_made mo_nodes mo_sort mo_from mo_to mo_begin mo_other mo_states mo_kinds mo_nodeOf mo_steps mo_emissions mo_length mo_text mo_worked mo_values mo_hits mo_hitAt mo_hitLength mo_written mo_listState mo_listAt mo_listLength mo_stack) sz) := by
  refine xmet_l rfl (Nat.le_of_ble_eq_true rfl) ?_
  intro p e s m below meth c A ls Q hx hb hml hts hown hK hN hA hP hD hS hl hret
  replace hown : s.vm.findClass R_Mo = some m.cls := hown
  have hl : lv_has ls 4 [(0, .int a1)] := hl
  rw [f_Mo_eighth] at hf
  obtain ⟨H, eH⟩ : ∃ H : Heap, H = s.heap := ⟨_, rfl⟩
  obtain ⟨locs, eL⟩ : ∃ L : List Loc, L = [] := ⟨_, rfl⟩
  have hP : va_P (dC, dI) classes (wY ty ad mo_rows mo_columns mo_marks mo_letters mo_mate mo_made mo_nodes mo_sort mo_from mo_to mo_begin mo_other mo_states mo_kinds mo_nodeOf mo_steps mo_emissions mo_length mo_text mo_worked mo_values mo_hits mo_hitAt mo_hitLength mo_written mo_listState mo_listAt mo_listLength mo_stack) H := by rw [eH]; exact hP
  have hS : va_S A s.heap H locs := by rw [eH, eL]; exact hS
  rw [← eL]
  suffices hgoal : W p l e rm_Mo_eighth s m (List.toArray [.int a1]) below meth c H locs 0 0 Q (F0 m 0 ls []) by rw [eH] at hgoal; exact hgoal
  clear eH eL
  refine lv_lconst (v := 1) hx hb d_Mo_eighth_0 (by decide) ?_
  refine lv_lstore_n (lv' := [(1, .long (1 : Int64)), (0, .int a1)]) hx hb d_Mo_eighth_1 rfl hl (by decide) rfl (fun ls hl => ?_)
  refine lv_iconst (v := 0) hx hb d_Mo_eighth_2 (by decide) ?_
  refine lv_istore_n (lv' := [(3, .int (0 : Int32)), (1, .long (1 : Int64)), (0, .int a1)]) hx hb d_Mo_eighth_3 rfl hl (by decide) rfl (fun ls hl => ?_)
  have K4_21 : ∀ (x1_4 : Int64) (x3_4 : Int32) (H : Heap) (locs : List Loc) (ls : Array Slot), va_P (dC, dI) classes (wY ty ad mo_rows mo_columns mo_marks mo_letters mo_mate mo_made mo_nodes mo_sort mo_from mo_to mo_begin mo_other mo_states mo_kinds mo_nodeOf mo_steps mo_emissions mo_length mo_text mo_worked mo_values mo_hits mo_hitAt mo_hitLength mo_written mo_listState mo_listAt mo_listLength mo_stack) H → va_D A (wY ty ad mo_rows mo_columns mo_marks mo_letters mo_mate mo_made mo_nodes mo_sort mo_from mo_to mo_begin mo_other mo_states mo_kinds mo_nodeOf mo_steps mo_emissions mo_length mo_text mo_worked mo_values mo_hits mo_hitAt mo_hitLength mo_written mo_listState mo_listAt mo_listLength mo_stack) → va_S A s.heap H locs → lv_has ls 4 [(1, .long x1_4)] → f_Mo_eighth_K4_21 x1_4 x3_4 = some (r0) → W p l e rm_Mo_eighth s m (List.toArray [.int a1]) below meth c H locs 0 0 Q (F0 m 21 ls []) := by
    intro x1_4 x3_4 H locs ls hP hD hS hl hf
    rw [f_Mo_eighth_K4_21] at hf
    refine lv_lload_n hx hb d_Mo_eighth_21 rfl (lv_at hl 0 rfl) ?_
    obtain rfl := os1 hf
    exact hret H locs _ _ _ d_Mo_eighth_22 rfl hP hS
  have L4 : ∀ (n4 : Nat), ∀ (x1_4 : Int64) (x3_4 : Int32) (H : Heap) (locs : List Loc) (ls : Array Slot), va_P (dC, dI) classes (wY ty ad mo_rows mo_columns mo_marks mo_letters mo_mate mo_made mo_nodes mo_sort mo_from mo_to mo_begin mo_other mo_states mo_kinds mo_nodeOf mo_steps mo_emissions mo_length mo_text mo_worked mo_values mo_hits mo_hitAt mo_hitLength mo_written mo_listState mo_listAt mo_listLength mo_stack) H → va_D A (wY ty ad mo_rows mo_columns mo_marks mo_letters mo_mate mo_made mo_nodes mo_sort mo_from mo_to mo_begin mo_other mo_states mo_kinds mo_nodeOf mo_steps mo_emissions mo_length mo_text mo_worked mo_values mo_hits mo_hitAt mo_hitLength mo_written mo_listState mo_listAt mo_listLength mo_stack) → va_S A s.heap H locs → lv_has ls 4 [(0, .int a1), (1, .long x1_4), (3, .int x3_4)] → f_Mo_eighth_L4 a1 (f_Mo_eighth_K4_21) n4 x1_4 x3_4 = some (r0) → W p l e rm_Mo_eighth s m (List.toArray [.int a1]) below meth c H locs 0 0 Q (F0 m 4 ls []) := by
    intro n4
    induction n4 with
    | zero =>
      intro x1_4 x3_4 H locs ls hP hD hS hl hf
      rw [f_Mo_eighth_L4] at hf
      cases hf
    | succ n4 ih4 =>
      intro x1_4 x3_4 H locs ls hP hD hS hl hf
      rw [f_Mo_eighth_L4] at hf
      refine lv_iload_n hx hb d_Mo_eighth_4 rfl (lv_at hl 2 rfl) ?_
      refine lv_bipush (v := 8) hx hb d_Mo_eighth_5 (by decide) ?_
      refine lv_icmp_ge (tgt := 21) hx hb d_Mo_eighth_7 (by decide) (fun c1 => ?_) (fun c1 => ?_)
      · have hf := xif_t c1 hf
        exact K4_21 x1_4 x3_4 _ _ _ hP hD hS (lv_sub hl [1] rfl) hf
      · have hf := xif_f c1 hf
        refine lv_lload_n hx hb d_Mo_eighth_10 rfl (lv_at hl 1 rfl) ?_
        refine lv_iload_n hx hb d_Mo_eighth_11 rfl (lv_at hl 0 rfl) ?_
        refine lv_i2l (v := (Int32.toInt64 a1)) hx hb d_Mo_eighth_12 rfl ?_
        refine lv_lmul hx hb d_Mo_eighth_13 ?_
        refine lv_lstore_n (lv' := [(1, .long (x1_4 * (Int32.toInt64 a1))), (0, .int a1), (3, .int x3_4)]) hx hb d_Mo_eighth_14 rfl hl (by decide) rfl (fun ls hl => ?_)
        refine lv_iinc (v := (x3_4 + (1 : Int32))) (lv' := [(3, .int (x3_4 + (1 : Int32))), (1, .long (x1_4 * (Int32.toInt64 a1))), (0, .int a1)]) hx hb d_Mo_eighth_15 hl (k := 2) rfl rfl (by decide) rfl (fun ls hl => ?_)
        refine lv_goto (tgt := 4) hx hb d_Mo_eighth_18 (by decide) ?_
        exact ih4 (x1_4 * (Int32.toInt64 a1)) (x3_4 + (1 : Int32)) _ _ _ hP hD hS (lv_sub hl [2, 1, 0] rfl) hf
  exact L4 1000 (1 : Int64) (0 : Int32) _ _ _ hP hD hS (lv_sub hl [2, 1, 0] rfl) hf
def f_Mo_log_K42_64  (x2_42 : Int64) (x6_42 : Int32) : Option (Int32) := some (x6_42)
def f_Mo_log_L42 (x4_14 : Int64) (k42_64 : (Int64 → Int32 → Option (Int32))) : Nat → Int64 → Int32 → Option (Int32)
  | 0, _, _ => none
  | n42 + 1, x2_42, x6_42 => if (lg_cmp x4_14 x2_42) ≤ (0 : Int32) then (k42_64 x2_42 x6_42) else ((f_Mo_log_L42 x4_14 k42_64 n42) ((2 : Int64) * x2_42) (x6_42 - (1 : Int32)))
def f_Mo_log_K14_42 (r1 : Int64) (x4_14 : Int64) (x6_14 : Int32) : Option (Int32) := f_Mo_log_L42 x4_14 (f_Mo_log_K42_64) 1000 r1 x6_14
def f_Mo_log_L14 (r1 : Int64) (k14_42 : (Int64 → Int32 → Option (Int32))) : Nat → Int64 → Int32 → Option (Int32)
  | 0, _, _ => none
  | n14 + 1, x4_14, x6_14 => if (0 : Int32) < (lg_cmp ((2 : Int64) * x4_14) r1) then (k14_42 x4_14 x6_14) else ((f_Mo_log_L14 r1 k14_42 n14) ((2 : Int64) * x4_14) (x6_14 + (1 : Int32)))
def f_Mo_log (a1 : Int32) (a2 : Int32) : Option (Int32) := ob1 (f_Mo_eighth a1) (fun r1 => ob1 (f_Mo_eighth a2) (fun r3 => f_Mo_log_L14 r1 (f_Mo_log_K14_42 r1) 1000 r3 (0 : Int32)))
set_option maxHeartbeats 4000000 in
set_option maxRecDepth 100000 in
theorem c_Mo_log (l : Launch) (dC : Nat → ClassId) (dI : Nat → Nat → Nat) (ty : Nat → ClassId) (ad : Nat → Nat) (ta : Nat → Nat) (sz : Nat) (mo_rows : Int32) (mo_columns : Int32) (mo_marks : (Nat → Int32)) (mo_letters : (Nat → Int32)) (mo_mate : (Nat → Int32)) (mo_made : Int32) (mo_nodes : Int32) (mo_sort : (Nat → Int32)) (mo_from : (Nat → Int32)) (mo_to : (Nat → Int32)) (mo_begin : (Nat → Int32)) (mo_other : (Nat → Int32)) (mo_states : Int32) (mo_kinds : (Nat → Int32)) (mo_nodeOf : (Nat → Int32)) (mo_steps : (Nat → Int32)) (mo_emissions : (Nat → Int32)) (mo_length : Int32) (mo_text : (Nat → Int32)) (mo_worked : Int32) (mo_values : (Nat → Int32)) (mo_hits : Int32) (mo_hitAt : (Nat → Int32)) (mo_hitLength : (Nat → Int32)) (mo_written : Int32) (mo_listState : (Nat → Int32)) (mo_listAt : (Nat → Int32)) (mo_listLength : (Nat → Int32)) (mo_stack : (Nat → Int32)) (a1 : Int32) (a2 : Int32) (r0 : Int32) (hf : f_Mo_log a1 a2 = some (r0)) : Met l y_Mo_log (.code y_Mo_log prog_10_method_14_code 7 (some .int) :: gw) rm_Mo_log (xPre ta (dC, dI) classes (tys3 ty) (wY ty ad mo_rows mo_columns mo_marks mo_letters mo_mate mo_made mo_nodes mo_sort mo_from mo_to mo_begin mo_other mo_states mo_kinds mo_nodeOf mo_steps mo_emissions mo_length mo_text mo_worked mo_values mo_hits mo_hitAt mo_hitLength mo_written mo_listState mo_listAt mo_listLength mo_stack) sz [.int a1, .int a2]) (xQi (dC, dI) classes (wY ty ad mo_rows mo_columns mo_marks mo_letters mo_mate mo_made mo_nodes mo_sort mo_from mo_to mo_begin mo_other mo_states mo_kinds mo_nodeOf mo_steps mo_emissions mo_length mo_text mo_worked mo_values mo_hits mo_hitAt mo_hitLength mo_written mo_listState mo_listAt mo_listLength mo_stack) (wY ty ad mo_rows mo_columns mo_marks mo_letters mo_mate mo_made mo_nodes mo_sort mo_from mo_to mo_begin mo_other mo_states mo_kinds mo_nodeOf mo_steps mo_emissions mo_length mo_text mo_worked mo_values mo_hits mo_hitAt mo_hitLength mo_written mo_listState mo_listAt mo_listLength mo_stack) sz r0) 0 0 (va_A (wY ty ad mo_rows mo_columns mo_marks mo_letters mo_mate mo_made mo_nodes mo_sort mo_from mo_to mo_begin mo_other mo_states mo_kinds mo_nodeOf mo_steps mo_emissions mo_length mo_text mo_worked mo_values mo_hits mo_hitAt mo_hitLength mo_written mo_listState mo_listAt mo_listLength mo_stack) sz) := by
  refine xmet_i rfl (Nat.le_of_ble_eq_true rfl) ?_
  intro p e s m below meth c A ls Q hx hb hml hts hown hK hN hA hP hD hS hl hret
  replace hown : s.vm.findClass R_Mo = some m.cls := hown
  have hl : lv_has ls 7 [(0, .int a1), (1, .int a2)] := hl
  rw [f_Mo_log] at hf
  obtain ⟨H, eH⟩ : ∃ H : Heap, H = s.heap := ⟨_, rfl⟩
  obtain ⟨locs, eL⟩ : ∃ L : List Loc, L = [] := ⟨_, rfl⟩
  have hP : va_P (dC, dI) classes (wY ty ad mo_rows mo_columns mo_marks mo_letters mo_mate mo_made mo_nodes mo_sort mo_from mo_to mo_begin mo_other mo_states mo_kinds mo_nodeOf mo_steps mo_emissions mo_length mo_text mo_worked mo_values mo_hits mo_hitAt mo_hitLength mo_written mo_listState mo_listAt mo_listLength mo_stack) H := by rw [eH]; exact hP
  have hS : va_S A s.heap H locs := by rw [eH, eL]; exact hS
  rw [← eL]
  suffices hgoal : W p l e rm_Mo_log s m (List.toArray [.int a1, .int a2]) below meth c H locs 0 0 Q (F0 m 0 ls []) by rw [eH] at hgoal; exact hgoal
  clear eH eL
  refine lv_iload_n hx hb d_Mo_log_0 rfl (lv_at hl 0 rfl) ?_
  obtain ⟨r1, hc2, hf⟩ := ob1_inv hf
  refine xk_l (xrunS (As := [.int a1]) (rest := []) ⟨hx, hb, hml, hown, hts⟩ (c_Mo_eighth l dC dI ty ad ta H.size mo_rows mo_columns mo_marks mo_letters mo_mate mo_made mo_nodes mo_sort mo_from mo_to mo_begin mo_other mo_states mo_kinds mo_nodeOf mo_steps mo_emissions mo_length mo_text mo_worked mo_values mo_hits mo_hitAt mo_hitLength mo_written mo_listState mo_listAt mo_listLength mo_stack a1 r1 hc2) z_Mo_109 ⟨⟨rfl, rfl⟩, by decide, by decide⟩ hK hP hD hN hS hA rfl hl.1 rfl (Nat.le_of_ble_eq_true rfl) d_Mo_log_1 ⟨Nat.zero_le _, Nat.zero_le _⟩) hS hD rfl hA (fun H locs hP hD hS => ?_)
  refine W.eq (g2 := F0 m 4 ls [.long r1]) rfl ?_
  refine lv_lstore_n (lv' := [(2, .long r1), (0, .int a1), (1, .int a2)]) hx hb d_Mo_log_4 rfl hl (by decide) rfl (fun ls hl => ?_)
  refine lv_iload_n hx hb d_Mo_log_5 rfl (lv_at hl 2 rfl) ?_
  obtain ⟨r3, hc4, hf⟩ := ob1_inv hf
  refine xk_l (xrunS (As := [.int a2]) (rest := []) ⟨hx, hb, hml, hown, hts⟩ (c_Mo_eighth l dC dI ty ad ta H.size mo_rows mo_columns mo_marks mo_letters mo_mate mo_made mo_nodes mo_sort mo_from mo_to mo_begin mo_other mo_states mo_kinds mo_nodeOf mo_steps mo_emissions mo_length mo_text mo_worked mo_values mo_hits mo_hitAt mo_hitLength mo_written mo_listState mo_listAt mo_listLength mo_stack a2 r3 hc4) z_Mo_109 ⟨⟨rfl, rfl⟩, by decide, by decide⟩ hK hP hD hN hS hA rfl hl.1 rfl (Nat.le_of_ble_eq_true rfl) d_Mo_log_6 ⟨Nat.zero_le _, Nat.zero_le _⟩) hS hD rfl hA (fun H locs hP hD hS => ?_)
  refine W.eq (g2 := F0 m 9 ls [.long r3]) rfl ?_
  refine lv_lstore (lv' := [(4, .long r3), (2, .long r1), (0, .int a1), (1, .int a2)]) hx hb d_Mo_log_9 hl (by decide) rfl (fun ls hl => ?_)
  refine lv_iconst (v := 0) hx hb d_Mo_log_11 (by decide) ?_
  refine lv_istore (lv' := [(6, .int (0 : Int32)), (4, .long r3), (2, .long r1), (0, .int a1), (1, .int a2)]) hx hb d_Mo_log_12 hl (by decide) rfl (fun ls hl => ?_)
  have K14_42 : ∀ (x4_14 : Int64) (x6_14 : Int32) (H : Heap) (locs : List Loc) (ls : Array Slot), va_P (dC, dI) classes (wY ty ad mo_rows mo_columns mo_marks mo_letters mo_mate mo_made mo_nodes mo_sort mo_from mo_to mo_begin mo_other mo_states mo_kinds mo_nodeOf mo_steps mo_emissions mo_length mo_text mo_worked mo_values mo_hits mo_hitAt mo_hitLength mo_written mo_listState mo_listAt mo_listLength mo_stack) H → va_D A (wY ty ad mo_rows mo_columns mo_marks mo_letters mo_mate mo_made mo_nodes mo_sort mo_from mo_to mo_begin mo_other mo_states mo_kinds mo_nodeOf mo_steps mo_emissions mo_length mo_text mo_worked mo_values mo_hits mo_hitAt mo_hitLength mo_written mo_listState mo_listAt mo_listLength mo_stack) → va_S A s.heap H locs → lv_has ls 7 [(2, .long r1), (4, .long x4_14), (6, .int x6_14)] → f_Mo_log_K14_42 r1 x4_14 x6_14 = some (r0) → W p l e rm_Mo_log s m (List.toArray [.int a1, .int a2]) below meth c H locs 0 0 Q (F0 m 42 ls []) := by
    intro x4_14 x6_14 H locs ls hP hD hS hl hf
    rw [f_Mo_log_K14_42] at hf
    have K42_64 : ∀ (x2_42 : Int64) (x6_42 : Int32) (H : Heap) (locs : List Loc) (ls : Array Slot), va_P (dC, dI) classes (wY ty ad mo_rows mo_columns mo_marks mo_letters mo_mate mo_made mo_nodes mo_sort mo_from mo_to mo_begin mo_other mo_states mo_kinds mo_nodeOf mo_steps mo_emissions mo_length mo_text mo_worked mo_values mo_hits mo_hitAt mo_hitLength mo_written mo_listState mo_listAt mo_listLength mo_stack) H → va_D A (wY ty ad mo_rows mo_columns mo_marks mo_letters mo_mate mo_made mo_nodes mo_sort mo_from mo_to mo_begin mo_other mo_states mo_kinds mo_nodeOf mo_steps mo_emissions mo_length mo_text mo_worked mo_values mo_hits mo_hitAt mo_hitLength mo_written mo_listState mo_listAt mo_listLength mo_stack) → va_S A s.heap H locs → lv_has ls 7 [(6, .int x6_42)] → f_Mo_log_K42_64 x2_42 x6_42 = some (r0) → W p l e rm_Mo_log s m (List.toArray [.int a1, .int a2]) below meth c H locs 0 0 Q (F0 m 64 ls []) := by
      intro x2_42 x6_42 H locs ls hP hD hS hl hf
      rw [f_Mo_log_K42_64] at hf
      refine lv_iload hx hb d_Mo_log_64 (lv_at hl 0 rfl) ?_
      obtain rfl := os1 hf
      exact hret H locs _ _ _ d_Mo_log_66 rfl hP hS
    have L42 : ∀ (n42 : Nat), ∀ (x2_42 : Int64) (x6_42 : Int32) (H : Heap) (locs : List Loc) (ls : Array Slot), va_P (dC, dI) classes (wY ty ad mo_rows mo_columns mo_marks mo_letters mo_mate mo_made mo_nodes mo_sort mo_from mo_to mo_begin mo_other mo_states mo_kinds mo_nodeOf mo_steps mo_emissions mo_length mo_text mo_worked mo_values mo_hits mo_hitAt mo_hitLength mo_written mo_listState mo_listAt mo_listLength mo_stack) H → va_D A (wY ty ad mo_rows mo_columns mo_marks mo_letters mo_mate mo_made mo_nodes mo_sort mo_from mo_to mo_begin mo_other mo_states mo_kinds mo_nodeOf mo_steps mo_emissions mo_length mo_text mo_worked mo_values mo_hits mo_hitAt mo_hitLength mo_written mo_listState mo_listAt mo_listLength mo_stack) → va_S A s.heap H locs → lv_has ls 7 [(2, .long x2_42), (4, .long x4_14), (6, .int x6_42)] → f_Mo_log_L42 x4_14 (f_Mo_log_K42_64) n42 x2_42 x6_42 = some (r0) → W p l e rm_Mo_log s m (List.toArray [.int a1, .int a2]) below meth c H locs 0 0 Q (F0 m 42 ls []) := by
      intro n42
      induction n42 with
      | zero =>
        intro x2_42 x6_42 H locs ls hP hD hS hl hf
        rw [f_Mo_log_L42] at hf
        cases hf
      | succ n42 ih42 =>
        intro x2_42 x6_42 H locs ls hP hD hS hl hf
        rw [f_Mo_log_L42] at hf
        refine lv_lload hx hb d_Mo_log_42 (lv_at hl 1 rfl) ?_
        refine lv_lload_n hx hb d_Mo_log_44 rfl (lv_at hl 0 rfl) ?_
        refine W.lcmp hx hb d_Mo_log_45 ?_
        refine lv_if_le (tgt := 64) hx hb d_Mo_log_46 (by decide) (fun c6 => ?_) (fun c6 => ?_)
        · have hf := xif_t c6 hf
          exact K42_64 x2_42 x6_42 _ _ _ hP hD hS (lv_sub hl [2] rfl) hf
        · have hf := xif_f c6 hf
          refine lv_ldc2 (v := 2) hx hb hown (hts _ m_875) d_Mo_log_49 ?_
          refine lv_lload_n hx hb d_Mo_log_52 rfl (lv_at hl 0 rfl) ?_
          refine lv_lmul hx hb d_Mo_log_53 ?_
          refine lv_lstore_n (lv' := [(2, .long ((2 : Int64) * x2_42)), (4, .long x4_14), (6, .int x6_42)]) hx hb d_Mo_log_54 rfl hl (by decide) rfl (fun ls hl => ?_)
          refine lv_iload hx hb d_Mo_log_55 (lv_at hl 2 rfl) ?_
          refine lv_iconst (v := 1) hx hb d_Mo_log_57 (by decide) ?_
          refine lv_isub hx hb d_Mo_log_58 ?_
          refine lv_istore (lv' := [(6, .int (x6_42 - (1 : Int32))), (2, .long ((2 : Int64) * x2_42)), (4, .long x4_14)]) hx hb d_Mo_log_59 hl (by decide) rfl (fun ls hl => ?_)
          refine lv_goto (tgt := 42) hx hb d_Mo_log_61 (by decide) ?_
          exact ih42 ((2 : Int64) * x2_42) (x6_42 - (1 : Int32)) _ _ _ hP hD hS (lv_sub hl [1, 2, 0] rfl) hf
    exact L42 1000 r1 x6_14 _ _ _ hP hD hS (lv_sub hl [0, 1, 2] rfl) hf
  have L14 : ∀ (n14 : Nat), ∀ (x4_14 : Int64) (x6_14 : Int32) (H : Heap) (locs : List Loc) (ls : Array Slot), va_P (dC, dI) classes (wY ty ad mo_rows mo_columns mo_marks mo_letters mo_mate mo_made mo_nodes mo_sort mo_from mo_to mo_begin mo_other mo_states mo_kinds mo_nodeOf mo_steps mo_emissions mo_length mo_text mo_worked mo_values mo_hits mo_hitAt mo_hitLength mo_written mo_listState mo_listAt mo_listLength mo_stack) H → va_D A (wY ty ad mo_rows mo_columns mo_marks mo_letters mo_mate mo_made mo_nodes mo_sort mo_from mo_to mo_begin mo_other mo_states mo_kinds mo_nodeOf mo_steps mo_emissions mo_length mo_text mo_worked mo_values mo_hits mo_hitAt mo_hitLength mo_written mo_listState mo_listAt mo_listLength mo_stack) → va_S A s.heap H locs → lv_has ls 7 [(2, .long r1), (4, .long x4_14), (6, .int x6_14)] → f_Mo_log_L14 r1 (f_Mo_log_K14_42 r1) n14 x4_14 x6_14 = some (r0) → W p l e rm_Mo_log s m (List.toArray [.int a1, .int a2]) below meth c H locs 0 0 Q (F0 m 14 ls []) := by
    intro n14
    induction n14 with
    | zero =>
      intro x4_14 x6_14 H locs ls hP hD hS hl hf
      rw [f_Mo_log_L14] at hf
      cases hf
    | succ n14 ih14 =>
      intro x4_14 x6_14 H locs ls hP hD hS hl hf
      rw [f_Mo_log_L14] at hf
      refine lv_ldc2 (v := 2) hx hb hown (hts _ m_875) d_Mo_log_14 ?_
      refine lv_lload hx hb d_Mo_log_17 (lv_at hl 1 rfl) ?_
      refine lv_lmul hx hb d_Mo_log_19 ?_
      refine lv_lload_n hx hb d_Mo_log_20 rfl (lv_at hl 0 rfl) ?_
      refine W.lcmp hx hb d_Mo_log_21 ?_
      refine lv_if_gt (tgt := 42) hx hb d_Mo_log_22 (by decide) (fun c5 => ?_) (fun c5 => ?_)
      · have hf := xif_t c5 hf
        exact K14_42 x4_14 x6_14 _ _ _ hP hD hS (lv_sub hl [0, 1, 2] rfl) hf
      · have hf := xif_f c5 hf
        refine lv_ldc2 (v := 2) hx hb hown (hts _ m_875) d_Mo_log_25 ?_
        refine lv_lload hx hb d_Mo_log_28 (lv_at hl 1 rfl) ?_
        refine lv_lmul hx hb d_Mo_log_30 ?_
        refine lv_lstore (lv' := [(4, .long ((2 : Int64) * x4_14)), (2, .long r1), (6, .int x6_14)]) hx hb d_Mo_log_31 hl (by decide) rfl (fun ls hl => ?_)
        refine lv_iload hx hb d_Mo_log_33 (lv_at hl 2 rfl) ?_
        refine lv_iconst (v := 1) hx hb d_Mo_log_35 (by decide) ?_
        refine lv_iadd hx hb d_Mo_log_36 ?_
        refine lv_istore (lv' := [(6, .int (x6_14 + (1 : Int32))), (4, .long ((2 : Int64) * x4_14)), (2, .long r1)]) hx hb d_Mo_log_37 hl (by decide) rfl (fun ls hl => ?_)
        refine lv_goto (tgt := 14) hx hb d_Mo_log_39 (by decide) ?_
        exact ih14 ((2 : Int64) * x4_14) (x6_14 + (1 : Int32)) _ _ _ hP hD hS (lv_sub hl [2, 1, 0] rfl) hf
  exact L14 1000 r3 (0 : Int32) _ _ _ hP hD hS (lv_sub hl [2, 1, 0] rfl) hf
