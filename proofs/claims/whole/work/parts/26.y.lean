/-! pure functions and contracts of Mo_kindAt, Mo_rowsIn, Mo_rowsFrom (written by wip/gen) -/
def f_Mo_kindAt_J118 (t0_46 : Int32) (t0_87 : Int32)  : Option (Int32) := if t0_46 = (0 : Int32) then (if t0_87 = (0 : Int32) then (some ((4 : Int32))) else (some ((3 : Int32)))) else (some ((2 : Int32)))
def f_Mo_kindAt_J104 (t0_46 : Int32) (t0_87 : Int32)  : Option (Int32) := if t0_46 = (0 : Int32) then (f_Mo_kindAt_J118 t0_46 t0_87) else (if t0_87 = (0 : Int32) then (f_Mo_kindAt_J118 t0_46 t0_87) else (some ((1 : Int32))))
def f_Mo_kindAt_J87 (mo_sort : (Nat → Int32)) (a2 : Int32) (t0_46 : Int32) (t0_87 : Int32) : Option (Int32) := if (mo_sort (Int32.toNatClampNeg a2)) = (1 : Int32) then (f_Mo_kindAt_J104 t0_46 t0_87) else (if (mo_sort (Int32.toNatClampNeg a2)) = (2 : Int32) then (f_Mo_kindAt_J104 t0_46 t0_87) else (if (mo_sort (Int32.toNatClampNeg a2)) = (3 : Int32) then (f_Mo_kindAt_J104 t0_46 t0_87) else (if (mo_sort (Int32.toNatClampNeg a2)) = (4 : Int32) then (some ((7 : Int32))) else (if (mo_sort (Int32.toNatClampNeg a2)) = (7 : Int32) then (some ((8 : Int32))) else (some ((0 : Int32)))))))
def f_Mo_kindAt_J58 (mo_letters : (Nat → Int32)) (mo_sort : (Nat → Int32)) (mo_to : (Nat → Int32)) (a1 : Int32) (a2 : Int32) (t0_46 : Int32)  : Option (Int32) := gd (xin a2 24) (gd (xin (((8 : Int32) * a1) + (mo_to (Int32.toNatClampNeg a2))) 32) (if (4 : Int32) ≤ (mo_letters (Int32.toNatClampNeg (((8 : Int32) * a1) + (mo_to (Int32.toNatClampNeg a2))))) then (f_Mo_kindAt_J87 mo_sort a2 t0_46 (0 : Int32)) else (f_Mo_kindAt_J87 mo_sort a2 t0_46 (1 : Int32))))
def f_Mo_kindAt_J46 (mo_letters : (Nat → Int32)) (mo_sort : (Nat → Int32)) (mo_to : (Nat → Int32)) (a1 : Int32) (a2 : Int32) (t0_46 : Int32) : Option (Int32) := if (mo_sort (Int32.toNatClampNeg a2)) = (2 : Int32) then (f_Mo_kindAt_J58 mo_letters mo_sort mo_to a1 a2 t0_46) else (if (mo_sort (Int32.toNatClampNeg a2)) = (3 : Int32) then (f_Mo_kindAt_J58 mo_letters mo_sort mo_to a1 a2 t0_46) else (f_Mo_kindAt_J87 mo_sort a2 t0_46 (0 : Int32)))
def f_Mo_kindAt_J17 (mo_letters : (Nat → Int32)) (mo_sort : (Nat → Int32)) (mo_from : (Nat → Int32)) (mo_to : (Nat → Int32)) (a1 : Int32) (a2 : Int32)  : Option (Int32) := gd (xin a2 24) (gd (xin (((8 : Int32) * a1) + (mo_from (Int32.toNatClampNeg a2))) 32) (if (4 : Int32) ≤ (mo_letters (Int32.toNatClampNeg (((8 : Int32) * a1) + (mo_from (Int32.toNatClampNeg a2))))) then (f_Mo_kindAt_J46 mo_letters mo_sort mo_to a1 a2 (0 : Int32)) else (f_Mo_kindAt_J46 mo_letters mo_sort mo_to a1 a2 (1 : Int32))))
def f_Mo_kindAt (mo_letters : (Nat → Int32)) (mo_sort : (Nat → Int32)) (mo_from : (Nat → Int32)) (mo_to : (Nat → Int32)) (a1 : Int32) (a2 : Int32) : Option (Int32) := gd (xin a2 24) (if (mo_sort (Int32.toNatClampNeg a2)) = (1 : Int32) then (f_Mo_kindAt_J17 mo_letters mo_sort mo_from mo_to a1 a2) else (if (mo_sort (Int32.toNatClampNeg a2)) = (3 : Int32) then (f_Mo_kindAt_J17 mo_letters mo_sort mo_from mo_to a1 a2) else (f_Mo_kindAt_J46 mo_letters mo_sort mo_to a1 a2 (0 : Int32))))
set_option maxHeartbeats 4000000 in
set_option maxRecDepth 100000 in
theorem c_Mo_kindAt (l : Launch) (dC : Nat → ClassId) (dI : Nat → Nat → Nat) (ty : Nat → ClassId) (ad : Nat → Nat) (ta : Nat → Nat) (sz : Nat) (mo_rows : Int32) (mo_columns : Int32) (mo_marks : (Nat → Int32)) (mo_letters : (Nat → Int32)) (mo_mate : (Nat → Int32)) (mo_made : Int32) (mo_nodes : Int32) (mo_sort : (Nat → Int32)) (mo_from : (Nat → Int32)) (mo_to : (Nat → Int32)) (mo_begin : (Nat → Int32)) (mo_other : (Nat → Int32)) (mo_states : Int32) (mo_kinds : (Nat → Int32)) (mo_nodeOf : (Nat → Int32)) (mo_steps : (Nat → Int32)) (mo_emissions : (Nat → Int32)) (mo_length : Int32) (mo_text : (Nat → Int32)) (mo_worked : Int32) (mo_values : (Nat → Int32)) (mo_hits : Int32) (mo_hitAt : (Nat → Int32)) (mo_hitLength : (Nat → Int32)) (mo_written : Int32) (mo_listState : (Nat → Int32)) (mo_listAt : (Nat → Int32)) (mo_listLength : (Nat → Int32)) (mo_stack : (Nat → Int32)) (a1 : Int32) (a2 : Int32) (r0 : Int32) (hf : f_Mo_kindAt mo_letters mo_sort mo_from mo_to a1 a2 = some (r0)) : Met l y_Mo_kindAt (.code y_Mo_kindAt prog_10_method_15_code 6 (some .int) :: gw) rm_Mo_kindAt (xPre ta (dC, dI) classes (tys3 ty) (wY ty ad mo_rows mo_columns mo_marks mo_letters mo_mate mo_made mo_nodes mo_sort mo_from mo_to mo_begin mo_other mo_states mo_kinds mo_nodeOf mo_steps mo_emissions mo_length mo_text mo_worked mo_values mo_hits mo_hitAt mo_hitLength mo_written mo_listState mo_listAt mo_listLength mo_stack) sz [.ref (ad 0), .int a1, .int a2]) (xQi (dC, dI) classes (wY ty ad mo_rows mo_columns mo_marks mo_letters mo_mate mo_made mo_nodes mo_sort mo_from mo_to mo_begin mo_other mo_states mo_kinds mo_nodeOf mo_steps mo_emissions mo_length mo_text mo_worked mo_values mo_hits mo_hitAt mo_hitLength mo_written mo_listState mo_listAt mo_listLength mo_stack) (wY ty ad mo_rows mo_columns mo_marks mo_letters mo_mate mo_made mo_nodes mo_sort mo_from mo_to mo_begin mo_other mo_states mo_kinds mo_nodeOf mo_steps mo_emissions mo_length mo_text mo_worked mo_values mo_hits mo_hitAt mo_hitLength mo_written mo_listState mo_listAt mo_listLength mo_stack) sz r0) 0 0 (va_A (wY ty ad mo_rows mo_columns mo_marks mo_letters mo_mate mo_made mo_nodes mo_sort mo_from mo_to mo_begin mo_other mo_states mo_kinds mo_nodeOf mo_steps mo_emissions mo_length mo_text mo_worked mo_values mo_hits mo_hitAt mo_hitLength mo_written mo_listState mo_listAt mo_listLength mo_stack) sz) := by
  refine xmet_i rfl (Nat.le_of_ble_eq_true rfl) ?_
  intro p e s m below meth c A ls Q hx hb hml hts hown hK hN hA hP hD hS hl hret
  replace hown : s.vm.findClass R_Mo = some m.cls := hown
  have hl : lv_has ls 6 [(0, .ref (ad 0)), (1, .int a1), (2, .int a2)] := hl
  rw [f_Mo_kindAt] at hf
  obtain ⟨H, eH⟩ : ∃ H : Heap, H = s.heap := ⟨_, rfl⟩
  obtain ⟨locs, eL⟩ : ∃ L : List Loc, L = [] := ⟨_, rfl⟩
  have hP : va_P (dC, dI) classes (wY ty ad mo_rows mo_columns mo_marks mo_letters mo_mate mo_made mo_nodes mo_sort mo_from mo_to mo_begin mo_other mo_states mo_kinds mo_nodeOf mo_steps mo_emissions mo_length mo_text mo_worked mo_values mo_hits mo_hitAt mo_hitLength mo_written mo_listState mo_listAt mo_listLength mo_stack) H := by rw [eH]; exact hP
  have hS : va_S A s.heap H locs := by rw [eH, eL]; exact hS
  rw [← eL]
  suffices hgoal : W p l e rm_Mo_kindAt s m (List.toArray [.ref (ad 0), .int a1, .int a2]) below meth c H locs 0 0 Q (F0 m 0 ls []) by rw [eH] at hgoal; exact hgoal
  clear eH eL
  refine lv_aload_n hx hb d_Mo_kindAt_0 rfl (lv_at hl 0 rfl) ?_
  refine va_get (D := (dC, dI)) (ci := 8) (v := .ref (ad 4)) (C := R_Mo) (T := F_Mo) (N := 29) hx hb hts iw_Mo hown hK hP 0 rfl rfl 7 (by decide) (hts _ m_724) (fun _ h9 => h9) rfl d_Mo_kindAt_1 ?_
  refine lv_iload_n hx hb d_Mo_kindAt_4 rfl (lv_at hl 2 rfl) ?_
  obtain ⟨hi1, hf⟩ := gdi hf
  refine va_iald hx hb hK hP 4 0 rfl rfl hi1 d_Mo_kindAt_5 ?_
  refine lv_istore_n (lv' := [(3, .int (mo_sort (Int32.toNatClampNeg a2))), (0, .ref (ad 0)), (1, .int a1), (2, .int a2)]) hx hb d_Mo_kindAt_6 rfl hl (by decide) rfl (fun ls hl => ?_)
  refine lv_iload_n hx hb d_Mo_kindAt_7 rfl (lv_at hl 0 rfl) ?_
  refine lv_iconst (v := 1) hx hb d_Mo_kindAt_8 (by decide) ?_
  have J46 : ∀ (t0_46 : Int32) (H : Heap) (locs : List Loc) (ls : Array Slot), va_P (dC, dI) classes (wY ty ad mo_rows mo_columns mo_marks mo_letters mo_mate mo_made mo_nodes mo_sort mo_from mo_to mo_begin mo_other mo_states mo_kinds mo_nodeOf mo_steps mo_emissions mo_length mo_text mo_worked mo_values mo_hits mo_hitAt mo_hitLength mo_written mo_listState mo_listAt mo_listLength mo_stack) H → va_D A (wY ty ad mo_rows mo_columns mo_marks mo_letters mo_mate mo_made mo_nodes mo_sort mo_from mo_to mo_begin mo_other mo_states mo_kinds mo_nodeOf mo_steps mo_emissions mo_length mo_text mo_worked mo_values mo_hits mo_hitAt mo_hitLength mo_written mo_listState mo_listAt mo_listLength mo_stack) → va_S A s.heap H locs → lv_has ls 6 [(0, .ref (ad 0)), (1, .int a1), (2, .int a2), (3, .int (mo_sort (Int32.toNatClampNeg a2)))] → f_Mo_kindAt_J46 mo_letters mo_sort mo_to a1 a2 t0_46 = some (r0) → W p l e rm_Mo_kindAt s m (List.toArray [.ref (ad 0), .int a1, .int a2]) below meth c H locs 0 0 Q (F0 m 46 ls [.int t0_46]) := by
    intro t0_46 H locs ls hP hD hS hl hf
    rw [f_Mo_kindAt_J46] at hf
    refine lv_istore (lv' := [(4, .int t0_46), (0, .ref (ad 0)), (1, .int a1), (2, .int a2), (3, .int (mo_sort (Int32.toNatClampNeg a2)))]) hx hb d_Mo_kindAt_46 hl (by decide) rfl (fun ls hl => ?_)
    refine lv_iload_n hx hb d_Mo_kindAt_48 rfl (lv_at hl 4 rfl) ?_
    refine lv_iconst (v := 2) hx hb d_Mo_kindAt_49 (by decide) ?_
    have J87 : ∀ (t0_87 : Int32) (H : Heap) (locs : List Loc) (ls : Array Slot), va_P (dC, dI) classes (wY ty ad mo_rows mo_columns mo_marks mo_letters mo_mate mo_made mo_nodes mo_sort mo_from mo_to mo_begin mo_other mo_states mo_kinds mo_nodeOf mo_steps mo_emissions mo_length mo_text mo_worked mo_values mo_hits mo_hitAt mo_hitLength mo_written mo_listState mo_listAt mo_listLength mo_stack) H → va_D A (wY ty ad mo_rows mo_columns mo_marks mo_letters mo_mate mo_made mo_nodes mo_sort mo_from mo_to mo_begin mo_other mo_states mo_kinds mo_nodeOf mo_steps mo_emissions mo_length mo_text mo_worked mo_values mo_hits mo_hitAt mo_hitLength mo_written mo_listState mo_listAt mo_listLength mo_stack) → va_S A s.heap H locs → lv_has ls 6 [(3, .int (mo_sort (Int32.toNatClampNeg a2))), (4, .int t0_46)] → f_Mo_kindAt_J87 mo_sort a2 t0_46 t0_87 = some (r0) → W p l e rm_Mo_kindAt s m (List.toArray [.ref (ad 0), .int a1, .int a2]) below meth c H locs 0 0 Q (F0 m 87 ls [.int t0_87]) := by
      intro t0_87 H locs ls hP hD hS hl hf
      rw [f_Mo_kindAt_J87] at hf
      refine lv_istore (lv' := [(5, .int t0_87), (3, .int (mo_sort (Int32.toNatClampNeg a2))), (4, .int t0_46)]) hx hb d_Mo_kindAt_87 hl (by decide) rfl (fun ls hl => ?_)
      refine lv_iload_n hx hb d_Mo_kindAt_89 rfl (lv_at hl 1 rfl) ?_
      refine lv_iconst (v := 1) hx hb d_Mo_kindAt_90 (by decide) ?_
      have J104 : ∀  (H : Heap) (locs : List Loc) (ls : Array Slot), va_P (dC, dI) classes (wY ty ad mo_rows mo_columns mo_marks mo_letters mo_mate mo_made mo_nodes mo_sort mo_from mo_to mo_begin mo_other mo_states mo_kinds mo_nodeOf mo_steps mo_emissions mo_length mo_text mo_worked mo_values mo_hits mo_hitAt mo_hitLength mo_written mo_listState mo_listAt mo_listLength mo_stack) H → va_D A (wY ty ad mo_rows mo_columns mo_marks mo_letters mo_mate mo_made mo_nodes mo_sort mo_from mo_to mo_begin mo_other mo_states mo_kinds mo_nodeOf mo_steps mo_emissions mo_length mo_text mo_worked mo_values mo_hits mo_hitAt mo_hitLength mo_written mo_listState mo_listAt mo_listLength mo_stack) → va_S A s.heap H locs → lv_has ls 6 [(4, .int t0_46), (5, .int t0_87)] → f_Mo_kindAt_J104 t0_46 t0_87 = some (r0) → W p l e rm_Mo_kindAt s m (List.toArray [.ref (ad 0), .int a1, .int a2]) below meth c H locs 0 0 Q (F0 m 104 ls []) := by
        intro  H locs ls hP hD hS hl hf
        rw [f_Mo_kindAt_J104] at hf
        refine lv_iload hx hb d_Mo_kindAt_104 (lv_at hl 0 rfl) ?_
        have J118 : ∀  (H : Heap) (locs : List Loc) (ls : Array Slot), va_P (dC, dI) classes (wY ty ad mo_rows mo_columns mo_marks mo_letters mo_mate mo_made mo_nodes mo_sort mo_from mo_to mo_begin mo_other mo_states mo_kinds mo_nodeOf mo_steps mo_emissions mo_length mo_text mo_worked mo_values mo_hits mo_hitAt mo_hitLength mo_written mo_listState mo_listAt mo_listLength mo_stack) H → va_D A (wY ty ad mo_rows mo_columns mo_marks mo_letters mo_mate mo_made mo_nodes mo_sort mo_from mo_to mo_begin mo_other mo_states mo_kinds mo_nodeOf mo_steps mo_emissions mo_length mo_text mo_worked mo_values mo_hits mo_hitAt mo_hitLength mo_written mo_listState mo_listAt mo_listLength mo_stack) → va_S A s.heap H locs → lv_has ls 6 [(4, .int t0_46), (5, .int t0_87)] → f_Mo_kindAt_J118 t0_46 t0_87 = some (r0) → W p l e rm_Mo_kindAt s m (List.toArray [.ref (ad 0), .int a1, .int a2]) below meth c H locs 0 0 Q (F0 m 118 ls []) := by
          intro  H locs ls hP hD hS hl hf
          rw [f_Mo_kindAt_J118] at hf
          refine lv_iload hx hb d_Mo_kindAt_118 (lv_at hl 0 rfl) ?_
          refine lv_if_eq (tgt := 127) hx hb d_Mo_kindAt_120 (by decide) (fun c2 => ?_) (fun c2 => ?_)
          · have hf := xif_t c2 hf
            refine lv_iload hx hb d_Mo_kindAt_127 (lv_at hl 1 rfl) ?_
            refine lv_if_eq (tgt := 136) hx hb d_Mo_kindAt_129 (by decide) (fun c3 => ?_) (fun c3 => ?_)
            · have hf := xif_t c3 hf
              refine lv_iconst (v := 4) hx hb d_Mo_kindAt_136 (by decide) ?_
              obtain rfl := os1 hf
              exact hret H locs _ _ _ d_Mo_kindAt_137 rfl hP hS
            · have hf := xif_f c3 hf
              refine lv_iconst (v := 3) hx hb d_Mo_kindAt_132 (by decide) ?_
              refine lv_goto (tgt := 137) hx hb d_Mo_kindAt_133 (by decide) ?_
              obtain rfl := os1 hf
              exact hret H locs _ _ _ d_Mo_kindAt_137 rfl hP hS
          · have hf := xif_f c2 hf
            refine lv_iconst (v := 2) hx hb d_Mo_kindAt_123 (by decide) ?_
            refine lv_goto (tgt := 137) hx hb d_Mo_kindAt_124 (by decide) ?_
            obtain rfl := os1 hf
            exact hret H locs _ _ _ d_Mo_kindAt_137 rfl hP hS
        refine lv_if_eq (tgt := 118) hx hb d_Mo_kindAt_106 (by decide) (fun c4 => ?_) (fun c4 => ?_)
        · have hf := xif_t c4 hf
          exact J118  _ _ _ hP hD hS (lv_sub hl [0, 1] rfl) hf
        · have hf := xif_f c4 hf
          refine lv_iload hx hb d_Mo_kindAt_109 (lv_at hl 1 rfl) ?_
          refine lv_if_eq (tgt := 118) hx hb d_Mo_kindAt_111 (by decide) (fun c5 => ?_) (fun c5 => ?_)
          · have hf := xif_t c5 hf
            exact J118  _ _ _ hP hD hS (lv_sub hl [0, 1] rfl) hf
          · have hf := xif_f c5 hf
            refine lv_iconst (v := 1) hx hb d_Mo_kindAt_114 (by decide) ?_
            refine lv_goto (tgt := 137) hx hb d_Mo_kindAt_115 (by decide) ?_
            obtain rfl := os1 hf
            exact hret H locs _ _ _ d_Mo_kindAt_137 rfl hP hS
      refine lv_icmp_eq (tgt := 104) hx hb d_Mo_kindAt_91 (by decide) (fun c6 => ?_) (fun c6 => ?_)
      · have hf := xif_t c6 hf
        exact J104  _ _ _ hP hD hS (lv_sub hl [2, 0] rfl) hf
      · have hf := xif_f c6 hf
        refine lv_iload_n hx hb d_Mo_kindAt_94 rfl (lv_at hl 1 rfl) ?_
        refine lv_iconst (v := 2) hx hb d_Mo_kindAt_95 (by decide) ?_
        refine lv_icmp_eq (tgt := 104) hx hb d_Mo_kindAt_96 (by decide) (fun c7 => ?_) (fun c7 => ?_)
        · have hf := xif_t c7 hf
          exact J104  _ _ _ hP hD hS (lv_sub hl [2, 0] rfl) hf
        · have hf := xif_f c7 hf
          refine lv_iload_n hx hb d_Mo_kindAt_99 rfl (lv_at hl 1 rfl) ?_
          refine lv_iconst (v := 3) hx hb d_Mo_kindAt_100 (by decide) ?_
          refine lv_icmp_ne (tgt := 138) hx hb d_Mo_kindAt_101 (by decide) (fun c8 => ?_) (fun c8 => ?_)
          · have hf := xif_f c8 hf
            refine lv_iload_n hx hb d_Mo_kindAt_138 rfl (lv_at hl 1 rfl) ?_
            refine lv_iconst (v := 4) hx hb d_Mo_kindAt_139 (by decide) ?_
            refine lv_icmp_ne (tgt := 148) hx hb d_Mo_kindAt_140 (by decide) (fun c9 => ?_) (fun c9 => ?_)
            · have hf := xif_f c9 hf
              refine lv_iload_n hx hb d_Mo_kindAt_148 rfl (lv_at hl 1 rfl) ?_
              refine lv_bipush (v := 7) hx hb d_Mo_kindAt_149 (by decide) ?_
              refine lv_icmp_ne (tgt := 159) hx hb d_Mo_kindAt_151 (by decide) (fun c10 => ?_) (fun c10 => ?_)
              · have hf := xif_f c10 hf
                refine lv_iconst (v := 0) hx hb d_Mo_kindAt_159 (by decide) ?_
                obtain rfl := os1 hf
                exact hret H locs _ _ _ d_Mo_kindAt_160 rfl hP hS
              · have hf := xif_t c10 hf
                refine lv_bipush (v := 8) hx hb d_Mo_kindAt_154 (by decide) ?_
                refine lv_goto (tgt := 160) hx hb d_Mo_kindAt_156 (by decide) ?_
                obtain rfl := os1 hf
                exact hret H locs _ _ _ d_Mo_kindAt_160 rfl hP hS
            · have hf := xif_t c9 hf
              refine lv_bipush (v := 7) hx hb d_Mo_kindAt_143 (by decide) ?_
              refine lv_goto (tgt := 160) hx hb d_Mo_kindAt_145 (by decide) ?_
              obtain rfl := os1 hf
              exact hret H locs _ _ _ d_Mo_kindAt_160 rfl hP hS
          · have hf := xif_t c8 hf
            exact J104  _ _ _ hP hD hS (lv_sub hl [2, 0] rfl) hf
    have J58 : ∀  (H : Heap) (locs : List Loc) (ls : Array Slot), va_P (dC, dI) classes (wY ty ad mo_rows mo_columns mo_marks mo_letters mo_mate mo_made mo_nodes mo_sort mo_from mo_to mo_begin mo_other mo_states mo_kinds mo_nodeOf mo_steps mo_emissions mo_length mo_text mo_worked mo_values mo_hits mo_hitAt mo_hitLength mo_written mo_listState mo_listAt mo_listLength mo_stack) H → va_D A (wY ty ad mo_rows mo_columns mo_marks mo_letters mo_mate mo_made mo_nodes mo_sort mo_from mo_to mo_begin mo_other mo_states mo_kinds mo_nodeOf mo_steps mo_emissions mo_length mo_text mo_worked mo_values mo_hits mo_hitAt mo_hitLength mo_written mo_listState mo_listAt mo_listLength mo_stack) → va_S A s.heap H locs → lv_has ls 6 [(0, .ref (ad 0)), (1, .int a1), (2, .int a2), (3, .int (mo_sort (Int32.toNatClampNeg a2))), (4, .int t0_46)] → f_Mo_kindAt_J58 mo_letters mo_sort mo_to a1 a2 t0_46 = some (r0) → W p l e rm_Mo_kindAt s m (List.toArray [.ref (ad 0), .int a1, .int a2]) below meth c H locs 0 0 Q (F0 m 58 ls []) := by
      intro  H locs ls hP hD hS hl hf
      rw [f_Mo_kindAt_J58] at hf
      refine lv_aload_n hx hb d_Mo_kindAt_58 rfl (lv_at hl 0 rfl) ?_
      refine va_get (D := (dC, dI)) (ci := 8) (v := .ref (ad 2)) (C := R_Mo) (T := F_Mo) (N := 29) hx hb hts iw_Mo hown hK hP 0 rfl rfl 3 (by decide) (hts _ m_720) (fun _ h9 => h9) rfl d_Mo_kindAt_59 ?_
      refine lv_bipush (v := 8) hx hb d_Mo_kindAt_62 (by decide) ?_
      refine lv_iload_n hx hb d_Mo_kindAt_64 rfl (lv_at hl 1 rfl) ?_
      refine lv_imul hx hb d_Mo_kindAt_65 ?_
      refine lv_aload_n hx hb d_Mo_kindAt_66 rfl (lv_at hl 0 rfl) ?_
      refine va_get (D := (dC, dI)) (ci := 8) (v := .ref (ad 6)) (C := R_Mo) (T := F_Mo) (N := 29) hx hb hts iw_Mo hown hK hP 0 rfl rfl 9 (by decide) (hts _ m_726) (fun _ h9 => h9) rfl d_Mo_kindAt_67 ?_
      refine lv_iload_n hx hb d_Mo_kindAt_70 rfl (lv_at hl 2 rfl) ?_
      obtain ⟨hi11, hf⟩ := gdi hf
      refine va_iald hx hb hK hP 6 0 rfl rfl hi11 d_Mo_kindAt_71 ?_
      refine lv_iadd hx hb d_Mo_kindAt_72 ?_
      obtain ⟨hi12, hf⟩ := gdi hf
      refine va_iald hx hb hK hP 2 0 rfl rfl hi12 d_Mo_kindAt_73 ?_
      refine lv_iconst (v := 4) hx hb d_Mo_kindAt_74 (by decide) ?_
      refine lv_icmp_ge (tgt := 82) hx hb d_Mo_kindAt_75 (by decide) (fun c13 => ?_) (fun c13 => ?_)
      · have hf := xif_t c13 hf
        refine lv_iconst (v := 0) hx hb d_Mo_kindAt_82 (by decide) ?_
        refine lv_goto (tgt := 87) hx hb d_Mo_kindAt_83 (by decide) ?_
        exact J87 (0 : Int32) _ _ _ hP hD hS (lv_sub hl [3, 4] rfl) hf
      · have hf := xif_f c13 hf
        refine lv_iconst (v := 1) hx hb d_Mo_kindAt_78 (by decide) ?_
        refine lv_goto (tgt := 87) hx hb d_Mo_kindAt_79 (by decide) ?_
        exact J87 (1 : Int32) _ _ _ hP hD hS (lv_sub hl [3, 4] rfl) hf
    refine lv_icmp_eq (tgt := 58) hx hb d_Mo_kindAt_50 (by decide) (fun c14 => ?_) (fun c14 => ?_)
    · have hf := xif_t c14 hf
      exact J58  _ _ _ hP hD hS (lv_sub hl [1, 2, 3, 4, 0] rfl) hf
    · have hf := xif_f c14 hf
      refine lv_iload_n hx hb d_Mo_kindAt_53 rfl (lv_at hl 4 rfl) ?_
      refine lv_iconst (v := 3) hx hb d_Mo_kindAt_54 (by decide) ?_
      refine lv_icmp_ne (tgt := 86) hx hb d_Mo_kindAt_55 (by decide) (fun c15 => ?_) (fun c15 => ?_)
      · have hf := xif_f c15 hf
        refine lv_iconst (v := 0) hx hb d_Mo_kindAt_86 (by decide) ?_
        exact J87 (0 : Int32) _ _ _ hP hD hS (lv_sub hl [4, 0] rfl) hf
      · have hf := xif_t c15 hf
        exact J58  _ _ _ hP hD hS (lv_sub hl [1, 2, 3, 4, 0] rfl) hf
  have J17 : ∀  (H : Heap) (locs : List Loc) (ls : Array Slot), va_P (dC, dI) classes (wY ty ad mo_rows mo_columns mo_marks mo_letters mo_mate mo_made mo_nodes mo_sort mo_from mo_to mo_begin mo_other mo_states mo_kinds mo_nodeOf mo_steps mo_emissions mo_length mo_text mo_worked mo_values mo_hits mo_hitAt mo_hitLength mo_written mo_listState mo_listAt mo_listLength mo_stack) H → va_D A (wY ty ad mo_rows mo_columns mo_marks mo_letters mo_mate mo_made mo_nodes mo_sort mo_from mo_to mo_begin mo_other mo_states mo_kinds mo_nodeOf mo_steps mo_emissions mo_length mo_text mo_worked mo_values mo_hits mo_hitAt mo_hitLength mo_written mo_listState mo_listAt mo_listLength mo_stack) → va_S A s.heap H locs → lv_has ls 6 [(0, .ref (ad 0)), (1, .int a1), (2, .int a2), (3, .int (mo_sort (Int32.toNatClampNeg a2)))] → f_Mo_kindAt_J17 mo_letters mo_sort mo_from mo_to a1 a2 = some (r0) → W p l e rm_Mo_kindAt s m (List.toArray [.ref (ad 0), .int a1, .int a2]) below meth c H locs 0 0 Q (F0 m 17 ls []) := by
    intro  H locs ls hP hD hS hl hf
    rw [f_Mo_kindAt_J17] at hf
    refine lv_aload_n hx hb d_Mo_kindAt_17 rfl (lv_at hl 0 rfl) ?_
    refine va_get (D := (dC, dI)) (ci := 8) (v := .ref (ad 2)) (C := R_Mo) (T := F_Mo) (N := 29) hx hb hts iw_Mo hown hK hP 0 rfl rfl 3 (by decide) (hts _ m_720) (fun _ h9 => h9) rfl d_Mo_kindAt_18 ?_
    refine lv_bipush (v := 8) hx hb d_Mo_kindAt_21 (by decide) ?_
    refine lv_iload_n hx hb d_Mo_kindAt_23 rfl (lv_at hl 1 rfl) ?_
    refine lv_imul hx hb d_Mo_kindAt_24 ?_
    refine lv_aload_n hx hb d_Mo_kindAt_25 rfl (lv_at hl 0 rfl) ?_
    refine va_get (D := (dC, dI)) (ci := 8) (v := .ref (ad 5)) (C := R_Mo) (T := F_Mo) (N := 29) hx hb hts iw_Mo hown hK hP 0 rfl rfl 8 (by decide) (hts _ m_725) (fun _ h9 => h9) rfl d_Mo_kindAt_26 ?_
    refine lv_iload_n hx hb d_Mo_kindAt_29 rfl (lv_at hl 2 rfl) ?_
    obtain ⟨hi16, hf⟩ := gdi hf
    refine va_iald hx hb hK hP 5 0 rfl rfl hi16 d_Mo_kindAt_30 ?_
    refine lv_iadd hx hb d_Mo_kindAt_31 ?_
    obtain ⟨hi17, hf⟩ := gdi hf
    refine va_iald hx hb hK hP 2 0 rfl rfl hi17 d_Mo_kindAt_32 ?_
    refine lv_iconst (v := 4) hx hb d_Mo_kindAt_33 (by decide) ?_
    refine lv_icmp_ge (tgt := 41) hx hb d_Mo_kindAt_34 (by decide) (fun c18 => ?_) (fun c18 => ?_)
    · have hf := xif_t c18 hf
      refine lv_iconst (v := 0) hx hb d_Mo_kindAt_41 (by decide) ?_
      refine lv_goto (tgt := 46) hx hb d_Mo_kindAt_42 (by decide) ?_
      exact J46 (0 : Int32) _ _ _ hP hD hS (lv_sub hl [0, 1, 2, 3] rfl) hf
    · have hf := xif_f c18 hf
      refine lv_iconst (v := 1) hx hb d_Mo_kindAt_37 (by decide) ?_
      refine lv_goto (tgt := 46) hx hb d_Mo_kindAt_38 (by decide) ?_
      exact J46 (1 : Int32) _ _ _ hP hD hS (lv_sub hl [0, 1, 2, 3] rfl) hf
  refine lv_icmp_eq (tgt := 17) hx hb d_Mo_kindAt_9 (by decide) (fun c19 => ?_) (fun c19 => ?_)
  · have hf := xif_t c19 hf
    exact J17  _ _ _ hP hD hS (lv_sub hl [1, 2, 3, 0] rfl) hf
  · have hf := xif_f c19 hf
    refine lv_iload_n hx hb d_Mo_kindAt_12 rfl (lv_at hl 0 rfl) ?_
    refine lv_iconst (v := 3) hx hb d_Mo_kindAt_13 (by decide) ?_
    refine lv_icmp_ne (tgt := 45) hx hb d_Mo_kindAt_14 (by decide) (fun c20 => ?_) (fun c20 => ?_)
    · have hf := xif_f c20 hf
      refine lv_iconst (v := 0) hx hb d_Mo_kindAt_45 (by decide) ?_
      exact J46 (0 : Int32) _ _ _ hP hD hS (lv_sub hl [1, 2, 3, 0] rfl) hf
    · have hf := xif_t c20 hf
      exact J17  _ _ _ hP hD hS (lv_sub hl [1, 2, 3, 0] rfl) hf
def f_Mo_rowsIn_K4_46  (x2_4 : Int32) (x3_4 : Int32) : Option (Int32) := some (x2_4)
def f_Mo_rowsIn_L4 (mo_rows : Int32) (mo_letters : (Nat → Int32)) (mo_sort : (Nat → Int32)) (mo_from : (Nat → Int32)) (mo_to : (Nat → Int32)) (mo_kinds : (Nat → Int32)) (mo_nodeOf : (Nat → Int32)) (a1 : Int32) (k4_46 : (Int32 → Int32 → Option (Int32))) : Nat → Int32 → Int32 → Option (Int32)
  | 0, _, _ => none
  | n4 + 1, x2_4, x3_4 => if mo_rows ≤ x3_4 then (k4_46 x2_4 x3_4) else (gd (xin a1 48) (ob1 (f_Mo_kindAt mo_letters mo_sort mo_from mo_to x3_4 (mo_nodeOf (Int32.toNatClampNeg a1))) (fun r3 => gd (xin a1 48) (if r3 = (mo_kinds (Int32.toNatClampNeg a1)) then ((f_Mo_rowsIn_L4 mo_rows mo_letters mo_sort mo_from mo_to mo_kinds mo_nodeOf a1 k4_46 n4) (x2_4 + (1 : Int32)) (x3_4 + (1 : Int32))) else ((f_Mo_rowsIn_L4 mo_rows mo_letters mo_sort mo_from mo_to mo_kinds mo_nodeOf a1 k4_46 n4) x2_4 (x3_4 + (1 : Int32)))))))
def f_Mo_rowsIn (mo_rows : Int32) (mo_letters : (Nat → Int32)) (mo_sort : (Nat → Int32)) (mo_from : (Nat → Int32)) (mo_to : (Nat → Int32)) (mo_kinds : (Nat → Int32)) (mo_nodeOf : (Nat → Int32)) (a1 : Int32) : Option (Int32) := f_Mo_rowsIn_L4 mo_rows mo_letters mo_sort mo_from mo_to mo_kinds mo_nodeOf a1 (f_Mo_rowsIn_K4_46) 1000 (0 : Int32) (0 : Int32)
set_option maxHeartbeats 4000000 in
set_option maxRecDepth 100000 in
theorem c_Mo_rowsIn (l : Launch) (dC : Nat → ClassId) (dI : Nat → Nat → Nat) (ty : Nat → ClassId) (ad : Nat → Nat) (ta : Nat → Nat) (sz : Nat) (mo_rows : Int32) (mo_columns : Int32) (mo_marks : (Nat → Int32)) (mo_letters : (Nat → Int32)) (mo_mate : (Nat → Int32)) (mo_made : Int32) (mo_nodes : Int32) (mo_sort : (Nat → Int32)) (mo_from : (Nat → Int32)) (mo_to : (Nat → Int32)) (mo_begin : (Nat → Int32)) (mo_other : (Nat → Int32)) (mo_states : Int32) (mo_kinds : (Nat → Int32)) (mo_nodeOf : (Nat → Int32)) (mo_steps : (Nat → Int32)) (mo_emissions : (Nat → Int32)) (mo_length : Int32) (mo_text : (Nat → Int32)) (mo_worked : Int32) (mo_values : (Nat → Int32)) (mo_hits : Int32) (mo_hitAt : (Nat → Int32)) (mo_hitLength : (Nat → Int32)) (mo_written : Int32) (mo_listState : (Nat → Int32)) (mo_listAt : (Nat → Int32)) (mo_listLength : (Nat → Int32)) (mo_stack : (Nat → Int32)) (a1 : Int32) (r0 : Int32) (hf : f_Mo_rowsIn mo_rows mo_letters mo_sort mo_from mo_to mo_kinds mo_nodeOf a1 = some (r0)) : Met l y_Mo_rowsIn (.code y_Mo_rowsIn prog_10_method_16_code 4 (some .int) :: gw) rm_Mo_rowsIn (xPre ta (dC, dI) classes (tys3 ty) (wY ty ad mo_rows mo_columns mo_marks mo_letters mo_mate mo_made mo_nodes mo_sort mo_from mo_to mo_begin mo_other mo_states mo_kinds mo_nodeOf mo_steps mo_emissions mo_length mo_text mo_worked mo_values mo_hits mo_hitAt mo_hitLength mo_written mo_listState mo_listAt mo_listLength mo_stack) sz [.ref (ad 0), .int a1]) (xQi (dC, dI) classes (wY ty ad mo_rows mo_columns mo_marks mo_letters mo_mate mo_made mo_nodes mo_sort mo_from mo_to mo_begin mo_other mo_states mo_kinds mo_nodeOf mo_steps mo_emissions mo_length mo_text mo_worked mo_values mo_hits mo_hitAt mo_hitLength mo_written mo_listState mo_listAt mo_listLength mo_stack) (wY ty ad mo_rows mo_columns mo_marks mo_letters mo_mate mo_made mo_nodes mo_sort mo_from mo_to mo_begin mo_other mo_states mo_kinds mo_nodeOf mo_steps mo_emissions mo_length mo_text mo_worked mo_values mo_hits mo_hitAt mo_hitLength mo_written mo_listState mo_listAt mo_listLength mo_stack) sz r0) 0 0 (va_A (wY ty ad mo_rows mo_columns mo_marks mo_letters mo_mate mo_made mo_nodes mo_sort mo_from mo_to mo_begin mo_other mo_states mo_kinds mo_nodeOf mo_steps mo_emissions mo_length mo_text mo_worked mo_values mo_hits mo_hitAt mo_hitLength mo_written mo_listState mo_listAt mo_listLength mo_stack) sz) := by
  refine xmet_i rfl (Nat.le_of_ble_eq_true rfl) ?_
  intro p e s m below meth c A ls Q hx hb hml hts hown hK hN hA hP hD hS hl hret
  replace hown : s.vm.findClass R_Mo = some m.cls := hown
  have hl : lv_has ls 4 [(0, .ref (ad 0)), (1, .int a1)] := hl
  rw [f_Mo_rowsIn] at hf
  obtain ⟨H, eH⟩ : ∃ H : Heap, H = s.heap := ⟨_, rfl⟩
  obtain ⟨locs, eL⟩ : ∃ L : List Loc, L = [] := ⟨_, rfl⟩
  have hP : va_P (dC, dI) classes (wY ty ad mo_rows mo_columns mo_marks mo_letters mo_mate mo_made mo_nodes mo_sort mo_from mo_to mo_begin mo_other mo_states mo_kinds mo_nodeOf mo_steps mo_emissions mo_length mo_text mo_worked mo_values mo_hits mo_hitAt mo_hitLength mo_written mo_listState mo_listAt mo_listLength mo_stack) H := by rw [eH]; exact hP
  have hS : va_S A s.heap H locs := by rw [eH, eL]; exact hS
  rw [← eL]
  suffices hgoal : W p l e rm_Mo_rowsIn s m (List.toArray [.ref (ad 0), .int a1]) below meth c H locs 0 0 Q (F0 m 0 ls []) by rw [eH] at hgoal; exact hgoal
  clear eH eL
  refine lv_iconst (v := 0) hx hb d_Mo_rowsIn_0 (by decide) ?_
  refine lv_istore_n (lv' := [(2, .int (0 : Int32)), (0, .ref (ad 0)), (1, .int a1)]) hx hb d_Mo_rowsIn_1 rfl hl (by decide) rfl (fun ls hl => ?_)
  refine lv_iconst (v := 0) hx hb d_Mo_rowsIn_2 (by decide) ?_
  refine lv_istore_n (lv' := [(3, .int (0 : Int32)), (2, .int (0 : Int32)), (0, .ref (ad 0)), (1, .int a1)]) hx hb d_Mo_rowsIn_3 rfl hl (by decide) rfl (fun ls hl => ?_)
  have K4_46 : ∀ (x2_4 : Int32) (x3_4 : Int32) (H : Heap) (locs : List Loc) (ls : Array Slot), va_P (dC, dI) classes (wY ty ad mo_rows mo_columns mo_marks mo_letters mo_mate mo_made mo_nodes mo_sort mo_from mo_to mo_begin mo_other mo_states mo_kinds mo_nodeOf mo_steps mo_emissions mo_length mo_text mo_worked mo_values mo_hits mo_hitAt mo_hitLength mo_written mo_listState mo_listAt mo_listLength mo_stack) H → va_D A (wY ty ad mo_rows mo_columns mo_marks mo_letters mo_mate mo_made mo_nodes mo_sort mo_from mo_to mo_begin mo_other mo_states mo_kinds mo_nodeOf mo_steps mo_emissions mo_length mo_text mo_worked mo_values mo_hits mo_hitAt mo_hitLength mo_written mo_listState mo_listAt mo_listLength mo_stack) → va_S A s.heap H locs → lv_has ls 4 [(2, .int x2_4)] → f_Mo_rowsIn_K4_46 x2_4 x3_4 = some (r0) → W p l e rm_Mo_rowsIn s m (List.toArray [.ref (ad 0), .int a1]) below meth c H locs 0 0 Q (F0 m 46 ls []) := by
    intro x2_4 x3_4 H locs ls hP hD hS hl hf
    rw [f_Mo_rowsIn_K4_46] at hf
    refine lv_iload_n hx hb d_Mo_rowsIn_46 rfl (lv_at hl 0 rfl) ?_
    obtain rfl := os1 hf
    exact hret H locs _ _ _ d_Mo_rowsIn_47 rfl hP hS
  have L4 : ∀ (n4 : Nat), ∀ (x2_4 : Int32) (x3_4 : Int32) (H : Heap) (locs : List Loc) (ls : Array Slot), va_P (dC, dI) classes (wY ty ad mo_rows mo_columns mo_marks mo_letters mo_mate mo_made mo_nodes mo_sort mo_from mo_to mo_begin mo_other mo_states mo_kinds mo_nodeOf mo_steps mo_emissions mo_length mo_text mo_worked mo_values mo_hits mo_hitAt mo_hitLength mo_written mo_listState mo_listAt mo_listLength mo_stack) H → va_D A (wY ty ad mo_rows mo_columns mo_marks mo_letters mo_mate mo_made mo_nodes mo_sort mo_from mo_to mo_begin mo_other mo_states mo_kinds mo_nodeOf mo_steps mo_emissions mo_length mo_text mo_worked mo_values mo_hits mo_hitAt mo_hitLength mo_written mo_listState mo_listAt mo_listLength mo_stack) → va_S A s.heap H locs → lv_has ls 4 [(0, .ref (ad 0)), (1, .int a1), (2, .int x2_4), (3, .int x3_4)] → f_Mo_rowsIn_L4 mo_rows mo_letters mo_sort mo_from mo_to mo_kinds mo_nodeOf a1 (f_Mo_rowsIn_K4_46) n4 x2_4 x3_4 = some (r0) → W p l e rm_Mo_rowsIn s m (List.toArray [.ref (ad 0), .int a1]) below meth c H locs 0 0 Q (F0 m 4 ls []) := by
    intro n4
    induction n4 with
    | zero =>
      intro x2_4 x3_4 H locs ls hP hD hS hl hf
      rw [f_Mo_rowsIn_L4] at hf
      cases hf
    | succ n4 ih4 =>
      intro x2_4 x3_4 H locs ls hP hD hS hl hf
      rw [f_Mo_rowsIn_L4] at hf
      refine lv_iload_n hx hb d_Mo_rowsIn_4 rfl (lv_at hl 3 rfl) ?_
      refine lv_aload_n hx hb d_Mo_rowsIn_5 rfl (lv_at hl 0 rfl) ?_
      refine va_get (D := (dC, dI)) (ci := 8) (v := .int mo_rows) (C := R_Mo) (T := F_Mo) (N := 29) hx hb hts iw_Mo hown hK hP 0 rfl rfl 0 (by decide) (hts _ m_717) (fun _ h9 => h9) rfl d_Mo_rowsIn_6 ?_
      refine lv_icmp_ge (tgt := 46) hx hb d_Mo_rowsIn_9 (by decide) (fun c1 => ?_) (fun c1 => ?_)
      · have hf := xif_t c1 hf
        exact K4_46 x2_4 x3_4 _ _ _ hP hD hS (lv_sub hl [2] rfl) hf
      · have hf := xif_f c1 hf
        refine lv_aload_n hx hb d_Mo_rowsIn_12 rfl (lv_at hl 0 rfl) ?_
        refine lv_iload_n hx hb d_Mo_rowsIn_13 rfl (lv_at hl 3 rfl) ?_
        refine lv_aload_n hx hb d_Mo_rowsIn_14 rfl (lv_at hl 0 rfl) ?_
        refine va_get (D := (dC, dI)) (ci := 8) (v := .ref (ad 10)) (C := R_Mo) (T := F_Mo) (N := 29) hx hb hts iw_Mo hown hK hP 0 rfl rfl 14 (by decide) (hts _ m_731) (fun _ h9 => h9) rfl d_Mo_rowsIn_15 ?_
        refine lv_iload_n hx hb d_Mo_rowsIn_18 rfl (lv_at hl 1 rfl) ?_
        obtain ⟨hi2, hf⟩ := gdi hf
        refine va_iald hx hb hK hP 10 0 rfl rfl hi2 d_Mo_rowsIn_19 ?_
        obtain ⟨r3, hc4, hf⟩ := ob1_inv hf
        refine xk_i (xrunV (C := R_Mo) (As := [.int x3_4, .int (mo_nodeOf (Int32.toNatClampNeg a1))]) (rest := []) ⟨hx, hb, hml, hown, hts⟩ (c_Mo_kindAt l dC dI ty ad ta H.size mo_rows mo_columns mo_marks mo_letters mo_mate mo_made mo_nodes mo_sort mo_from mo_to mo_begin mo_other mo_states mo_kinds mo_nodeOf mo_steps mo_emissions mo_length mo_text mo_worked mo_values mo_hits mo_hitAt mo_hitLength mo_written mo_listState mo_listAt mo_listLength mo_stack x3_4 (mo_nodeOf (Int32.toNatClampNeg a1)) r3 hc4) z_Mo_115 ⟨⟨rfl, rfl⟩, by decide, by decide⟩ hK hP hD hN hS hA (va_recv hK hP (ci := 8) (q0 := 0) rfl rfl) rfl hl.1 rfl (Nat.le_of_ble_eq_true rfl) d_Mo_rowsIn_20 ⟨Nat.zero_le _, Nat.zero_le _⟩) hS hD rfl hA (fun H locs hP hD hS => ?_)
        refine W.eq (g2 := F0 m 23 ls [.int r3]) rfl ?_
        refine lv_aload_n hx hb d_Mo_rowsIn_23 rfl (lv_at hl 0 rfl) ?_
        refine va_get (D := (dC, dI)) (ci := 8) (v := .ref (ad 9)) (C := R_Mo) (T := F_Mo) (N := 29) hx hb hts iw_Mo hown hK hP 0 rfl rfl 13 (by decide) (hts _ m_730) (fun _ h9 => h9) rfl d_Mo_rowsIn_24 ?_
        refine lv_iload_n hx hb d_Mo_rowsIn_27 rfl (lv_at hl 1 rfl) ?_
        obtain ⟨hi5, hf⟩ := gdi hf
        refine va_iald hx hb hK hP 9 0 rfl rfl hi5 d_Mo_rowsIn_28 ?_
        refine lv_icmp_ne (tgt := 38) hx hb d_Mo_rowsIn_29 (by decide) (fun c6 => ?_) (fun c6 => ?_)
        · have hf := xif_f c6 hf
          refine lv_iload_n hx hb d_Mo_rowsIn_38 rfl (lv_at hl 2 rfl) ?_
          refine lv_istore_n (lv' := [(2, .int x2_4), (0, .ref (ad 0)), (1, .int a1), (3, .int x3_4)]) hx hb d_Mo_rowsIn_39 rfl hl (by decide) rfl (fun ls hl => ?_)
          refine lv_iinc (v := (x3_4 + (1 : Int32))) (lv' := [(3, .int (x3_4 + (1 : Int32))), (2, .int x2_4), (0, .ref (ad 0)), (1, .int a1)]) hx hb d_Mo_rowsIn_40 hl (k := 3) rfl rfl (by decide) rfl (fun ls hl => ?_)
          refine lv_goto (tgt := 4) hx hb d_Mo_rowsIn_43 (by decide) ?_
          exact ih4 x2_4 (x3_4 + (1 : Int32)) _ _ _ hP hD hS (lv_sub hl [2, 3, 1, 0] rfl) hf
        · have hf := xif_t c6 hf
          refine lv_iload_n hx hb d_Mo_rowsIn_32 rfl (lv_at hl 2 rfl) ?_
          refine lv_iconst (v := 1) hx hb d_Mo_rowsIn_33 (by decide) ?_
          refine lv_iadd hx hb d_Mo_rowsIn_34 ?_
          refine lv_goto (tgt := 39) hx hb d_Mo_rowsIn_35 (by decide) ?_
          refine lv_istore_n (lv' := [(2, .int (x2_4 + (1 : Int32))), (0, .ref (ad 0)), (1, .int a1), (3, .int x3_4)]) hx hb d_Mo_rowsIn_39 rfl hl (by decide) rfl (fun ls hl => ?_)
          refine lv_iinc (v := (x3_4 + (1 : Int32))) (lv' := [(3, .int (x3_4 + (1 : Int32))), (2, .int (x2_4 + (1 : Int32))), (0, .ref (ad 0)), (1, .int a1)]) hx hb d_Mo_rowsIn_40 hl (k := 3) rfl rfl (by decide) rfl (fun ls hl => ?_)
          refine lv_goto (tgt := 4) hx hb d_Mo_rowsIn_43 (by decide) ?_
          exact ih4 (x2_4 + (1 : Int32)) (x3_4 + (1 : Int32)) _ _ _ hP hD hS (lv_sub hl [2, 3, 1, 0] rfl) hf
  exact L4 1000 (0 : Int32) (0 : Int32) _ _ _ hP hD hS (lv_sub hl [2, 3, 1, 0] rfl) hf
def f_Mo_rowsFrom_K5_70  (x3_5 : Int32) (x4_5 : Int32) : Option (Int32) := some (x3_5)
def f_Mo_rowsFrom_L5 (mo_rows : Int32) (mo_letters : (Nat → Int32)) (mo_sort : (Nat → Int32)) (mo_from : (Nat → Int32)) (mo_to : (Nat → Int32)) (mo_kinds : (Nat → Int32)) (mo_nodeOf : (Nat → Int32)) (a1 : Int32) (a2 : Int32) (k5_70 : (Int32 → Int32 → Option (Int32))) : Nat → Int32 → Int32 → Option (Int32)
  | 0, _, _ => none
  | n5 + 1, x3_5, x4_5 => if mo_rows ≤ x4_5 then (k5_70 x3_5 x4_5) else (gd (xin a1 48) (ob1 (f_Mo_kindAt mo_letters mo_sort mo_from mo_to x4_5 (mo_nodeOf (Int32.toNatClampNeg a1))) (fun r3 => gd (xin a1 48) (if r3 = (mo_kinds (Int32.toNatClampNeg a1)) then (gd (xin a2 48) (ob1 (f_Mo_kindAt mo_letters mo_sort mo_from mo_to x4_5 (mo_nodeOf (Int32.toNatClampNeg a2))) (fun r8 => gd (xin a2 48) (if r8 = (mo_kinds (Int32.toNatClampNeg a2)) then ((f_Mo_rowsFrom_L5 mo_rows mo_letters mo_sort mo_from mo_to mo_kinds mo_nodeOf a1 a2 k5_70 n5) (x3_5 + (1 : Int32)) (x4_5 + (1 : Int32))) else ((f_Mo_rowsFrom_L5 mo_rows mo_letters mo_sort mo_from mo_to mo_kinds mo_nodeOf a1 a2 k5_70 n5) x3_5 (x4_5 + (1 : Int32))))))) else ((f_Mo_rowsFrom_L5 mo_rows mo_letters mo_sort mo_from mo_to mo_kinds mo_nodeOf a1 a2 k5_70 n5) x3_5 (x4_5 + (1 : Int32)))))))
def f_Mo_rowsFrom (mo_rows : Int32) (mo_letters : (Nat → Int32)) (mo_sort : (Nat → Int32)) (mo_from : (Nat → Int32)) (mo_to : (Nat → Int32)) (mo_kinds : (Nat → Int32)) (mo_nodeOf : (Nat → Int32)) (a1 : Int32) (a2 : Int32) : Option (Int32) := f_Mo_rowsFrom_L5 mo_rows mo_letters mo_sort mo_from mo_to mo_kinds mo_nodeOf a1 a2 (f_Mo_rowsFrom_K5_70) 1000 (0 : Int32) (0 : Int32)
set_option maxHeartbeats 4000000 in
set_option maxRecDepth 100000 in
theorem c_Mo_rowsFrom (l : Launch) (dC : Nat → ClassId) (dI : Nat → Nat → Nat) (ty : Nat → ClassId) (ad : Nat → Nat) (ta : Nat → Nat) (sz : Nat) (mo_rows : Int32) (mo_columns : Int32) (mo_marks : (Nat → Int32)) (mo_letters : (Nat → Int32)) (mo_mate : (Nat → Int32)) (mo_made : Int32) (mo_nodes : Int32) (mo_sort : (Nat → Int32)) (mo_from : (Nat → Int32)) (mo_to : (Nat → Int32)) (mo_begin : (Nat → Int32)) (mo_other : (Nat → Int32)) (mo_states : Int32) (mo_kinds : (Nat → Int32)) (mo_nodeOf : (Nat → Int32)) (mo_steps : (Nat → Int32)) (mo_emissions : (Nat → Int32)) (mo_length : Int32) (mo_text : (Nat → Int32)) (mo_worked : Int32) (mo_values : (Nat → Int32)) (mo_hits : Int32) (mo_hitAt : (Nat → Int32)) (mo_hitLength : (Nat → Int32)) (mo_written : Int32) (mo_listState : (Nat → Int32)) (mo_listAt : (Nat → Int32)) (mo_listLength : (Nat → Int32)) (mo_stack : (Nat → Int32)) (a1 : Int32) (a2 : Int32) (r0 : Int32) (hf : f_Mo_rowsFrom mo_rows mo_letters mo_sort mo_from mo_to mo_kinds mo_nodeOf a1 a2 = some (r0)) : Met l y_Mo_rowsFrom (.code y_Mo_rowsFrom prog_10_method_17_code 5 (some .int) :: gw) rm_Mo_rowsFrom (xPre ta (dC, dI) classes (tys3 ty) (wY ty ad mo_rows mo_columns mo_marks mo_letters mo_mate mo_made mo_nodes mo_sort mo_from mo_to mo_begin mo_other mo_states mo_kinds mo_nodeOf mo_steps mo_emissions mo_length mo_text mo_worked mo_values mo_hits mo_hitAt mo_hitLength mo_written mo_listState mo_listAt mo_listLength mo_stack) sz [.ref (ad 0), .int a1, .int a2]) (xQi (dC, dI) classes (wY ty ad mo_rows mo_columns mo_marks mo_letters mo_mate mo_made mo_nodes mo_sort mo_from mo_to mo_begin mo_other mo_states mo_kinds mo_nodeOf mo_steps mo_emissions mo_length mo_text mo_worked mo_values mo_hits mo_hitAt mo_hitLength mo_written mo_listState mo_listAt mo_listLength mo_stack) (wY ty ad mo_rows mo_columns mo_marks mo_letters mo_mate mo_made mo_nodes mo_sort mo_from mo_to mo_begin mo_other mo_states mo_kinds mo_nodeOf mo_steps mo_emissions mo_length mo_text mo_worked mo_values mo_hits mo_hitAt mo_hitLength mo_written mo_listState mo_listAt mo_listLength mo_stack) sz r0) 0 0 (va_A (wY ty ad mo_rows mo_columns mo_marks mo_letters mo_mate mo_made mo_nodes mo_sort mo_from mo_to mo_begin mo_other mo_states mo_kinds mo_nodeOf mo_steps mo_emissions mo_length mo_text mo_worked mo_values mo_hits mo_hitAt mo_hitLength mo_written mo_listState mo_listAt mo_listLength mo_stack) sz) := by
  refine xmet_i rfl (Nat.le_of_ble_eq_true rfl) ?_
  intro p e s m below meth c A ls Q hx hb hml hts hown hK hN hA hP hD hS hl hret
  replace hown : s.vm.findClass R_Mo = some m.cls := hown
  have hl : lv_has ls 5 [(0, .ref (ad 0)), (1, .int a1), (2, .int a2)] := hl
  rw [f_Mo_rowsFrom] at hf
  obtain ⟨H, eH⟩ : ∃ H : Heap, H = s.heap := ⟨_, rfl⟩
  obtain ⟨locs, eL⟩ : ∃ L : List Loc, L = [] := ⟨_, rfl⟩
  have hP : va_P (dC, dI) classes (wY ty ad mo_rows mo_columns mo_marks mo_letters mo_mate mo_made mo_nodes mo_sort mo_from mo_to mo_begin mo_other mo_states mo_kinds mo_nodeOf mo_steps mo_emissions mo_length mo_text mo_worked mo_values mo_hits mo_hitAt mo_hitLength mo_written mo_listState mo_listAt mo_listLength mo_stack) H := by rw [eH]; exact hP
  have hS : va_S A s.heap H locs := by rw [eH, eL]; exact hS
  rw [← eL]
  suffices hgoal : W p l e rm_Mo_rowsFrom s m (List.toArray [.ref (ad 0), .int a1, .int a2]) below meth c H locs 0 0 Q (F0 m 0 ls []) by rw [eH] at hgoal; exact hgoal
  clear eH eL
  refine lv_iconst (v := 0) hx hb d_Mo_rowsFrom_0 (by decide) ?_
  refine lv_istore_n (lv' := [(3, .int (0 : Int32)), (0, .ref (ad 0)), (1, .int a1), (2, .int a2)]) hx hb d_Mo_rowsFrom_1 rfl hl (by decide) rfl (fun ls hl => ?_)
  refine lv_iconst (v := 0) hx hb d_Mo_rowsFrom_2 (by decide) ?_
  refine lv_istore (lv' := [(4, .int (0 : Int32)), (3, .int (0 : Int32)), (0, .ref (ad 0)), (1, .int a1), (2, .int a2)]) hx hb d_Mo_rowsFrom_3 hl (by decide) rfl (fun ls hl => ?_)
  have K5_70 : ∀ (x3_5 : Int32) (x4_5 : Int32) (H : Heap) (locs : List Loc) (ls : Array Slot), va_P (dC, dI) classes (wY ty ad mo_rows mo_columns mo_marks mo_letters mo_mate mo_made mo_nodes mo_sort mo_from mo_to mo_begin mo_other mo_states mo_kinds mo_nodeOf mo_steps mo_emissions mo_length mo_text mo_worked mo_values mo_hits mo_hitAt mo_hitLength mo_written mo_listState mo_listAt mo_listLength mo_stack) H → va_D A (wY ty ad mo_rows mo_columns mo_marks mo_letters mo_mate mo_made mo_nodes mo_sort mo_from mo_to mo_begin mo_other mo_states mo_kinds mo_nodeOf mo_steps mo_emissions mo_length mo_text mo_worked mo_values mo_hits mo_hitAt mo_hitLength mo_written mo_listState mo_listAt mo_listLength mo_stack) → va_S A s.heap H locs → lv_has ls 5 [(3, .int x3_5)] → f_Mo_rowsFrom_K5_70 x3_5 x4_5 = some (r0) → W p l e rm_Mo_rowsFrom s m (List.toArray [.ref (ad 0), .int a1, .int a2]) below meth c H locs 0 0 Q (F0 m 70 ls []) := by
    intro x3_5 x4_5 H locs ls hP hD hS hl hf
    rw [f_Mo_rowsFrom_K5_70] at hf
    refine lv_iload_n hx hb d_Mo_rowsFrom_70 rfl (lv_at hl 0 rfl) ?_
    obtain rfl := os1 hf
    exact hret H locs _ _ _ d_Mo_rowsFrom_71 rfl hP hS
  have L5 : ∀ (n5 : Nat), ∀ (x3_5 : Int32) (x4_5 : Int32) (H : Heap) (locs : List Loc) (ls : Array Slot), va_P (dC, dI) classes (wY ty ad mo_rows mo_columns mo_marks mo_letters mo_mate mo_made mo_nodes mo_sort mo_from mo_to mo_begin mo_other mo_states mo_kinds mo_nodeOf mo_steps mo_emissions mo_length mo_text mo_worked mo_values mo_hits mo_hitAt mo_hitLength mo_written mo_listState mo_listAt mo_listLength mo_stack) H → va_D A (wY ty ad mo_rows mo_columns mo_marks mo_letters mo_mate mo_made mo_nodes mo_sort mo_from mo_to mo_begin mo_other mo_states mo_kinds mo_nodeOf mo_steps mo_emissions mo_length mo_text mo_worked mo_values mo_hits mo_hitAt mo_hitLength mo_written mo_listState mo_listAt mo_listLength mo_stack) → va_S A s.heap H locs → lv_has ls 5 [(0, .ref (ad 0)), (1, .int a1), (2, .int a2), (3, .int x3_5), (4, .int x4_5)] → f_Mo_rowsFrom_L5 mo_rows mo_letters mo_sort mo_from mo_to mo_kinds mo_nodeOf a1 a2 (f_Mo_rowsFrom_K5_70) n5 x3_5 x4_5 = some (r0) → W p l e rm_Mo_rowsFrom s m (List.toArray [.ref (ad 0), .int a1, .int a2]) below meth c H locs 0 0 Q (F0 m 5 ls []) := by
    intro n5
    induction n5 with
    | zero =>
      intro x3_5 x4_5 H locs ls hP hD hS hl hf
      rw [f_Mo_rowsFrom_L5] at hf
      cases hf
    | succ n5 ih5 =>
      intro x3_5 x4_5 H locs ls hP hD hS hl hf
      rw [f_Mo_rowsFrom_L5] at hf
      refine lv_iload hx hb d_Mo_rowsFrom_5 (lv_at hl 4 rfl) ?_
      refine lv_aload_n hx hb d_Mo_rowsFrom_7 rfl (lv_at hl 0 rfl) ?_
      refine va_get (D := (dC, dI)) (ci := 8) (v := .int mo_rows) (C := R_Mo) (T := F_Mo) (N := 29) hx hb hts iw_Mo hown hK hP 0 rfl rfl 0 (by decide) (hts _ m_717) (fun _ h9 => h9) rfl d_Mo_rowsFrom_8 ?_
      refine lv_icmp_ge (tgt := 70) hx hb d_Mo_rowsFrom_11 (by decide) (fun c1 => ?_) (fun c1 => ?_)
      · have hf := xif_t c1 hf
        exact K5_70 x3_5 x4_5 _ _ _ hP hD hS (lv_sub hl [3] rfl) hf
      · have hf := xif_f c1 hf
        refine lv_aload_n hx hb d_Mo_rowsFrom_14 rfl (lv_at hl 0 rfl) ?_
        refine lv_iload hx hb d_Mo_rowsFrom_15 (lv_at hl 4 rfl) ?_
        refine lv_aload_n hx hb d_Mo_rowsFrom_17 rfl (lv_at hl 0 rfl) ?_
        refine va_get (D := (dC, dI)) (ci := 8) (v := .ref (ad 10)) (C := R_Mo) (T := F_Mo) (N := 29) hx hb hts iw_Mo hown hK hP 0 rfl rfl 14 (by decide) (hts _ m_731) (fun _ h9 => h9) rfl d_Mo_rowsFrom_18 ?_
        refine lv_iload_n hx hb d_Mo_rowsFrom_21 rfl (lv_at hl 1 rfl) ?_
        obtain ⟨hi2, hf⟩ := gdi hf
        refine va_iald hx hb hK hP 10 0 rfl rfl hi2 d_Mo_rowsFrom_22 ?_
        obtain ⟨r3, hc4, hf⟩ := ob1_inv hf
        refine xk_i (xrunV (C := R_Mo) (As := [.int x4_5, .int (mo_nodeOf (Int32.toNatClampNeg a1))]) (rest := []) ⟨hx, hb, hml, hown, hts⟩ (c_Mo_kindAt l dC dI ty ad ta H.size mo_rows mo_columns mo_marks mo_letters mo_mate mo_made mo_nodes mo_sort mo_from mo_to mo_begin mo_other mo_states mo_kinds mo_nodeOf mo_steps mo_emissions mo_length mo_text mo_worked mo_values mo_hits mo_hitAt mo_hitLength mo_written mo_listState mo_listAt mo_listLength mo_stack x4_5 (mo_nodeOf (Int32.toNatClampNeg a1)) r3 hc4) z_Mo_115 ⟨⟨rfl, rfl⟩, by decide, by decide⟩ hK hP hD hN hS hA (va_recv hK hP (ci := 8) (q0 := 0) rfl rfl) rfl hl.1 rfl (Nat.le_of_ble_eq_true rfl) d_Mo_rowsFrom_23 ⟨Nat.zero_le _, Nat.zero_le _⟩) hS hD rfl hA (fun H locs hP hD hS => ?_)
        refine W.eq (g2 := F0 m 26 ls [.int r3]) rfl ?_
        refine lv_aload_n hx hb d_Mo_rowsFrom_26 rfl (lv_at hl 0 rfl) ?_
        refine va_get (D := (dC, dI)) (ci := 8) (v := .ref (ad 9)) (C := R_Mo) (T := F_Mo) (N := 29) hx hb hts iw_Mo hown hK hP 0 rfl rfl 13 (by decide) (hts _ m_730) (fun _ h9 => h9) rfl d_Mo_rowsFrom_27 ?_
        refine lv_iload_n hx hb d_Mo_rowsFrom_30 rfl (lv_at hl 1 rfl) ?_
        obtain ⟨hi5, hf⟩ := gdi hf
        refine va_iald hx hb hK hP 9 0 rfl rfl hi5 d_Mo_rowsFrom_31 ?_
        refine lv_icmp_ne (tgt := 62) hx hb d_Mo_rowsFrom_32 (by decide) (fun c6 => ?_) (fun c6 => ?_)
        · have hf := xif_f c6 hf
          refine lv_iload_n hx hb d_Mo_rowsFrom_62 rfl (lv_at hl 3 rfl) ?_
          refine lv_istore_n (lv' := [(3, .int x3_5), (0, .ref (ad 0)), (1, .int a1), (2, .int a2), (4, .int x4_5)]) hx hb d_Mo_rowsFrom_63 rfl hl (by decide) rfl (fun ls hl => ?_)
          refine lv_iinc (v := (x4_5 + (1 : Int32))) (lv' := [(4, .int (x4_5 + (1 : Int32))), (3, .int x3_5), (0, .ref (ad 0)), (1, .int a1), (2, .int a2)]) hx hb d_Mo_rowsFrom_64 hl (k := 4) rfl rfl (by decide) rfl (fun ls hl => ?_)
          refine lv_goto (tgt := 5) hx hb d_Mo_rowsFrom_67 (by decide) ?_
          exact ih5 x3_5 (x4_5 + (1 : Int32)) _ _ _ hP hD hS (lv_sub hl [2, 3, 4, 1, 0] rfl) hf
        · have hf := xif_t c6 hf
          refine lv_aload_n hx hb d_Mo_rowsFrom_35 rfl (lv_at hl 0 rfl) ?_
          refine lv_iload hx hb d_Mo_rowsFrom_36 (lv_at hl 4 rfl) ?_
          refine lv_aload_n hx hb d_Mo_rowsFrom_38 rfl (lv_at hl 0 rfl) ?_
          refine va_get (D := (dC, dI)) (ci := 8) (v := .ref (ad 10)) (C := R_Mo) (T := F_Mo) (N := 29) hx hb hts iw_Mo hown hK hP 0 rfl rfl 14 (by decide) (hts _ m_731) (fun _ h9 => h9) rfl d_Mo_rowsFrom_39 ?_
          refine lv_iload_n hx hb d_Mo_rowsFrom_42 rfl (lv_at hl 2 rfl) ?_
          obtain ⟨hi7, hf⟩ := gdi hf
          refine va_iald hx hb hK hP 10 0 rfl rfl hi7 d_Mo_rowsFrom_43 ?_
          obtain ⟨r8, hc9, hf⟩ := ob1_inv hf
          refine xk_i (xrunV (C := R_Mo) (As := [.int x4_5, .int (mo_nodeOf (Int32.toNatClampNeg a2))]) (rest := []) ⟨hx, hb, hml, hown, hts⟩ (c_Mo_kindAt l dC dI ty ad ta H.size mo_rows mo_columns mo_marks mo_letters mo_mate mo_made mo_nodes mo_sort mo_from mo_to mo_begin mo_other mo_states mo_kinds mo_nodeOf mo_steps mo_emissions mo_length mo_text mo_worked mo_values mo_hits mo_hitAt mo_hitLength mo_written mo_listState mo_listAt mo_listLength mo_stack x4_5 (mo_nodeOf (Int32.toNatClampNeg a2)) r8 hc9) z_Mo_115 ⟨⟨rfl, rfl⟩, by decide, by decide⟩ hK hP hD hN hS hA (va_recv hK hP (ci := 8) (q0 := 0) rfl rfl) rfl hl.1 rfl (Nat.le_of_ble_eq_true rfl) d_Mo_rowsFrom_44 ⟨Nat.zero_le _, Nat.zero_le _⟩) hS hD rfl hA (fun H locs hP hD hS => ?_)
          refine W.eq (g2 := F0 m 47 ls [.int r8]) rfl ?_
          refine lv_aload_n hx hb d_Mo_rowsFrom_47 rfl (lv_at hl 0 rfl) ?_
          refine va_get (D := (dC, dI)) (ci := 8) (v := .ref (ad 9)) (C := R_Mo) (T := F_Mo) (N := 29) hx hb hts iw_Mo hown hK hP 0 rfl rfl 13 (by decide) (hts _ m_730) (fun _ h9 => h9) rfl d_Mo_rowsFrom_48 ?_
          refine lv_iload_n hx hb d_Mo_rowsFrom_51 rfl (lv_at hl 2 rfl) ?_
          obtain ⟨hi10, hf⟩ := gdi hf
          refine va_iald hx hb hK hP 9 0 rfl rfl hi10 d_Mo_rowsFrom_52 ?_
          refine lv_icmp_ne (tgt := 62) hx hb d_Mo_rowsFrom_53 (by decide) (fun c11 => ?_) (fun c11 => ?_)
          · have hf := xif_f c11 hf
            refine lv_iload_n hx hb d_Mo_rowsFrom_62 rfl (lv_at hl 3 rfl) ?_
            refine lv_istore_n (lv' := [(3, .int x3_5), (0, .ref (ad 0)), (1, .int a1), (2, .int a2), (4, .int x4_5)]) hx hb d_Mo_rowsFrom_63 rfl hl (by decide) rfl (fun ls hl => ?_)
            refine lv_iinc (v := (x4_5 + (1 : Int32))) (lv' := [(4, .int (x4_5 + (1 : Int32))), (3, .int x3_5), (0, .ref (ad 0)), (1, .int a1), (2, .int a2)]) hx hb d_Mo_rowsFrom_64 hl (k := 4) rfl rfl (by decide) rfl (fun ls hl => ?_)
            refine lv_goto (tgt := 5) hx hb d_Mo_rowsFrom_67 (by decide) ?_
            exact ih5 x3_5 (x4_5 + (1 : Int32)) _ _ _ hP hD hS (lv_sub hl [2, 3, 4, 1, 0] rfl) hf
          · have hf := xif_t c11 hf
            refine lv_iload_n hx hb d_Mo_rowsFrom_56 rfl (lv_at hl 3 rfl) ?_
            refine lv_iconst (v := 1) hx hb d_Mo_rowsFrom_57 (by decide) ?_
            refine lv_iadd hx hb d_Mo_rowsFrom_58 ?_
            refine lv_goto (tgt := 63) hx hb d_Mo_rowsFrom_59 (by decide) ?_
            refine lv_istore_n (lv' := [(3, .int (x3_5 + (1 : Int32))), (0, .ref (ad 0)), (1, .int a1), (2, .int a2), (4, .int x4_5)]) hx hb d_Mo_rowsFrom_63 rfl hl (by decide) rfl (fun ls hl => ?_)
            refine lv_iinc (v := (x4_5 + (1 : Int32))) (lv' := [(4, .int (x4_5 + (1 : Int32))), (3, .int (x3_5 + (1 : Int32))), (0, .ref (ad 0)), (1, .int a1), (2, .int a2)]) hx hb d_Mo_rowsFrom_64 hl (k := 4) rfl rfl (by decide) rfl (fun ls hl => ?_)
            refine lv_goto (tgt := 5) hx hb d_Mo_rowsFrom_67 (by decide) ?_
            exact ih5 (x3_5 + (1 : Int32)) (x4_5 + (1 : Int32)) _ _ _ hP hD hS (lv_sub hl [2, 3, 4, 1, 0] rfl) hf
  exact L5 1000 (0 : Int32) (0 : Int32) _ _ _ hP hD hS (lv_sub hl [2, 3, 4, 1, 0] rfl) hf
