/-! pure functions and contracts of Mo_build, Mo_isState, Mo_kind, Mo_node1, Mo_target, Mo_step, Mo_isLetter, Mo_emits (written by wip/gen) -/
def f_Mo_build_K20_85 (w2 : (Nat → Int32)) (w5 : Int32) (w6 : (Nat → Int32)) (w7 : (Nat → Int32)) (w8 : (Nat → Int32)) (w9 : (Nat → Int32)) (w10 : (Nat → Int32)) (w12 : (Nat → Int32)) (w13 : Int32) (w14 : (Nat → Int32)) (w15 : (Nat → Int32)) (x1_20 : Int32) (mo_steps_20 : (Nat → Int32)) (mo_emissions_20 : (Nat → Int32)) : Option (Int32 × (Nat → Int32) × Int32 × Int32 × (Nat → Int32) × (Nat → Int32) × (Nat → Int32) × (Nat → Int32) × (Nat → Int32) × Int32 × (Nat → Int32) × (Nat → Int32) × (Nat → Int32) × (Nat → Int32) × Int32 × Int32 × (Nat → Int32)) := some (w13, w2, (1 : Int32), w5, w6, w7, w8, w12, w9, w13, w14, w15, mo_steps_20, mo_emissions_20, (0 : Int32), (0 : Int32), w10)
def f_Mo_build_L20 (mo_rows : Int32) (mo_letters : (Nat → Int32)) (w6 : (Nat → Int32)) (w7 : (Nat → Int32)) (w8 : (Nat → Int32)) (w9 : (Nat → Int32)) (w12 : (Nat → Int32)) (w13 : Int32) (w14 : (Nat → Int32)) (w15 : (Nat → Int32)) (k20_85 : (Int32 → (Nat → Int32) → (Nat → Int32) → Option (Int32 × (Nat → Int32) × Int32 × Int32 × (Nat → Int32) × (Nat → Int32) × (Nat → Int32) × (Nat → Int32) × (Nat → Int32) × Int32 × (Nat → Int32) × (Nat → Int32) × (Nat → Int32) × (Nat → Int32) × Int32 × Int32 × (Nat → Int32)))) : Nat → Int32 → (Nat → Int32) → (Nat → Int32) → Option (Int32 × (Nat → Int32) × Int32 × Int32 × (Nat → Int32) × (Nat → Int32) × (Nat → Int32) × (Nat → Int32) × (Nat → Int32) × Int32 × (Nat → Int32) × (Nat → Int32) × (Nat → Int32) × (Nat → Int32) × Int32 × Int32 × (Nat → Int32))
  | 0, _, _, _ => none
  | n20 + 1, x1_20, mo_steps_20, mo_emissions_20 => if w13 ≤ x1_20 then (k20_85 x1_20 mo_steps_20 mo_emissions_20) else (ob1 (f_Mo_scoreSteps mo_rows mo_letters w6 w7 w8 w12 w9 w14 w15 mo_steps_20 x1_20) (fun w18 => gd (xin x1_20 48) (if (w14 (Int32.toNatClampNeg x1_20)) = (0 : Int32) then ((f_Mo_build_L20 mo_rows mo_letters w6 w7 w8 w9 w12 w13 w14 w15 k20_85 n20) (x1_20 + (1 : Int32)) w18 mo_emissions_20) else (gd (xin x1_20 48) (if (w14 (Int32.toNatClampNeg x1_20)) = (4 : Int32) then ((f_Mo_build_L20 mo_rows mo_letters w6 w7 w8 w9 w12 w13 w14 w15 k20_85 n20) (x1_20 + (1 : Int32)) w18 mo_emissions_20) else (gd (xin x1_20 48) (if (w14 (Int32.toNatClampNeg x1_20)) = (7 : Int32) then ((f_Mo_build_L20 mo_rows mo_letters w6 w7 w8 w9 w12 w13 w14 w15 k20_85 n20) (x1_20 + (1 : Int32)) w18 mo_emissions_20) else (gd (xin x1_20 48) (if (w14 (Int32.toNatClampNeg x1_20)) = (8 : Int32) then ((f_Mo_build_L20 mo_rows mo_letters w6 w7 w8 w9 w12 w13 w14 w15 k20_85 n20) (x1_20 + (1 : Int32)) w18 mo_emissions_20) else (ob1 (f_Mo_scoreLetters mo_rows mo_letters w6 w7 w8 w14 w15 mo_emissions_20 x1_20) (fun w28 => (f_Mo_build_L20 mo_rows mo_letters w6 w7 w8 w9 w12 w13 w14 w15 k20_85 n20) (x1_20 + (1 : Int32)) w18 w28)))))))))))
def f_Mo_build (mo_rows : Int32) (mo_columns : Int32) (mo_marks : (Nat → Int32)) (mo_letters : (Nat → Int32)) (mo_mate : (Nat → Int32)) (mo_made : Int32) (mo_nodes : Int32) (mo_sort : (Nat → Int32)) (mo_from : (Nat → Int32)) (mo_to : (Nat → Int32)) (mo_begin : (Nat → Int32)) (mo_other : (Nat → Int32)) (mo_states : Int32) (mo_kinds : (Nat → Int32)) (mo_nodeOf : (Nat → Int32)) (mo_steps : (Nat → Int32)) (mo_emissions : (Nat → Int32)) (mo_worked : Int32) (mo_hits : Int32) (mo_stack : (Nat → Int32)) : Option (Int32 × (Nat → Int32) × Int32 × Int32 × (Nat → Int32) × (Nat → Int32) × (Nat → Int32) × (Nat → Int32) × (Nat → Int32) × Int32 × (Nat → Int32) × (Nat → Int32) × (Nat → Int32) × (Nat → Int32) × Int32 × Int32 × (Nat → Int32)) := ob2 (f_Mo_pair mo_columns mo_marks mo_mate) (fun r1 w2 => if r1 = (0 : Int32) then (some ((-1000000 : Int32), w2, mo_made, mo_nodes, mo_sort, mo_from, mo_to, mo_begin, mo_other, mo_states, mo_kinds, mo_nodeOf, mo_steps, mo_emissions, mo_worked, mo_hits, mo_stack)) else (ob6 (f_Mo_plant mo_columns w2 mo_nodes mo_sort mo_from mo_to mo_other mo_stack) (fun w5 w6 w7 w8 w9 w10 => ob4 (f_Mo_settle w5 w6 mo_begin mo_states mo_kinds mo_nodeOf) (fun w12 w13 w14 w15 => f_Mo_build_L20 mo_rows mo_letters w6 w7 w8 w9 w12 w13 w14 w15 (f_Mo_build_K20_85 w2 w5 w6 w7 w8 w9 w10 w12 w13 w14 w15) 1000 (0 : Int32) mo_steps mo_emissions))))
set_option maxHeartbeats 4000000 in
set_option maxRecDepth 100000 in
theorem c_Mo_build (l : Launch) (dC : Nat → ClassId) (dI : Nat → Nat → Nat) (ty : Nat → ClassId) (ad : Nat → Nat) (ta : Nat → Nat) (sz : Nat) (mo_rows : Int32) (mo_columns : Int32) (mo_marks : (Nat → Int32)) (mo_letters : (Nat → Int32)) (mo_mate : (Nat → Int32)) (mo_made : Int32) (mo_nodes : Int32) (mo_sort : (Nat → Int32)) (mo_from : (Nat → Int32)) (mo_to : (Nat → Int32)) (mo_begin : (Nat → Int32)) (mo_other : (Nat → Int32)) (mo_states : Int32) (mo_kinds : (Nat → Int32)) (mo_nodeOf : (Nat → Int32)) (mo_steps : (Nat → Int32)) (mo_emissions : (Nat → Int32)) (mo_length : Int32) (mo_text : (Nat → Int32)) (mo_worked : Int32) (mo_values : (Nat → Int32)) (mo_hits : Int32) (mo_hitAt : (Nat → Int32)) (mo_hitLength : (Nat → Int32)) (mo_written : Int32) (mo_listState : (Nat → Int32)) (mo_listAt : (Nat → Int32)) (mo_listLength : (Nat → Int32)) (mo_stack : (Nat → Int32))  (r0 : Int32) (n_mo_mate : (Nat → Int32)) (n_mo_made : Int32) (n_mo_nodes : Int32) (n_mo_sort : (Nat → Int32)) (n_mo_from : (Nat → Int32)) (n_mo_to : (Nat → Int32)) (n_mo_begin : (Nat → Int32)) (n_mo_other : (Nat → Int32)) (n_mo_states : Int32) (n_mo_kinds : (Nat → Int32)) (n_mo_nodeOf : (Nat → Int32)) (n_mo_steps : (Nat → Int32)) (n_mo_emissions : (Nat → Int32)) (n_mo_worked : Int32) (n_mo_hits : Int32) (n_mo_stack : (Nat → Int32)) (hf : f_Mo_build mo_rows mo_columns mo_marks mo_letters mo_mate mo_made mo_nodes mo_sort mo_from mo_to mo_begin mo_other mo_states mo_kinds mo_nodeOf mo_steps mo_emissions mo_worked mo_hits mo_stack = some (r0, n_mo_mate, n_mo_made, n_mo_nodes, n_mo_sort, n_mo_from, n_mo_to, n_mo_begin, n_mo_other, n_mo_states, n_mo_kinds, n_mo_nodeOf, n_mo_steps, n_mo_emissions, n_mo_worked, n_mo_hits, n_mo_stack)) : Met l y_Mo_build (.code y_Mo_build prog_10_method_20_code 2 (some .int) :: gw) rm_Mo_build (xPre ta (dC, dI) classes (tys3 ty) (wY ty ad mo_rows mo_columns mo_marks mo_letters mo_mate mo_made mo_nodes mo_sort mo_from mo_to mo_begin mo_other mo_states mo_kinds mo_nodeOf mo_steps mo_emissions mo_length mo_text mo_worked mo_values mo_hits mo_hitAt mo_hitLength mo_written mo_listState mo_listAt mo_listLength mo_stack) sz [.ref (ad 0)]) (xQi (dC, dI) classes (wY ty ad mo_rows mo_columns mo_marks mo_letters mo_mate mo_made mo_nodes mo_sort mo_from mo_to mo_begin mo_other mo_states mo_kinds mo_nodeOf mo_steps mo_emissions mo_length mo_text mo_worked mo_values mo_hits mo_hitAt mo_hitLength mo_written mo_listState mo_listAt mo_listLength mo_stack) (wY ty ad mo_rows mo_columns mo_marks mo_letters n_mo_mate n_mo_made n_mo_nodes n_mo_sort n_mo_from n_mo_to n_mo_begin n_mo_other n_mo_states n_mo_kinds n_mo_nodeOf n_mo_steps n_mo_emissions mo_length mo_text n_mo_worked mo_values n_mo_hits mo_hitAt mo_hitLength mo_written mo_listState mo_listAt mo_listLength n_mo_stack) sz r0) 0 0 (va_A (wY ty ad mo_rows mo_columns mo_marks mo_letters mo_mate mo_made mo_nodes mo_sort mo_from mo_to mo_begin mo_other mo_states mo_kinds mo_nodeOf mo_steps mo_emissions mo_length mo_text mo_worked mo_values mo_hits mo_hitAt mo_hitLength mo_written mo_listState mo_listAt mo_listLength mo_stack) sz) := by
  refine xmet_i rfl (Nat.le_of_ble_eq_true rfl) ?_
  intro p e s m below meth c A ls Q hx hb hml hts hown hK hN hA hP hD hS hl hret
  replace hown : s.vm.findClass R_Mo = some m.cls := hown
  have hl : lv_has ls 2 [(0, .ref (ad 0))] := hl
  rw [f_Mo_build] at hf
  obtain ⟨H, eH⟩ : ∃ H : Heap, H = s.heap := ⟨_, rfl⟩
  obtain ⟨locs, eL⟩ : ∃ L : List Loc, L = [] := ⟨_, rfl⟩
  have hP : va_P (dC, dI) classes (wY ty ad mo_rows mo_columns mo_marks mo_letters mo_mate mo_made mo_nodes mo_sort mo_from mo_to mo_begin mo_other mo_states mo_kinds mo_nodeOf mo_steps mo_emissions mo_length mo_text mo_worked mo_values mo_hits mo_hitAt mo_hitLength mo_written mo_listState mo_listAt mo_listLength mo_stack) H := by rw [eH]; exact hP
  have hS : va_S A s.heap H locs := by rw [eH, eL]; exact hS
  rw [← eL]
  suffices hgoal : W p l e rm_Mo_build s m (List.toArray [.ref (ad 0)]) below meth c H locs 0 0 Q (F0 m 0 ls []) by rw [eH] at hgoal; exact hgoal
  clear eH eL
  refine lv_aload_n hx hb d_Mo_build_0 rfl (lv_at hl 0 rfl) ?_
  obtain ⟨r1, w2, hc3, hf⟩ := ob2_inv hf
  refine xk_i (xrunV (C := R_Mo) (As := []) (rest := []) ⟨hx, hb, hml, hown, hts⟩ (c_Mo_pair l dC dI ty ad ta H.size mo_rows mo_columns mo_marks mo_letters mo_mate mo_made mo_nodes mo_sort mo_from mo_to mo_begin mo_other mo_states mo_kinds mo_nodeOf mo_steps mo_emissions mo_length mo_text mo_worked mo_values mo_hits mo_hitAt mo_hitLength mo_written mo_listState mo_listAt mo_listLength mo_stack  r1 w2 hc3) z_Mo_132 ⟨⟨rfl, rfl⟩, by decide, by decide⟩ hK hP hD hN hS hA (va_recv hK hP (ci := 8) (q0 := 0) rfl rfl) rfl hl.1 rfl (Nat.le_of_ble_eq_true rfl) d_Mo_build_1 ⟨Nat.zero_le _, Nat.zero_le _⟩) hS hD rfl hA (fun H locs hP hD hS => ?_)
  refine W.eq (g2 := F0 m 4 ls [.int r1]) rfl ?_
  refine lv_if_ne (tgt := 10) hx hb d_Mo_build_4 (by decide) (fun c4 => ?_) (fun c4 => ?_)
  · have hf := xif_f c4 hf
    refine lv_aload_n hx hb d_Mo_build_10 rfl (lv_at hl 0 rfl) ?_
    obtain ⟨w5, w6, w7, w8, w9, w10, hc11, hf⟩ := ob6_inv hf
    refine xk_v (xrunV (C := R_Mo) (As := []) (rest := []) ⟨hx, hb, hml, hown, hts⟩ (c_Mo_plant l dC dI ty ad ta H.size mo_rows mo_columns mo_marks mo_letters w2 mo_made mo_nodes mo_sort mo_from mo_to mo_begin mo_other mo_states mo_kinds mo_nodeOf mo_steps mo_emissions mo_length mo_text mo_worked mo_values mo_hits mo_hitAt mo_hitLength mo_written mo_listState mo_listAt mo_listLength mo_stack  w5 w6 w7 w8 w9 w10 hc11) z_Mo_137 ⟨⟨rfl, rfl⟩, by decide, by decide⟩ hK hP hD hN hS hA (va_recv hK hP (ci := 8) (q0 := 0) rfl rfl) rfl hl.1 rfl (Nat.le_of_ble_eq_true rfl) d_Mo_build_11 ⟨Nat.zero_le _, Nat.zero_le _⟩) hS hD rfl hA (fun H locs hP hD hS => ?_)
    refine W.eq (g2 := F0 m 14 ls []) rfl ?_
    refine lv_aload_n hx hb d_Mo_build_14 rfl (lv_at hl 0 rfl) ?_
    obtain ⟨w12, w13, w14, w15, hc16, hf⟩ := ob4_inv hf
    refine xk_v (xrunV (C := R_Mo) (As := []) (rest := []) ⟨hx, hb, hml, hown, hts⟩ (c_Mo_settle l dC dI ty ad ta H.size mo_rows mo_columns mo_marks mo_letters w2 mo_made w5 w6 w7 w8 mo_begin w9 mo_states mo_kinds mo_nodeOf mo_steps mo_emissions mo_length mo_text mo_worked mo_values mo_hits mo_hitAt mo_hitLength mo_written mo_listState mo_listAt mo_listLength w10  w12 w13 w14 w15 hc16) z_Mo_140 ⟨⟨rfl, rfl⟩, by decide, by decide⟩ hK hP hD hN hS hA (va_recv hK hP (ci := 8) (q0 := 0) rfl rfl) rfl hl.1 rfl (Nat.le_of_ble_eq_true rfl) d_Mo_build_15 ⟨Nat.zero_le _, Nat.zero_le _⟩) hS hD rfl hA (fun H locs hP hD hS => ?_)
    refine W.eq (g2 := F0 m 18 ls []) rfl ?_
    refine lv_iconst (v := 0) hx hb d_Mo_build_18 (by decide) ?_
    refine lv_istore_n (lv' := [(1, .int (0 : Int32)), (0, .ref (ad 0))]) hx hb d_Mo_build_19 rfl hl (by decide) rfl (fun ls hl => ?_)
    have K20_85 : ∀ (x1_20 : Int32) (mo_steps_20 : (Nat → Int32)) (mo_emissions_20 : (Nat → Int32)) (H : Heap) (locs : List Loc) (ls : Array Slot), va_P (dC, dI) classes (wY ty ad mo_rows mo_columns mo_marks mo_letters w2 mo_made w5 w6 w7 w8 w12 w9 w13 w14 w15 mo_steps_20 mo_emissions_20 mo_length mo_text mo_worked mo_values mo_hits mo_hitAt mo_hitLength mo_written mo_listState mo_listAt mo_listLength w10) H → va_D A (wY ty ad mo_rows mo_columns mo_marks mo_letters w2 mo_made w5 w6 w7 w8 w12 w9 w13 w14 w15 mo_steps_20 mo_emissions_20 mo_length mo_text mo_worked mo_values mo_hits mo_hitAt mo_hitLength mo_written mo_listState mo_listAt mo_listLength w10) → va_S A s.heap H locs → lv_has ls 2 [(0, .ref (ad 0))] → f_Mo_build_K20_85 w2 w5 w6 w7 w8 w9 w10 w12 w13 w14 w15 x1_20 mo_steps_20 mo_emissions_20 = some (r0, n_mo_mate, n_mo_made, n_mo_nodes, n_mo_sort, n_mo_from, n_mo_to, n_mo_begin, n_mo_other, n_mo_states, n_mo_kinds, n_mo_nodeOf, n_mo_steps, n_mo_emissions, n_mo_worked, n_mo_hits, n_mo_stack) → W p l e rm_Mo_build s m (List.toArray [.ref (ad 0)]) below meth c H locs 0 0 Q (F0 m 85 ls []) := by
      intro x1_20 mo_steps_20 mo_emissions_20 H locs ls hP hD hS hl hf
      rw [f_Mo_build_K20_85] at hf
      refine lv_aload_n hx hb d_Mo_build_85 rfl (lv_at hl 0 rfl) ?_
      refine lv_iconst (v := 1) hx hb d_Mo_build_86 (by decide) ?_
      refine va_put (D := (dC, dI)) (ci := 8) (v := .int (1 : Int32)) (ty := .boolean) (C := R_Mo) (T := F_Mo) (N := 29) hx hb hts iw_Mo t_Mo t_Mo_ok n_Mo hown hK hP hD hS 0 rfl rfl 5 (by decide) (hts _ m_722) (fun _ h9 => h9) rfl (by decide +kernel) rfl rfl (Nat.le_of_ble_eq_true rfl) d_Mo_build_87 (fun H locs hP hD hS => ?_)
      have hP : va_P (dC, dI) classes (wY ty ad mo_rows mo_columns mo_marks mo_letters w2 (1 : Int32) w5 w6 w7 w8 w12 w9 w13 w14 w15 mo_steps_20 mo_emissions_20 mo_length mo_text mo_worked mo_values mo_hits mo_hitAt mo_hitLength mo_written mo_listState mo_listAt mo_listLength w10) H := hP
      have hD : va_D A (wY ty ad mo_rows mo_columns mo_marks mo_letters w2 (1 : Int32) w5 w6 w7 w8 w12 w9 w13 w14 w15 mo_steps_20 mo_emissions_20 mo_length mo_text mo_worked mo_values mo_hits mo_hitAt mo_hitLength mo_written mo_listState mo_listAt mo_listLength w10) := hD
      refine lv_aload_n hx hb d_Mo_build_90 rfl (lv_at hl 0 rfl) ?_
      refine lv_iconst (v := 0) hx hb d_Mo_build_91 (by decide) ?_
      refine va_put (D := (dC, dI)) (ci := 8) (v := .int (0 : Int32)) (ty := .boolean) (C := R_Mo) (T := F_Mo) (N := 29) hx hb hts iw_Mo t_Mo t_Mo_ok n_Mo hown hK hP hD hS 0 rfl rfl 19 (by decide) (hts _ m_736) (fun _ h9 => h9) rfl (by decide +kernel) rfl rfl (Nat.le_of_ble_eq_true rfl) d_Mo_build_92 (fun H locs hP hD hS => ?_)
      have hP : va_P (dC, dI) classes (wY ty ad mo_rows mo_columns mo_marks mo_letters w2 (1 : Int32) w5 w6 w7 w8 w12 w9 w13 w14 w15 mo_steps_20 mo_emissions_20 mo_length mo_text (0 : Int32) mo_values mo_hits mo_hitAt mo_hitLength mo_written mo_listState mo_listAt mo_listLength w10) H := hP
      have hD : va_D A (wY ty ad mo_rows mo_columns mo_marks mo_letters w2 (1 : Int32) w5 w6 w7 w8 w12 w9 w13 w14 w15 mo_steps_20 mo_emissions_20 mo_length mo_text (0 : Int32) mo_values mo_hits mo_hitAt mo_hitLength mo_written mo_listState mo_listAt mo_listLength w10) := hD
      refine lv_aload_n hx hb d_Mo_build_95 rfl (lv_at hl 0 rfl) ?_
      refine lv_iconst (v := 0) hx hb d_Mo_build_96 (by decide) ?_
      refine va_put (D := (dC, dI)) (ci := 8) (v := .int (0 : Int32)) (ty := .int) (C := R_Mo) (T := F_Mo) (N := 29) hx hb hts iw_Mo t_Mo t_Mo_ok n_Mo hown hK hP hD hS 0 rfl rfl 21 (by decide) (hts _ m_738) (fun _ h9 => h9) rfl (by decide +kernel) rfl rfl (Nat.le_of_ble_eq_true rfl) d_Mo_build_97 (fun H locs hP hD hS => ?_)
      have hP : va_P (dC, dI) classes (wY ty ad mo_rows mo_columns mo_marks mo_letters w2 (1 : Int32) w5 w6 w7 w8 w12 w9 w13 w14 w15 mo_steps_20 mo_emissions_20 mo_length mo_text (0 : Int32) mo_values (0 : Int32) mo_hitAt mo_hitLength mo_written mo_listState mo_listAt mo_listLength w10) H := hP
      have hD : va_D A (wY ty ad mo_rows mo_columns mo_marks mo_letters w2 (1 : Int32) w5 w6 w7 w8 w12 w9 w13 w14 w15 mo_steps_20 mo_emissions_20 mo_length mo_text (0 : Int32) mo_values (0 : Int32) mo_hitAt mo_hitLength mo_written mo_listState mo_listAt mo_listLength w10) := hD
      refine lv_aload_n hx hb d_Mo_build_100 rfl (lv_at hl 0 rfl) ?_
      refine va_get (D := (dC, dI)) (ci := 8) (v := .int w13) (C := R_Mo) (T := F_Mo) (N := 29) hx hb hts iw_Mo hown hK hP 0 rfl rfl 12 (by decide) (hts _ m_729) (fun _ h9 => h9) rfl d_Mo_build_101 ?_
      obtain ⟨rfl, rfl, rfl, rfl, rfl, rfl, rfl, rfl, rfl, rfl, rfl, rfl, rfl, rfl, rfl, rfl, rfl⟩ := os17 hf
      exact hret H locs _ _ _ d_Mo_build_104 rfl hP hS
    have L20 : ∀ (n20 : Nat), ∀ (x1_20 : Int32) (mo_steps_20 : (Nat → Int32)) (mo_emissions_20 : (Nat → Int32)) (H : Heap) (locs : List Loc) (ls : Array Slot), va_P (dC, dI) classes (wY ty ad mo_rows mo_columns mo_marks mo_letters w2 mo_made w5 w6 w7 w8 w12 w9 w13 w14 w15 mo_steps_20 mo_emissions_20 mo_length mo_text mo_worked mo_values mo_hits mo_hitAt mo_hitLength mo_written mo_listState mo_listAt mo_listLength w10) H → va_D A (wY ty ad mo_rows mo_columns mo_marks mo_letters w2 mo_made w5 w6 w7 w8 w12 w9 w13 w14 w15 mo_steps_20 mo_emissions_20 mo_length mo_text mo_worked mo_values mo_hits mo_hitAt mo_hitLength mo_written mo_listState mo_listAt mo_listLength w10) → va_S A s.heap H locs → lv_has ls 2 [(0, .ref (ad 0)), (1, .int x1_20)] → f_Mo_build_L20 mo_rows mo_letters w6 w7 w8 w9 w12 w13 w14 w15 (f_Mo_build_K20_85 w2 w5 w6 w7 w8 w9 w10 w12 w13 w14 w15) n20 x1_20 mo_steps_20 mo_emissions_20 = some (r0, n_mo_mate, n_mo_made, n_mo_nodes, n_mo_sort, n_mo_from, n_mo_to, n_mo_begin, n_mo_other, n_mo_states, n_mo_kinds, n_mo_nodeOf, n_mo_steps, n_mo_emissions, n_mo_worked, n_mo_hits, n_mo_stack) → W p l e rm_Mo_build s m (List.toArray [.ref (ad 0)]) below meth c H locs 0 0 Q (F0 m 20 ls []) := by
      intro n20
      induction n20 with
      | zero =>
        intro x1_20 mo_steps_20 mo_emissions_20 H locs ls hP hD hS hl hf
        rw [f_Mo_build_L20] at hf
        cases hf
      | succ n20 ih20 =>
        intro x1_20 mo_steps_20 mo_emissions_20 H locs ls hP hD hS hl hf
        rw [f_Mo_build_L20] at hf
        refine lv_iload_n hx hb d_Mo_build_20 rfl (lv_at hl 1 rfl) ?_
        refine lv_aload_n hx hb d_Mo_build_21 rfl (lv_at hl 0 rfl) ?_
        refine va_get (D := (dC, dI)) (ci := 8) (v := .int w13) (C := R_Mo) (T := F_Mo) (N := 29) hx hb hts iw_Mo hown hK hP 0 rfl rfl 12 (by decide) (hts _ m_729) (fun _ h9 => h9) rfl d_Mo_build_22 ?_
        refine lv_icmp_ge (tgt := 85) hx hb d_Mo_build_25 (by decide) (fun c17 => ?_) (fun c17 => ?_)
        · have hf := xif_t c17 hf
          exact K20_85 x1_20 mo_steps_20 mo_emissions_20 _ _ _ hP hD hS (lv_sub hl [0] rfl) hf
        · have hf := xif_f c17 hf
          refine lv_aload_n hx hb d_Mo_build_28 rfl (lv_at hl 0 rfl) ?_
          refine lv_iload_n hx hb d_Mo_build_29 rfl (lv_at hl 1 rfl) ?_
          obtain ⟨w18, hc19, hf⟩ := ob1_inv hf
          refine xk_v (xrunV (C := R_Mo) (As := [.int x1_20]) (rest := []) ⟨hx, hb, hml, hown, hts⟩ (c_Mo_scoreSteps l dC dI ty ad ta H.size mo_rows mo_columns mo_marks mo_letters w2 mo_made w5 w6 w7 w8 w12 w9 w13 w14 w15 mo_steps_20 mo_emissions_20 mo_length mo_text mo_worked mo_values mo_hits mo_hitAt mo_hitLength mo_written mo_listState mo_listAt mo_listLength w10 x1_20 w18 hc19) z_Mo_143 ⟨⟨rfl, rfl⟩, by decide, by decide⟩ hK hP hD hN hS hA (va_recv hK hP (ci := 8) (q0 := 0) rfl rfl) rfl hl.1 rfl (Nat.le_of_ble_eq_true rfl) d_Mo_build_30 ⟨Nat.zero_le _, Nat.zero_le _⟩) hS hD rfl hA (fun H locs hP hD hS => ?_)
          refine W.eq (g2 := F0 m 33 ls []) rfl ?_
          refine lv_aload_n hx hb d_Mo_build_33 rfl (lv_at hl 0 rfl) ?_
          refine va_get (D := (dC, dI)) (ci := 8) (v := .ref (ad 9)) (C := R_Mo) (T := F_Mo) (N := 29) hx hb hts iw_Mo hown hK hP 0 rfl rfl 13 (by decide) (hts _ m_730) (fun _ h9 => h9) rfl d_Mo_build_34 ?_
          refine lv_iload_n hx hb d_Mo_build_37 rfl (lv_at hl 1 rfl) ?_
          obtain ⟨hi20, hf⟩ := gdi hf
          refine va_iald hx hb hK hP 9 0 rfl rfl hi20 d_Mo_build_38 ?_
          refine lv_if_eq (tgt := 79) hx hb d_Mo_build_39 (by decide) (fun c21 => ?_) (fun c21 => ?_)
          · have hf := xif_t c21 hf
            refine lv_iinc (v := (x1_20 + (1 : Int32))) (lv' := [(1, .int (x1_20 + (1 : Int32))), (0, .ref (ad 0))]) hx hb d_Mo_build_79 hl (k := 1) rfl rfl (by decide) rfl (fun ls hl => ?_)
            refine lv_goto (tgt := 20) hx hb d_Mo_build_82 (by decide) ?_
            exact ih20 (x1_20 + (1 : Int32)) w18 mo_emissions_20 _ _ _ hP hD hS (lv_sub hl [1, 0] rfl) hf
          · have hf := xif_f c21 hf
            refine lv_aload_n hx hb d_Mo_build_42 rfl (lv_at hl 0 rfl) ?_
            refine va_get (D := (dC, dI)) (ci := 8) (v := .ref (ad 9)) (C := R_Mo) (T := F_Mo) (N := 29) hx hb hts iw_Mo hown hK hP 0 rfl rfl 13 (by decide) (hts _ m_730) (fun _ h9 => h9) rfl d_Mo_build_43 ?_
            refine lv_iload_n hx hb d_Mo_build_46 rfl (lv_at hl 1 rfl) ?_
            obtain ⟨hi22, hf⟩ := gdi hf
            refine va_iald hx hb hK hP 9 0 rfl rfl hi22 d_Mo_build_47 ?_
            refine lv_iconst (v := 4) hx hb d_Mo_build_48 (by decide) ?_
            refine lv_icmp_eq (tgt := 79) hx hb d_Mo_build_49 (by decide) (fun c23 => ?_) (fun c23 => ?_)
            · have hf := xif_t c23 hf
              refine lv_iinc (v := (x1_20 + (1 : Int32))) (lv' := [(1, .int (x1_20 + (1 : Int32))), (0, .ref (ad 0))]) hx hb d_Mo_build_79 hl (k := 1) rfl rfl (by decide) rfl (fun ls hl => ?_)
              refine lv_goto (tgt := 20) hx hb d_Mo_build_82 (by decide) ?_
              exact ih20 (x1_20 + (1 : Int32)) w18 mo_emissions_20 _ _ _ hP hD hS (lv_sub hl [1, 0] rfl) hf
            · have hf := xif_f c23 hf
              refine lv_aload_n hx hb d_Mo_build_52 rfl (lv_at hl 0 rfl) ?_
              refine va_get (D := (dC, dI)) (ci := 8) (v := .ref (ad 9)) (C := R_Mo) (T := F_Mo) (N := 29) hx hb hts iw_Mo hown hK hP 0 rfl rfl 13 (by decide) (hts _ m_730) (fun _ h9 => h9) rfl d_Mo_build_53 ?_
              refine lv_iload_n hx hb d_Mo_build_56 rfl (lv_at hl 1 rfl) ?_
              obtain ⟨hi24, hf⟩ := gdi hf
              refine va_iald hx hb hK hP 9 0 rfl rfl hi24 d_Mo_build_57 ?_
              refine lv_bipush (v := 7) hx hb d_Mo_build_58 (by decide) ?_
              refine lv_icmp_eq (tgt := 79) hx hb d_Mo_build_60 (by decide) (fun c25 => ?_) (fun c25 => ?_)
              · have hf := xif_t c25 hf
                refine lv_iinc (v := (x1_20 + (1 : Int32))) (lv' := [(1, .int (x1_20 + (1 : Int32))), (0, .ref (ad 0))]) hx hb d_Mo_build_79 hl (k := 1) rfl rfl (by decide) rfl (fun ls hl => ?_)
                refine lv_goto (tgt := 20) hx hb d_Mo_build_82 (by decide) ?_
                exact ih20 (x1_20 + (1 : Int32)) w18 mo_emissions_20 _ _ _ hP hD hS (lv_sub hl [1, 0] rfl) hf
              · have hf := xif_f c25 hf
                refine lv_aload_n hx hb d_Mo_build_63 rfl (lv_at hl 0 rfl) ?_
                refine va_get (D := (dC, dI)) (ci := 8) (v := .ref (ad 9)) (C := R_Mo) (T := F_Mo) (N := 29) hx hb hts iw_Mo hown hK hP 0 rfl rfl 13 (by decide) (hts _ m_730) (fun _ h9 => h9) rfl d_Mo_build_64 ?_
                refine lv_iload_n hx hb d_Mo_build_67 rfl (lv_at hl 1 rfl) ?_
                obtain ⟨hi26, hf⟩ := gdi hf
                refine va_iald hx hb hK hP 9 0 rfl rfl hi26 d_Mo_build_68 ?_
                refine lv_bipush (v := 8) hx hb d_Mo_build_69 (by decide) ?_
                refine lv_icmp_eq (tgt := 79) hx hb d_Mo_build_71 (by decide) (fun c27 => ?_) (fun c27 => ?_)
                · have hf := xif_t c27 hf
                  refine lv_iinc (v := (x1_20 + (1 : Int32))) (lv' := [(1, .int (x1_20 + (1 : Int32))), (0, .ref (ad 0))]) hx hb d_Mo_build_79 hl (k := 1) rfl rfl (by decide) rfl (fun ls hl => ?_)
                  refine lv_goto (tgt := 20) hx hb d_Mo_build_82 (by decide) ?_
                  exact ih20 (x1_20 + (1 : Int32)) w18 mo_emissions_20 _ _ _ hP hD hS (lv_sub hl [1, 0] rfl) hf
                · have hf := xif_f c27 hf
                  refine lv_aload_n hx hb d_Mo_build_74 rfl (lv_at hl 0 rfl) ?_
                  refine lv_iload_n hx hb d_Mo_build_75 rfl (lv_at hl 1 rfl) ?_
                  obtain ⟨w28, hc29, hf⟩ := ob1_inv hf
                  refine xk_v (xrunV (C := R_Mo) (As := [.int x1_20]) (rest := []) ⟨hx, hb, hml, hown, hts⟩ (c_Mo_scoreLetters l dC dI ty ad ta H.size mo_rows mo_columns mo_marks mo_letters w2 mo_made w5 w6 w7 w8 w12 w9 w13 w14 w15 w18 mo_emissions_20 mo_length mo_text mo_worked mo_values mo_hits mo_hitAt mo_hitLength mo_written mo_listState mo_listAt mo_listLength w10 x1_20 w28 hc29) z_Mo_147 ⟨⟨rfl, rfl⟩, by decide, by decide⟩ hK hP hD hN hS hA (va_recv hK hP (ci := 8) (q0 := 0) rfl rfl) rfl hl.1 rfl (Nat.le_of_ble_eq_true rfl) d_Mo_build_76 ⟨Nat.zero_le _, Nat.zero_le _⟩) hS hD rfl hA (fun H locs hP hD hS => ?_)
                  refine W.eq (g2 := F0 m 79 ls []) rfl ?_
                  refine lv_iinc (v := (x1_20 + (1 : Int32))) (lv' := [(1, .int (x1_20 + (1 : Int32))), (0, .ref (ad 0))]) hx hb d_Mo_build_79 hl (k := 1) rfl rfl (by decide) rfl (fun ls hl => ?_)
                  refine lv_goto (tgt := 20) hx hb d_Mo_build_82 (by decide) ?_
                  exact ih20 (x1_20 + (1 : Int32)) w18 w28 _ _ _ hP hD hS (lv_sub hl [1, 0] rfl) hf
    exact L20 1000 (0 : Int32) mo_steps mo_emissions _ _ _ hP hD hS (lv_sub hl [1, 0] rfl) hf
  · have hf := xif_t c4 hf
    refine lv_ldc (v := -1000000) hx hb hown (hts _ m_825) d_Mo_build_7 ?_
    obtain ⟨rfl, rfl, rfl, rfl, rfl, rfl, rfl, rfl, rfl, rfl, rfl, rfl, rfl, rfl, rfl, rfl, rfl⟩ := os17 hf
    exact hret H locs _ _ _ d_Mo_build_9 rfl hP hS
def f_Mo_isState (mo_made : Int32) (mo_states : Int32) (a1 : Int32) : Option (Int32) := if mo_made = (0 : Int32) then (some ((0 : Int32))) else (if a1 < (0 : Int32) then (some ((0 : Int32))) else (if mo_states ≤ a1 then (some ((0 : Int32))) else (some ((1 : Int32)))))
set_option maxHeartbeats 4000000 in
set_option maxRecDepth 100000 in
theorem c_Mo_isState (l : Launch) (dC : Nat → ClassId) (dI : Nat → Nat → Nat) (ty : Nat → ClassId) (ad : Nat → Nat) (ta : Nat → Nat) (sz : Nat) (mo_rows : Int32) (mo_columns : Int32) (mo_marks : (Nat → Int32)) (mo_letters : (Nat → Int32)) (mo_mate : (Nat → Int32)) (mo_made : Int32) (mo_nodes : Int32) (mo_sort : (Nat → Int32)) (mo_from : (Nat → Int32)) (mo_to : (Nat → Int32)) (mo_begin : (Nat → Int32)) (mo_other : (Nat → Int32)) (mo_states : Int32) (mo_kinds : (Nat → Int32)) (mo_nodeOf : (Nat → Int32)) (mo_steps : (Nat → Int32)) (mo_emissions : (Nat → Int32)) (mo_length : Int32) (mo_text : (Nat → Int32)) (mo_worked : Int32) (mo_values : (Nat → Int32)) (mo_hits : Int32) (mo_hitAt : (Nat → Int32)) (mo_hitLength : (Nat → Int32)) (mo_written : Int32) (mo_listState : (Nat → Int32)) (mo_listAt : (Nat → Int32)) (mo_listLength : (Nat → Int32)) (mo_stack : (Nat → Int32)) (a1 : Int32) (r0 : Int32) (hf : f_Mo_isState mo_made mo_states a1 = some (r0)) : Met l y_Mo_isState (.code y_Mo_isState prog_10_method_21_code 2 (some .boolean) :: gw) rm_Mo_isState (xPre ta (dC, dI) classes (tys3 ty) (wY ty ad mo_rows mo_columns mo_marks mo_letters mo_mate mo_made mo_nodes mo_sort mo_from mo_to mo_begin mo_other mo_states mo_kinds mo_nodeOf mo_steps mo_emissions mo_length mo_text mo_worked mo_values mo_hits mo_hitAt mo_hitLength mo_written mo_listState mo_listAt mo_listLength mo_stack) sz [.ref (ad 0), .int a1]) (xQi (dC, dI) classes (wY ty ad mo_rows mo_columns mo_marks mo_letters mo_mate mo_made mo_nodes mo_sort mo_from mo_to mo_begin mo_other mo_states mo_kinds mo_nodeOf mo_steps mo_emissions mo_length mo_text mo_worked mo_values mo_hits mo_hitAt mo_hitLength mo_written mo_listState mo_listAt mo_listLength mo_stack) (wY ty ad mo_rows mo_columns mo_marks mo_letters mo_mate mo_made mo_nodes mo_sort mo_from mo_to mo_begin mo_other mo_states mo_kinds mo_nodeOf mo_steps mo_emissions mo_length mo_text mo_worked mo_values mo_hits mo_hitAt mo_hitLength mo_written mo_listState mo_listAt mo_listLength mo_stack) sz r0) 0 0 (va_A (wY ty ad mo_rows mo_columns mo_marks mo_letters mo_mate mo_made mo_nodes mo_sort mo_from mo_to mo_begin mo_other mo_states mo_kinds mo_nodeOf mo_steps mo_emissions mo_length mo_text mo_worked mo_values mo_hits mo_hitAt mo_hitLength mo_written mo_listState mo_listAt mo_listLength mo_stack) sz) := by
  refine xmet_z rfl (Nat.le_of_ble_eq_true rfl) ?_
  intro p e s m below meth c A ls Q hx hb hml hts hown hK hN hA hP hD hS hl hret
  replace hown : s.vm.findClass R_Mo = some m.cls := hown
  have hl : lv_has ls 2 [(0, .ref (ad 0)), (1, .int a1)] := hl
  rw [f_Mo_isState] at hf
  obtain ⟨H, eH⟩ : ∃ H : Heap, H = s.heap := ⟨_, rfl⟩
  obtain ⟨locs, eL⟩ : ∃ L : List Loc, L = [] := ⟨_, rfl⟩
  have hP : va_P (dC, dI) classes (wY ty ad mo_rows mo_columns mo_marks mo_letters mo_mate mo_made mo_nodes mo_sort mo_from mo_to mo_begin mo_other mo_states mo_kinds mo_nodeOf mo_steps mo_emissions mo_length mo_text mo_worked mo_values mo_hits mo_hitAt mo_hitLength mo_written mo_listState mo_listAt mo_listLength mo_stack) H := by rw [eH]; exact hP
  have hS : va_S A s.heap H locs := by rw [eH, eL]; exact hS
  rw [← eL]
  suffices hgoal : W p l e rm_Mo_isState s m (List.toArray [.ref (ad 0), .int a1]) below meth c H locs 0 0 Q (F0 m 0 ls []) by rw [eH] at hgoal; exact hgoal
  clear eH eL
  refine lv_aload_n hx hb d_Mo_isState_0 rfl (lv_at hl 0 rfl) ?_
  refine va_get (D := (dC, dI)) (ci := 8) (v := .int mo_made) (C := R_Mo) (T := F_Mo) (N := 29) hx hb hts iw_Mo hown hK hP 0 rfl rfl 5 (by decide) (hts _ m_722) (fun _ h9 => h9) rfl d_Mo_isState_1 ?_
  refine lv_if_eq (tgt := 23) hx hb d_Mo_isState_4 (by decide) (fun c1 => ?_) (fun c1 => ?_)
  · have hf := xif_t c1 hf
    refine lv_iconst (v := 0) hx hb d_Mo_isState_23 (by decide) ?_
    obtain rfl := os1 hf
    exact hret H locs _ _ _ d_Mo_isState_24 rfl rfl hP hS
  · have hf := xif_f c1 hf
    refine lv_iload_n hx hb d_Mo_isState_7 rfl (lv_at hl 1 rfl) ?_
    refine lv_if_lt (tgt := 23) hx hb d_Mo_isState_8 (by decide) (fun c2 => ?_) (fun c2 => ?_)
    · have hf := xif_t c2 hf
      refine lv_iconst (v := 0) hx hb d_Mo_isState_23 (by decide) ?_
      obtain rfl := os1 hf
      exact hret H locs _ _ _ d_Mo_isState_24 rfl rfl hP hS
    · have hf := xif_f c2 hf
      refine lv_iload_n hx hb d_Mo_isState_11 rfl (lv_at hl 1 rfl) ?_
      refine lv_aload_n hx hb d_Mo_isState_12 rfl (lv_at hl 0 rfl) ?_
      refine va_get (D := (dC, dI)) (ci := 8) (v := .int mo_states) (C := R_Mo) (T := F_Mo) (N := 29) hx hb hts iw_Mo hown hK hP 0 rfl rfl 12 (by decide) (hts _ m_729) (fun _ h9 => h9) rfl d_Mo_isState_13 ?_
      refine lv_icmp_ge (tgt := 23) hx hb d_Mo_isState_16 (by decide) (fun c3 => ?_) (fun c3 => ?_)
      · have hf := xif_t c3 hf
        refine lv_iconst (v := 0) hx hb d_Mo_isState_23 (by decide) ?_
        obtain rfl := os1 hf
        exact hret H locs _ _ _ d_Mo_isState_24 rfl rfl hP hS
      · have hf := xif_f c3 hf
        refine lv_iconst (v := 1) hx hb d_Mo_isState_19 (by decide) ?_
        refine lv_goto (tgt := 24) hx hb d_Mo_isState_20 (by decide) ?_
        obtain rfl := os1 hf
        exact hret H locs _ _ _ d_Mo_isState_24 rfl rfl hP hS
def f_Mo_kind (mo_made : Int32) (mo_states : Int32) (mo_kinds : (Nat → Int32)) (a1 : Int32) : Option (Int32) := ob1 (f_Mo_isState mo_made mo_states a1) (fun r1 => if r1 = (0 : Int32) then (some ((-1000000 : Int32))) else (gd (xin a1 48) (some ((mo_kinds (Int32.toNatClampNeg a1))))))
set_option maxHeartbeats 4000000 in
set_option maxRecDepth 100000 in
theorem c_Mo_kind (l : Launch) (dC : Nat → ClassId) (dI : Nat → Nat → Nat) (ty : Nat → ClassId) (ad : Nat → Nat) (ta : Nat → Nat) (sz : Nat) (mo_rows : Int32) (mo_columns : Int32) (mo_marks : (Nat → Int32)) (mo_letters : (Nat → Int32)) (mo_mate : (Nat → Int32)) (mo_made : Int32) (mo_nodes : Int32) (mo_sort : (Nat → Int32)) (mo_from : (Nat → Int32)) (mo_to : (Nat → Int32)) (mo_begin : (Nat → Int32)) (mo_other : (Nat → Int32)) (mo_states : Int32) (mo_kinds : (Nat → Int32)) (mo_nodeOf : (Nat → Int32)) (mo_steps : (Nat → Int32)) (mo_emissions : (Nat → Int32)) (mo_length : Int32) (mo_text : (Nat → Int32)) (mo_worked : Int32) (mo_values : (Nat → Int32)) (mo_hits : Int32) (mo_hitAt : (Nat → Int32)) (mo_hitLength : (Nat → Int32)) (mo_written : Int32) (mo_listState : (Nat → Int32)) (mo_listAt : (Nat → Int32)) (mo_listLength : (Nat → Int32)) (mo_stack : (Nat → Int32)) (a1 : Int32) (r0 : Int32) (hf : f_Mo_kind mo_made mo_states mo_kinds a1 = some (r0)) : Met l y_Mo_kind (.code y_Mo_kind prog_10_method_22_code 2 (some .int) :: gw) rm_Mo_kind (xPre ta (dC, dI) classes (tys3 ty) (wY ty ad mo_rows mo_columns mo_marks mo_letters mo_mate mo_made mo_nodes mo_sort mo_from mo_to mo_begin mo_other mo_states mo_kinds mo_nodeOf mo_steps mo_emissions mo_length mo_text mo_worked mo_values mo_hits mo_hitAt mo_hitLength mo_written mo_listState mo_listAt mo_listLength mo_stack) sz [.ref (ad 0), .int a1]) (xQi (dC, dI) classes (wY ty ad mo_rows mo_columns mo_marks mo_letters mo_mate mo_made mo_nodes mo_sort mo_from mo_to mo_begin mo_other mo_states mo_kinds mo_nodeOf mo_steps mo_emissions mo_length mo_text mo_worked mo_values mo_hits mo_hitAt mo_hitLength mo_written mo_listState mo_listAt mo_listLength mo_stack) (wY ty ad mo_rows mo_columns mo_marks mo_letters mo_mate mo_made mo_nodes mo_sort mo_from mo_to mo_begin mo_other mo_states mo_kinds mo_nodeOf mo_steps mo_emissions mo_length mo_text mo_worked mo_values mo_hits mo_hitAt mo_hitLength mo_written mo_listState mo_listAt mo_listLength mo_stack) sz r0) 0 0 (va_A (wY ty ad mo_rows mo_columns mo_marks mo_letters mo_mate mo_made mo_nodes mo_sort mo_from mo_to mo_begin mo_other mo_states mo_kinds mo_nodeOf mo_steps mo_emissions mo_length mo_text mo_worked mo_values mo_hits mo_hitAt mo_hitLength mo_written mo_listState mo_listAt mo_listLength mo_stack) sz) := by
  refine xmet_i rfl (Nat.le_of_ble_eq_true rfl) ?_
  intro p e s m below meth c A ls Q hx hb hml hts hown hK hN hA hP hD hS hl hret
  replace hown : s.vm.findClass R_Mo = some m.cls := hown
  have hl : lv_has ls 2 [(0, .ref (ad 0)), (1, .int a1)] := hl
  rw [f_Mo_kind] at hf
  obtain ⟨H, eH⟩ : ∃ H : Heap, H = s.heap := ⟨_, rfl⟩
  obtain ⟨locs, eL⟩ : ∃ L : List Loc, L = [] := ⟨_, rfl⟩
  have hP : va_P (dC, dI) classes (wY ty ad mo_rows mo_columns mo_marks mo_letters mo_mate mo_made mo_nodes mo_sort mo_from mo_to mo_begin mo_other mo_states mo_kinds mo_nodeOf mo_steps mo_emissions mo_length mo_text mo_worked mo_values mo_hits mo_hitAt mo_hitLength mo_written mo_listState mo_listAt mo_listLength mo_stack) H := by rw [eH]; exact hP
  have hS : va_S A s.heap H locs := by rw [eH, eL]; exact hS
  rw [← eL]
  suffices hgoal : W p l e rm_Mo_kind s m (List.toArray [.ref (ad 0), .int a1]) below meth c H locs 0 0 Q (F0 m 0 ls []) by rw [eH] at hgoal; exact hgoal
  clear eH eL
  refine lv_aload_n hx hb d_Mo_kind_0 rfl (lv_at hl 0 rfl) ?_
  refine lv_iload_n hx hb d_Mo_kind_1 rfl (lv_at hl 1 rfl) ?_
  obtain ⟨r1, hc2, hf⟩ := ob1_inv hf
  refine xk_i (xrunV (C := R_Mo) (As := [.int a1]) (rest := []) ⟨hx, hb, hml, hown, hts⟩ (c_Mo_isState l dC dI ty ad ta H.size mo_rows mo_columns mo_marks mo_letters mo_mate mo_made mo_nodes mo_sort mo_from mo_to mo_begin mo_other mo_states mo_kinds mo_nodeOf mo_steps mo_emissions mo_length mo_text mo_worked mo_values mo_hits mo_hitAt mo_hitLength mo_written mo_listState mo_listAt mo_listLength mo_stack a1 r1 hc2) z_Mo_153 ⟨⟨rfl, rfl⟩, by decide, by decide⟩ hK hP hD hN hS hA (va_recv hK hP (ci := 8) (q0 := 0) rfl rfl) rfl hl.1 rfl (Nat.le_of_ble_eq_true rfl) d_Mo_kind_2 ⟨Nat.zero_le _, Nat.zero_le _⟩) hS hD rfl hA (fun H locs hP hD hS => ?_)
  refine W.eq (g2 := F0 m 5 ls [.int r1]) rfl ?_
  refine lv_if_eq (tgt := 17) hx hb d_Mo_kind_5 (by decide) (fun c3 => ?_) (fun c3 => ?_)
  · have hf := xif_t c3 hf
    refine lv_ldc (v := -1000000) hx hb hown (hts _ m_825) d_Mo_kind_17 ?_
    obtain rfl := os1 hf
    exact hret H locs _ _ _ d_Mo_kind_19 rfl hP hS
  · have hf := xif_f c3 hf
    refine lv_aload_n hx hb d_Mo_kind_8 rfl (lv_at hl 0 rfl) ?_
    refine va_get (D := (dC, dI)) (ci := 8) (v := .ref (ad 9)) (C := R_Mo) (T := F_Mo) (N := 29) hx hb hts iw_Mo hown hK hP 0 rfl rfl 13 (by decide) (hts _ m_730) (fun _ h9 => h9) rfl d_Mo_kind_9 ?_
    refine lv_iload_n hx hb d_Mo_kind_12 rfl (lv_at hl 1 rfl) ?_
    obtain ⟨hi4, hf⟩ := gdi hf
    refine va_iald hx hb hK hP 9 0 rfl rfl hi4 d_Mo_kind_13 ?_
    refine lv_goto (tgt := 19) hx hb d_Mo_kind_14 (by decide) ?_
    obtain rfl := os1 hf
    exact hret H locs _ _ _ d_Mo_kind_19 rfl hP hS
def f_Mo_node1 (mo_made : Int32) (mo_states : Int32) (mo_nodeOf : (Nat → Int32)) (a1 : Int32) : Option (Int32) := ob1 (f_Mo_isState mo_made mo_states a1) (fun r1 => if r1 = (0 : Int32) then (some ((-1000000 : Int32))) else (gd (xin a1 48) (some ((mo_nodeOf (Int32.toNatClampNeg a1))))))
set_option maxHeartbeats 4000000 in
set_option maxRecDepth 100000 in
theorem c_Mo_node1 (l : Launch) (dC : Nat → ClassId) (dI : Nat → Nat → Nat) (ty : Nat → ClassId) (ad : Nat → Nat) (ta : Nat → Nat) (sz : Nat) (mo_rows : Int32) (mo_columns : Int32) (mo_marks : (Nat → Int32)) (mo_letters : (Nat → Int32)) (mo_mate : (Nat → Int32)) (mo_made : Int32) (mo_nodes : Int32) (mo_sort : (Nat → Int32)) (mo_from : (Nat → Int32)) (mo_to : (Nat → Int32)) (mo_begin : (Nat → Int32)) (mo_other : (Nat → Int32)) (mo_states : Int32) (mo_kinds : (Nat → Int32)) (mo_nodeOf : (Nat → Int32)) (mo_steps : (Nat → Int32)) (mo_emissions : (Nat → Int32)) (mo_length : Int32) (mo_text : (Nat → Int32)) (mo_worked : Int32) (mo_values : (Nat → Int32)) (mo_hits : Int32) (mo_hitAt : (Nat → Int32)) (mo_hitLength : (Nat → Int32)) (mo_written : Int32) (mo_listState : (Nat → Int32)) (mo_listAt : (Nat → Int32)) (mo_listLength : (Nat → Int32)) (mo_stack : (Nat → Int32)) (a1 : Int32) (r0 : Int32) (hf : f_Mo_node1 mo_made mo_states mo_nodeOf a1 = some (r0)) : Met l y_Mo_node1 (.code y_Mo_node1 prog_10_method_23_code 2 (some .int) :: gw) rm_Mo_node1 (xPre ta (dC, dI) classes (tys3 ty) (wY ty ad mo_rows mo_columns mo_marks mo_letters mo_mate mo_made mo_nodes mo_sort mo_from mo_to mo_begin mo_other mo_states mo_kinds mo_nodeOf mo_steps mo_emissions mo_length mo_text mo_worked mo_values mo_hits mo_hitAt mo_hitLength mo_written mo_listState mo_listAt mo_listLength mo_stack) sz [.ref (ad 0), .int a1]) (xQi (dC, dI) classes (wY ty ad mo_rows mo_columns mo_marks mo_letters mo_mate mo_made mo_nodes mo_sort mo_from mo_to mo_begin mo_other mo_states mo_kinds mo_nodeOf mo_steps mo_emissions mo_length mo_text mo_worked mo_values mo_hits mo_hitAt mo_hitLength mo_written mo_listState mo_listAt mo_listLength mo_stack) (wY ty ad mo_rows mo_columns mo_marks mo_letters mo_mate mo_made mo_nodes mo_sort mo_from mo_to mo_begin mo_other mo_states mo_kinds mo_nodeOf mo_steps mo_emissions mo_length mo_text mo_worked mo_values mo_hits mo_hitAt mo_hitLength mo_written mo_listState mo_listAt mo_listLength mo_stack) sz r0) 0 0 (va_A (wY ty ad mo_rows mo_columns mo_marks mo_letters mo_mate mo_made mo_nodes mo_sort mo_from mo_to mo_begin mo_other mo_states mo_kinds mo_nodeOf mo_steps mo_emissions mo_length mo_text mo_worked mo_values mo_hits mo_hitAt mo_hitLength mo_written mo_listState mo_listAt mo_listLength mo_stack) sz) := by
  refine xmet_i rfl (Nat.le_of_ble_eq_true rfl) ?_
  intro p e s m below meth c A ls Q hx hb hml hts hown hK hN hA hP hD hS hl hret
  replace hown : s.vm.findClass R_Mo = some m.cls := hown
  have hl : lv_has ls 2 [(0, .ref (ad 0)), (1, .int a1)] := hl
  rw [f_Mo_node1] at hf
  obtain ⟨H, eH⟩ : ∃ H : Heap, H = s.heap := ⟨_, rfl⟩
  obtain ⟨locs, eL⟩ : ∃ L : List Loc, L = [] := ⟨_, rfl⟩
  have hP : va_P (dC, dI) classes (wY ty ad mo_rows mo_columns mo_marks mo_letters mo_mate mo_made mo_nodes mo_sort mo_from mo_to mo_begin mo_other mo_states mo_kinds mo_nodeOf mo_steps mo_emissions mo_length mo_text mo_worked mo_values mo_hits mo_hitAt mo_hitLength mo_written mo_listState mo_listAt mo_listLength mo_stack) H := by rw [eH]; exact hP
  have hS : va_S A s.heap H locs := by rw [eH, eL]; exact hS
  rw [← eL]
  suffices hgoal : W p l e rm_Mo_node1 s m (List.toArray [.ref (ad 0), .int a1]) below meth c H locs 0 0 Q (F0 m 0 ls []) by rw [eH] at hgoal; exact hgoal
  clear eH eL
  refine lv_aload_n hx hb d_Mo_node1_0 rfl (lv_at hl 0 rfl) ?_
  refine lv_iload_n hx hb d_Mo_node1_1 rfl (lv_at hl 1 rfl) ?_
  obtain ⟨r1, hc2, hf⟩ := ob1_inv hf
  refine xk_i (xrunV (C := R_Mo) (As := [.int a1]) (rest := []) ⟨hx, hb, hml, hown, hts⟩ (c_Mo_isState l dC dI ty ad ta H.size mo_rows mo_columns mo_marks mo_letters mo_mate mo_made mo_nodes mo_sort mo_from mo_to mo_begin mo_other mo_states mo_kinds mo_nodeOf mo_steps mo_emissions mo_length mo_text mo_worked mo_values mo_hits mo_hitAt mo_hitLength mo_written mo_listState mo_listAt mo_listLength mo_stack a1 r1 hc2) z_Mo_153 ⟨⟨rfl, rfl⟩, by decide, by decide⟩ hK hP hD hN hS hA (va_recv hK hP (ci := 8) (q0 := 0) rfl rfl) rfl hl.1 rfl (Nat.le_of_ble_eq_true rfl) d_Mo_node1_2 ⟨Nat.zero_le _, Nat.zero_le _⟩) hS hD rfl hA (fun H locs hP hD hS => ?_)
  refine W.eq (g2 := F0 m 5 ls [.int r1]) rfl ?_
  refine lv_if_eq (tgt := 17) hx hb d_Mo_node1_5 (by decide) (fun c3 => ?_) (fun c3 => ?_)
  · have hf := xif_t c3 hf
    refine lv_ldc (v := -1000000) hx hb hown (hts _ m_825) d_Mo_node1_17 ?_
    obtain rfl := os1 hf
    exact hret H locs _ _ _ d_Mo_node1_19 rfl hP hS
  · have hf := xif_f c3 hf
    refine lv_aload_n hx hb d_Mo_node1_8 rfl (lv_at hl 0 rfl) ?_
    refine va_get (D := (dC, dI)) (ci := 8) (v := .ref (ad 10)) (C := R_Mo) (T := F_Mo) (N := 29) hx hb hts iw_Mo hown hK hP 0 rfl rfl 14 (by decide) (hts _ m_731) (fun _ h9 => h9) rfl d_Mo_node1_9 ?_
    refine lv_iload_n hx hb d_Mo_node1_12 rfl (lv_at hl 1 rfl) ?_
    obtain ⟨hi4, hf⟩ := gdi hf
    refine va_iald hx hb hK hP 10 0 rfl rfl hi4 d_Mo_node1_13 ?_
    refine lv_goto (tgt := 19) hx hb d_Mo_node1_14 (by decide) ?_
    obtain rfl := os1 hf
    exact hret H locs _ _ _ d_Mo_node1_19 rfl hP hS
def f_Mo_target_J18  (t0_18 : Int32) : Option (Int32) := if (0 : Int32) ≤ t0_18 then (some (t0_18)) else (some ((-1000000 : Int32)))
def f_Mo_target (mo_made : Int32) (mo_begin : (Nat → Int32)) (mo_other : (Nat → Int32)) (mo_states : Int32) (mo_kinds : (Nat → Int32)) (mo_nodeOf : (Nat → Int32)) (a1 : Int32) (a2 : Int32) : Option (Int32) := ob1 (f_Mo_isState mo_made mo_states a1) (fun r1 => if r1 = (0 : Int32) then (f_Mo_target_J18 (-1 : Int32)) else (ob1 (f_Mo_targetOf mo_begin mo_other mo_kinds mo_nodeOf a1 a2) (fun r5 => f_Mo_target_J18 r5)))
set_option maxHeartbeats 4000000 in
set_option maxRecDepth 100000 in
theorem c_Mo_target (l : Launch) (dC : Nat → ClassId) (dI : Nat → Nat → Nat) (ty : Nat → ClassId) (ad : Nat → Nat) (ta : Nat → Nat) (sz : Nat) (mo_rows : Int32) (mo_columns : Int32) (mo_marks : (Nat → Int32)) (mo_letters : (Nat → Int32)) (mo_mate : (Nat → Int32)) (mo_made : Int32) (mo_nodes : Int32) (mo_sort : (Nat → Int32)) (mo_from : (Nat → Int32)) (mo_to : (Nat → Int32)) (mo_begin : (Nat → Int32)) (mo_other : (Nat → Int32)) (mo_states : Int32) (mo_kinds : (Nat → Int32)) (mo_nodeOf : (Nat → Int32)) (mo_steps : (Nat → Int32)) (mo_emissions : (Nat → Int32)) (mo_length : Int32) (mo_text : (Nat → Int32)) (mo_worked : Int32) (mo_values : (Nat → Int32)) (mo_hits : Int32) (mo_hitAt : (Nat → Int32)) (mo_hitLength : (Nat → Int32)) (mo_written : Int32) (mo_listState : (Nat → Int32)) (mo_listAt : (Nat → Int32)) (mo_listLength : (Nat → Int32)) (mo_stack : (Nat → Int32)) (a1 : Int32) (a2 : Int32) (r0 : Int32) (hf : f_Mo_target mo_made mo_begin mo_other mo_states mo_kinds mo_nodeOf a1 a2 = some (r0)) : Met l y_Mo_target (.code y_Mo_target prog_10_method_24_code 4 (some .int) :: gw) rm_Mo_target (xPre ta (dC, dI) classes (tys3 ty) (wY ty ad mo_rows mo_columns mo_marks mo_letters mo_mate mo_made mo_nodes mo_sort mo_from mo_to mo_begin mo_other mo_states mo_kinds mo_nodeOf mo_steps mo_emissions mo_length mo_text mo_worked mo_values mo_hits mo_hitAt mo_hitLength mo_written mo_listState mo_listAt mo_listLength mo_stack) sz [.ref (ad 0), .int a1, .int a2]) (xQi (dC, dI) classes (wY ty ad mo_rows mo_columns mo_marks mo_letters mo_mate mo_made mo_nodes mo_sort mo_from mo_to mo_begin mo_other mo_states mo_kinds mo_nodeOf mo_steps mo_emissions mo_length mo_text mo_worked mo_values mo_hits mo_hitAt mo_hitLength mo_written mo_listState mo_listAt mo_listLength mo_stack) (wY ty ad mo_rows mo_columns mo_marks mo_letters mo_mate mo_made mo_nodes mo_sort mo_from mo_to mo_begin mo_other mo_states mo_kinds mo_nodeOf mo_steps mo_emissions mo_length mo_text mo_worked mo_values mo_hits mo_hitAt mo_hitLength mo_written mo_listState mo_listAt mo_listLength mo_stack) sz r0) 0 0 (va_A (wY ty ad mo_rows mo_columns mo_marks mo_letters mo_mate mo_made mo_nodes mo_sort mo_from mo_to mo_begin mo_other mo_states mo_kinds mo_nodeOf mo_steps mo_emissions mo_length mo_text mo_worked mo_values mo_hits mo_hitAt mo_hitLength mo_written mo_listState mo_listAt mo_listLength mo_stack) sz) := by
  refine xmet_i rfl (Nat.le_of_ble_eq_true rfl) ?_
  intro p e s m below meth c A ls Q hx hb hml hts hown hK hN hA hP hD hS hl hret
  replace hown : s.vm.findClass R_Mo = some m.cls := hown
  have hl : lv_has ls 4 [(0, .ref (ad 0)), (1, .int a1), (2, .int a2)] := hl
  rw [f_Mo_target] at hf
  obtain ⟨H, eH⟩ : ∃ H : Heap, H = s.heap := ⟨_, rfl⟩
  obtain ⟨locs, eL⟩ : ∃ L : List Loc, L = [] := ⟨_, rfl⟩
  have hP : va_P (dC, dI) classes (wY ty ad mo_rows mo_columns mo_marks mo_letters mo_mate mo_made mo_nodes mo_sort mo_from mo_to mo_begin mo_other mo_states mo_kinds mo_nodeOf mo_steps mo_emissions mo_length mo_text mo_worked mo_values mo_hits mo_hitAt mo_hitLength mo_written mo_listState mo_listAt mo_listLength mo_stack) H := by rw [eH]; exact hP
  have hS : va_S A s.heap H locs := by rw [eH, eL]; exact hS
  rw [← eL]
  suffices hgoal : W p l e rm_Mo_target s m (List.toArray [.ref (ad 0), .int a1, .int a2]) below meth c H locs 0 0 Q (F0 m 0 ls []) by rw [eH] at hgoal; exact hgoal
  clear eH eL
  refine lv_aload_n hx hb d_Mo_target_0 rfl (lv_at hl 0 rfl) ?_
  refine lv_iload_n hx hb d_Mo_target_1 rfl (lv_at hl 1 rfl) ?_
  obtain ⟨r1, hc2, hf⟩ := ob1_inv hf
  refine xk_i (xrunV (C := R_Mo) (As := [.int a1]) (rest := []) ⟨hx, hb, hml, hown, hts⟩ (c_Mo_isState l dC dI ty ad ta H.size mo_rows mo_columns mo_marks mo_letters mo_mate mo_made mo_nodes mo_sort mo_from mo_to mo_begin mo_other mo_states mo_kinds mo_nodeOf mo_steps mo_emissions mo_length mo_text mo_worked mo_values mo_hits mo_hitAt mo_hitLength mo_written mo_listState mo_listAt mo_listLength mo_stack a1 r1 hc2) z_Mo_153 ⟨⟨rfl, rfl⟩, by decide, by decide⟩ hK hP hD hN hS hA (va_recv hK hP (ci := 8) (q0 := 0) rfl rfl) rfl hl.1 rfl (Nat.le_of_ble_eq_true rfl) d_Mo_target_2 ⟨Nat.zero_le _, Nat.zero_le _⟩) hS hD rfl hA (fun H locs hP hD hS => ?_)
  refine W.eq (g2 := F0 m 5 ls [.int r1]) rfl ?_
  have J18 : ∀ (t0_18 : Int32) (H : Heap) (locs : List Loc) (ls : Array Slot), va_P (dC, dI) classes (wY ty ad mo_rows mo_columns mo_marks mo_letters mo_mate mo_made mo_nodes mo_sort mo_from mo_to mo_begin mo_other mo_states mo_kinds mo_nodeOf mo_steps mo_emissions mo_length mo_text mo_worked mo_values mo_hits mo_hitAt mo_hitLength mo_written mo_listState mo_listAt mo_listLength mo_stack) H → va_D A (wY ty ad mo_rows mo_columns mo_marks mo_letters mo_mate mo_made mo_nodes mo_sort mo_from mo_to mo_begin mo_other mo_states mo_kinds mo_nodeOf mo_steps mo_emissions mo_length mo_text mo_worked mo_values mo_hits mo_hitAt mo_hitLength mo_written mo_listState mo_listAt mo_listLength mo_stack) → va_S A s.heap H locs → lv_has ls 4 [] → f_Mo_target_J18 t0_18 = some (r0) → W p l e rm_Mo_target s m (List.toArray [.ref (ad 0), .int a1, .int a2]) below meth c H locs 0 0 Q (F0 m 18 ls [.int t0_18]) := by
    intro t0_18 H locs ls hP hD hS hl hf
    rw [f_Mo_target_J18] at hf
    refine lv_istore_n (lv' := [(3, .int t0_18)]) hx hb d_Mo_target_18 rfl hl (by decide) rfl (fun ls hl => ?_)
    refine lv_iload_n hx hb d_Mo_target_19 rfl (lv_at hl 0 rfl) ?_
    refine lv_if_ge (tgt := 28) hx hb d_Mo_target_20 (by decide) (fun c3 => ?_) (fun c3 => ?_)
    · have hf := xif_t c3 hf
      refine lv_iload_n hx hb d_Mo_target_28 rfl (lv_at hl 0 rfl) ?_
      obtain rfl := os1 hf
      exact hret H locs _ _ _ d_Mo_target_29 rfl hP hS
    · have hf := xif_f c3 hf
      refine lv_ldc (v := -1000000) hx hb hown (hts _ m_825) d_Mo_target_23 ?_
      refine lv_goto (tgt := 29) hx hb d_Mo_target_25 (by decide) ?_
      obtain rfl := os1 hf
      exact hret H locs _ _ _ d_Mo_target_29 rfl hP hS
  refine lv_if_eq (tgt := 17) hx hb d_Mo_target_5 (by decide) (fun c4 => ?_) (fun c4 => ?_)
  · have hf := xif_t c4 hf
    refine lv_iconst (v := -1) hx hb d_Mo_target_17 (by decide) ?_
    exact J18 (-1 : Int32) _ _ _ hP hD hS (lv_sub hl [] rfl) hf
  · have hf := xif_f c4 hf
    refine lv_aload_n hx hb d_Mo_target_8 rfl (lv_at hl 0 rfl) ?_
    refine lv_iload_n hx hb d_Mo_target_9 rfl (lv_at hl 1 rfl) ?_
    refine lv_iload_n hx hb d_Mo_target_10 rfl (lv_at hl 2 rfl) ?_
    obtain ⟨r5, hc6, hf⟩ := ob1_inv hf
    refine xk_i (xrunV (C := R_Mo) (As := [.int a1, .int a2]) (rest := []) ⟨hx, hb, hml, hown, hts⟩ (c_Mo_targetOf l dC dI ty ad ta H.size mo_rows mo_columns mo_marks mo_letters mo_mate mo_made mo_nodes mo_sort mo_from mo_to mo_begin mo_other mo_states mo_kinds mo_nodeOf mo_steps mo_emissions mo_length mo_text mo_worked mo_values mo_hits mo_hitAt mo_hitLength mo_written mo_listState mo_listAt mo_listLength mo_stack a1 a2 r5 hc6) z_Mo_119 ⟨⟨rfl, rfl⟩, by decide, by decide⟩ hK hP hD hN hS hA (va_recv hK hP (ci := 8) (q0 := 0) rfl rfl) rfl hl.1 rfl (Nat.le_of_ble_eq_true rfl) d_Mo_target_11 ⟨Nat.zero_le _, Nat.zero_le _⟩) hS hD rfl hA (fun H locs hP hD hS => ?_)
    refine W.eq (g2 := F0 m 14 ls [.int r5]) rfl ?_
    refine lv_goto (tgt := 18) hx hb d_Mo_target_14 (by decide) ?_
    exact J18 r5 _ _ _ hP hD hS (lv_sub hl [] rfl) hf
def f_Mo_step (mo_made : Int32) (mo_begin : (Nat → Int32)) (mo_other : (Nat → Int32)) (mo_states : Int32) (mo_kinds : (Nat → Int32)) (mo_nodeOf : (Nat → Int32)) (mo_steps : (Nat → Int32)) (a1 : Int32) (a2 : Int32) : Option (Int32) := ob1 (f_Mo_isState mo_made mo_states a1) (fun r1 => if r1 = (0 : Int32) then (some ((-1000000 : Int32))) else (ob1 (f_Mo_targetOf mo_begin mo_other mo_kinds mo_nodeOf a1 a2) (fun r4 => if r4 < (0 : Int32) then (some ((-1000000 : Int32))) else (gd (xin (((8 : Int32) * a1) + a2) 384) (some ((mo_steps (Int32.toNatClampNeg (((8 : Int32) * a1) + a2)))))))))
set_option maxHeartbeats 4000000 in
set_option maxRecDepth 100000 in
theorem c_Mo_step (l : Launch) (dC : Nat → ClassId) (dI : Nat → Nat → Nat) (ty : Nat → ClassId) (ad : Nat → Nat) (ta : Nat → Nat) (sz : Nat) (mo_rows : Int32) (mo_columns : Int32) (mo_marks : (Nat → Int32)) (mo_letters : (Nat → Int32)) (mo_mate : (Nat → Int32)) (mo_made : Int32) (mo_nodes : Int32) (mo_sort : (Nat → Int32)) (mo_from : (Nat → Int32)) (mo_to : (Nat → Int32)) (mo_begin : (Nat → Int32)) (mo_other : (Nat → Int32)) (mo_states : Int32) (mo_kinds : (Nat → Int32)) (mo_nodeOf : (Nat → Int32)) (mo_steps : (Nat → Int32)) (mo_emissions : (Nat → Int32)) (mo_length : Int32) (mo_text : (Nat → Int32)) (mo_worked : Int32) (mo_values : (Nat → Int32)) (mo_hits : Int32) (mo_hitAt : (Nat → Int32)) (mo_hitLength : (Nat → Int32)) (mo_written : Int32) (mo_listState : (Nat → Int32)) (mo_listAt : (Nat → Int32)) (mo_listLength : (Nat → Int32)) (mo_stack : (Nat → Int32)) (a1 : Int32) (a2 : Int32) (r0 : Int32) (hf : f_Mo_step mo_made mo_begin mo_other mo_states mo_kinds mo_nodeOf mo_steps a1 a2 = some (r0)) : Met l y_Mo_step (.code y_Mo_step prog_10_method_25_code 3 (some .int) :: gw) rm_Mo_step (xPre ta (dC, dI) classes (tys3 ty) (wY ty ad mo_rows mo_columns mo_marks mo_letters mo_mate mo_made mo_nodes mo_sort mo_from mo_to mo_begin mo_other mo_states mo_kinds mo_nodeOf mo_steps mo_emissions mo_length mo_text mo_worked mo_values mo_hits mo_hitAt mo_hitLength mo_written mo_listState mo_listAt mo_listLength mo_stack) sz [.ref (ad 0), .int a1, .int a2]) (xQi (dC, dI) classes (wY ty ad mo_rows mo_columns mo_marks mo_letters mo_mate mo_made mo_nodes mo_sort mo_from mo_to mo_begin mo_other mo_states mo_kinds mo_nodeOf mo_steps mo_emissions mo_length mo_text mo_worked mo_values mo_hits mo_hitAt mo_hitLength mo_written mo_listState mo_listAt mo_listLength mo_stack) (wY ty ad mo_rows mo_columns mo_marks mo_letters mo_mate mo_made mo_nodes mo_sort mo_from mo_to mo_begin mo_other mo_states mo_kinds mo_nodeOf mo_steps mo_emissions mo_length mo_text mo_worked mo_values mo_hits mo_hitAt mo_hitLength mo_written mo_listState mo_listAt mo_listLength mo_stack) sz r0) 0 0 (va_A (wY ty ad mo_rows mo_columns mo_marks mo_letters mo_mate mo_made mo_nodes mo_sort mo_from mo_to mo_begin mo_other mo_states mo_kinds mo_nodeOf mo_steps mo_emissions mo_length mo_text mo_worked mo_values mo_hits mo_hitAt mo_hitLength mo_written mo_listState mo_listAt mo_listLength mo_stack) sz) := by
  refine xmet_i rfl (Nat.le_of_ble_eq_true rfl) ?_
  intro p e s m below meth c A ls Q hx hb hml hts hown hK hN hA hP hD hS hl hret
  replace hown : s.vm.findClass R_Mo = some m.cls := hown
  have hl : lv_has ls 3 [(0, .ref (ad 0)), (1, .int a1), (2, .int a2)] := hl
  rw [f_Mo_step] at hf
  obtain ⟨H, eH⟩ : ∃ H : Heap, H = s.heap := ⟨_, rfl⟩
  obtain ⟨locs, eL⟩ : ∃ L : List Loc, L = [] := ⟨_, rfl⟩
  have hP : va_P (dC, dI) classes (wY ty ad mo_rows mo_columns mo_marks mo_letters mo_mate mo_made mo_nodes mo_sort mo_from mo_to mo_begin mo_other mo_states mo_kinds mo_nodeOf mo_steps mo_emissions mo_length mo_text mo_worked mo_values mo_hits mo_hitAt mo_hitLength mo_written mo_listState mo_listAt mo_listLength mo_stack) H := by rw [eH]; exact hP
  have hS : va_S A s.heap H locs := by rw [eH, eL]; exact hS
  rw [← eL]
  suffices hgoal : W p l e rm_Mo_step s m (List.toArray [.ref (ad 0), .int a1, .int a2]) below meth c H locs 0 0 Q (F0 m 0 ls []) by rw [eH] at hgoal; exact hgoal
  clear eH eL
  refine lv_aload_n hx hb d_Mo_step_0 rfl (lv_at hl 0 rfl) ?_
  refine lv_iload_n hx hb d_Mo_step_1 rfl (lv_at hl 1 rfl) ?_
  obtain ⟨r1, hc2, hf⟩ := ob1_inv hf
  refine xk_i (xrunV (C := R_Mo) (As := [.int a1]) (rest := []) ⟨hx, hb, hml, hown, hts⟩ (c_Mo_isState l dC dI ty ad ta H.size mo_rows mo_columns mo_marks mo_letters mo_mate mo_made mo_nodes mo_sort mo_from mo_to mo_begin mo_other mo_states mo_kinds mo_nodeOf mo_steps mo_emissions mo_length mo_text mo_worked mo_values mo_hits mo_hitAt mo_hitLength mo_written mo_listState mo_listAt mo_listLength mo_stack a1 r1 hc2) z_Mo_153 ⟨⟨rfl, rfl⟩, by decide, by decide⟩ hK hP hD hN hS hA (va_recv hK hP (ci := 8) (q0 := 0) rfl rfl) rfl hl.1 rfl (Nat.le_of_ble_eq_true rfl) d_Mo_step_2 ⟨Nat.zero_le _, Nat.zero_le _⟩) hS hD rfl hA (fun H locs hP hD hS => ?_)
  refine W.eq (g2 := F0 m 5 ls [.int r1]) rfl ?_
  refine lv_if_eq (tgt := 31) hx hb d_Mo_step_5 (by decide) (fun c3 => ?_) (fun c3 => ?_)
  · have hf := xif_t c3 hf
    refine lv_ldc (v := -1000000) hx hb hown (hts _ m_825) d_Mo_step_31 ?_
    obtain rfl := os1 hf
    exact hret H locs _ _ _ d_Mo_step_33 rfl hP hS
  · have hf := xif_f c3 hf
    refine lv_aload_n hx hb d_Mo_step_8 rfl (lv_at hl 0 rfl) ?_
    refine lv_iload_n hx hb d_Mo_step_9 rfl (lv_at hl 1 rfl) ?_
    refine lv_iload_n hx hb d_Mo_step_10 rfl (lv_at hl 2 rfl) ?_
    obtain ⟨r4, hc5, hf⟩ := ob1_inv hf
    refine xk_i (xrunV (C := R_Mo) (As := [.int a1, .int a2]) (rest := []) ⟨hx, hb, hml, hown, hts⟩ (c_Mo_targetOf l dC dI ty ad ta H.size mo_rows mo_columns mo_marks mo_letters mo_mate mo_made mo_nodes mo_sort mo_from mo_to mo_begin mo_other mo_states mo_kinds mo_nodeOf mo_steps mo_emissions mo_length mo_text mo_worked mo_values mo_hits mo_hitAt mo_hitLength mo_written mo_listState mo_listAt mo_listLength mo_stack a1 a2 r4 hc5) z_Mo_119 ⟨⟨rfl, rfl⟩, by decide, by decide⟩ hK hP hD hN hS hA (va_recv hK hP (ci := 8) (q0 := 0) rfl rfl) rfl hl.1 rfl (Nat.le_of_ble_eq_true rfl) d_Mo_step_11 ⟨Nat.zero_le _, Nat.zero_le _⟩) hS hD rfl hA (fun H locs hP hD hS => ?_)
    refine W.eq (g2 := F0 m 14 ls [.int r4]) rfl ?_
    refine lv_if_lt (tgt := 31) hx hb d_Mo_step_14 (by decide) (fun c6 => ?_) (fun c6 => ?_)
    · have hf := xif_t c6 hf
      refine lv_ldc (v := -1000000) hx hb hown (hts _ m_825) d_Mo_step_31 ?_
      obtain rfl := os1 hf
      exact hret H locs _ _ _ d_Mo_step_33 rfl hP hS
    · have hf := xif_f c6 hf
      refine lv_aload_n hx hb d_Mo_step_17 rfl (lv_at hl 0 rfl) ?_
      refine va_get (D := (dC, dI)) (ci := 8) (v := .ref (ad 11)) (C := R_Mo) (T := F_Mo) (N := 29) hx hb hts iw_Mo hown hK hP 0 rfl rfl 15 (by decide) (hts _ m_732) (fun _ h9 => h9) rfl d_Mo_step_18 ?_
      refine lv_bipush (v := 8) hx hb d_Mo_step_21 (by decide) ?_
      refine lv_iload_n hx hb d_Mo_step_23 rfl (lv_at hl 1 rfl) ?_
      refine lv_imul hx hb d_Mo_step_24 ?_
      refine lv_iload_n hx hb d_Mo_step_25 rfl (lv_at hl 2 rfl) ?_
      refine lv_iadd hx hb d_Mo_step_26 ?_
      obtain ⟨hi7, hf⟩ := gdi hf
      refine va_iald hx hb hK hP 11 0 rfl rfl hi7 d_Mo_step_27 ?_
      refine lv_goto (tgt := 33) hx hb d_Mo_step_28 (by decide) ?_
      obtain rfl := os1 hf
      exact hret H locs _ _ _ d_Mo_step_33 rfl hP hS
def f_Mo_isLetter (a1 : Int32) : Option (Int32) := if a1 < (0 : Int32) then (some ((0 : Int32))) else (if (4 : Int32) ≤ a1 then (some ((0 : Int32))) else (some ((1 : Int32))))
set_option maxHeartbeats 4000000 in
set_option maxRecDepth 100000 in
theorem c_Mo_isLetter (l : Launch) (dC : Nat → ClassId) (dI : Nat → Nat → Nat) (ty : Nat → ClassId) (ad : Nat → Nat) (ta : Nat → Nat) (sz : Nat) (mo_rows : Int32) (mo_columns : Int32) (mo_marks : (Nat → Int32)) (mo_letters : (Nat → Int32)) (mo_mate : (Nat → Int32)) (mo_made : Int32) (mo_nodes : Int32) (mo_sort : (Nat → Int32)) (mo_from : (Nat → Int32)) (mo_to : (Nat → Int32)) (mo_begin : (Nat → Int32)) (mo_other : (Nat → Int32)) (mo_states : Int32) (mo_kinds : (Nat → Int32)) (mo_nodeOf : (Nat → Int32)) (mo_steps : (Nat → Int32)) (mo_emissions : (Nat → Int32)) (mo_length : Int32) (mo_text : (Nat → Int32)) (mo_worked : Int32) (mo_values : (Nat → Int32)) (mo_hits : Int32) (mo_hitAt : (Nat → Int32)) (mo_hitLength : (Nat → Int32)) (mo_written : Int32) (mo_listState : (Nat → Int32)) (mo_listAt : (Nat → Int32)) (mo_listLength : (Nat → Int32)) (mo_stack : (Nat → Int32)) (a1 : Int32) (r0 : Int32) (hf : f_Mo_isLetter a1 = some (r0)) : Met l y_Mo_isLetter (.code y_Mo_isLetter prog_10_method_26_code 1 (some .boolean) :: gw) rm_Mo_isLetter (xPre ta (dC, dI) classes (tys3 ty) (wY ty ad mo_rows mo_columns mo_marks mo_letters mo_mate mo_made mo_nodes mo_sort mo_from mo_to mo_begin mo_other mo_states mo_kinds mo_nodeOf mo_steps mo_emissions mo_length mo_text mo_worked mo_values mo_hits mo_hitAt mo_hitLength mo_written mo_listState mo_listAt mo_listLength mo_stack) sz [.int a1]) (xQi (dC, dI) classes (wY ty ad mo_rows mo_columns mo_marks mo_letters mo_mate mo_made mo_nodes mo_sort mo_from mo_to mo_begin mo_other mo_states mo_kinds mo_nodeOf mo_steps mo_emissions mo_length mo_text mo_worked mo_values mo_hits mo_hitAt mo_hitLength mo_written mo_listState mo_listAt mo_listLength mo_stack) (wY ty ad mo_rows mo_columns mo_marks mo_letters mo_mate mo_made mo_nodes mo_sort mo_from mo_to mo_begin mo_other mo_states mo_kinds mo_nodeOf mo_steps mo_emissions mo_length mo_text mo_worked mo_values mo_hits mo_hitAt mo_hitLength mo_written mo_listState mo_listAt mo_listLength mo_stack) sz r0) 0 0 (va_A (wY ty ad mo_rows mo_columns mo_marks mo_letters mo_mate mo_made mo_nodes mo_sort mo_from mo_to mo_begin mo_other mo_states mo_kinds mo_nodeOf mo_steps mo_emissions mo_length mo_text mo_worked mo_values mo_hits mo_hitAt mo_hitLength mo_written mo_listState mo_listAt mo_listLength mo_stack) sz) := by
  refine xmet_z rfl (Nat.le_of_ble_eq_true rfl) ?_
  intro p e s m below meth c A ls Q hx hb hml hts hown hK hN hA hP hD hS hl hret
  replace hown : s.vm.findClass R_Mo = some m.cls := hown
  have hl : lv_has ls 1 [(0, .int a1)] := hl
  rw [f_Mo_isLetter] at hf
  obtain ⟨H, eH⟩ : ∃ H : Heap, H = s.heap := ⟨_, rfl⟩
  obtain ⟨locs, eL⟩ : ∃ L : List Loc, L = [] := ⟨_, rfl⟩
  have hP : va_P (dC, dI) classes (wY ty ad mo_rows mo_columns mo_marks mo_letters mo_mate mo_made mo_nodes mo_sort mo_from mo_to mo_begin mo_other mo_states mo_kinds mo_nodeOf mo_steps mo_emissions mo_length mo_text mo_worked mo_values mo_hits mo_hitAt mo_hitLength mo_written mo_listState mo_listAt mo_listLength mo_stack) H := by rw [eH]; exact hP
  have hS : va_S A s.heap H locs := by rw [eH, eL]; exact hS
  rw [← eL]
  suffices hgoal : W p l e rm_Mo_isLetter s m (List.toArray [.int a1]) below meth c H locs 0 0 Q (F0 m 0 ls []) by rw [eH] at hgoal; exact hgoal
  clear eH eL
  refine lv_iload_n hx hb d_Mo_isLetter_0 rfl (lv_at hl 0 rfl) ?_
  refine lv_if_lt (tgt := 13) hx hb d_Mo_isLetter_1 (by decide) (fun c1 => ?_) (fun c1 => ?_)
  · have hf := xif_t c1 hf
    refine lv_iconst (v := 0) hx hb d_Mo_isLetter_13 (by decide) ?_
    obtain rfl := os1 hf
    exact hret H locs _ _ _ d_Mo_isLetter_14 rfl rfl hP hS
  · have hf := xif_f c1 hf
    refine lv_iload_n hx hb d_Mo_isLetter_4 rfl (lv_at hl 0 rfl) ?_
    refine lv_iconst (v := 4) hx hb d_Mo_isLetter_5 (by decide) ?_
    refine lv_icmp_ge (tgt := 13) hx hb d_Mo_isLetter_6 (by decide) (fun c2 => ?_) (fun c2 => ?_)
    · have hf := xif_t c2 hf
      refine lv_iconst (v := 0) hx hb d_Mo_isLetter_13 (by decide) ?_
      obtain rfl := os1 hf
      exact hret H locs _ _ _ d_Mo_isLetter_14 rfl rfl hP hS
    · have hf := xif_f c2 hf
      refine lv_iconst (v := 1) hx hb d_Mo_isLetter_9 (by decide) ?_
      refine lv_goto (tgt := 14) hx hb d_Mo_isLetter_10 (by decide) ?_
      obtain rfl := os1 hf
      exact hret H locs _ _ _ d_Mo_isLetter_14 rfl rfl hP hS
def f_Mo_emits_J67 (mo_kinds : (Nat → Int32)) (mo_emissions : (Nat → Int32)) (a1 : Int32) (a2 : Int32) (a3 : Int32)  : Option (Int32) := if (mo_kinds (Int32.toNatClampNeg a1)) = (1 : Int32) then (gd (xin ((((16 : Int32) * a1) + ((4 : Int32) * a2)) + a3) 768) (some ((mo_emissions (Int32.toNatClampNeg ((((16 : Int32) * a1) + ((4 : Int32) * a2)) + a3)))))) else (gd (xin ((((16 : Int32) * a1) + ((4 : Int32) * a2)) + (0 : Int32)) 768) (some ((mo_emissions (Int32.toNatClampNeg ((((16 : Int32) * a1) + ((4 : Int32) * a2)) + (0 : Int32)))))))
def f_Mo_emits (mo_made : Int32) (mo_states : Int32) (mo_kinds : (Nat → Int32)) (mo_emissions : (Nat → Int32)) (a1 : Int32) (a2 : Int32) (a3 : Int32) : Option (Int32) := ob1 (f_Mo_isState mo_made mo_states a1) (fun r1 => if r1 = (0 : Int32) then (some ((-1000000 : Int32))) else (ob1 (f_Mo_isLetter a2) (fun r4 => if r4 = (0 : Int32) then (some ((-1000000 : Int32))) else (gd (xin a1 48) (if (mo_kinds (Int32.toNatClampNeg a1)) = (0 : Int32) then (some ((-1000000 : Int32))) else (if (mo_kinds (Int32.toNatClampNeg a1)) = (4 : Int32) then (some ((-1000000 : Int32))) else (if (mo_kinds (Int32.toNatClampNeg a1)) = (7 : Int32) then (some ((-1000000 : Int32))) else (if (mo_kinds (Int32.toNatClampNeg a1)) = (8 : Int32) then (some ((-1000000 : Int32))) else (if (mo_kinds (Int32.toNatClampNeg a1)) = (1 : Int32) then (ob1 (f_Mo_isLetter a3) (fun r16 => if r16 = (0 : Int32) then (some ((-1000000 : Int32))) else (f_Mo_emits_J67 mo_kinds mo_emissions a1 a2 a3))) else (f_Mo_emits_J67 mo_kinds mo_emissions a1 a2 a3))))))))))
set_option maxHeartbeats 4000000 in
set_option maxRecDepth 100000 in
theorem c_Mo_emits (l : Launch) (dC : Nat → ClassId) (dI : Nat → Nat → Nat) (ty : Nat → ClassId) (ad : Nat → Nat) (ta : Nat → Nat) (sz : Nat) (mo_rows : Int32) (mo_columns : Int32) (mo_marks : (Nat → Int32)) (mo_letters : (Nat → Int32)) (mo_mate : (Nat → Int32)) (mo_made : Int32) (mo_nodes : Int32) (mo_sort : (Nat → Int32)) (mo_from : (Nat → Int32)) (mo_to : (Nat → Int32)) (mo_begin : (Nat → Int32)) (mo_other : (Nat → Int32)) (mo_states : Int32) (mo_kinds : (Nat → Int32)) (mo_nodeOf : (Nat → Int32)) (mo_steps : (Nat → Int32)) (mo_emissions : (Nat → Int32)) (mo_length : Int32) (mo_text : (Nat → Int32)) (mo_worked : Int32) (mo_values : (Nat → Int32)) (mo_hits : Int32) (mo_hitAt : (Nat → Int32)) (mo_hitLength : (Nat → Int32)) (mo_written : Int32) (mo_listState : (Nat → Int32)) (mo_listAt : (Nat → Int32)) (mo_listLength : (Nat → Int32)) (mo_stack : (Nat → Int32)) (a1 : Int32) (a2 : Int32) (a3 : Int32) (r0 : Int32) (hf : f_Mo_emits mo_made mo_states mo_kinds mo_emissions a1 a2 a3 = some (r0)) : Met l y_Mo_emits (.code y_Mo_emits prog_10_method_27_code 5 (some .int) :: gw) rm_Mo_emits (xPre ta (dC, dI) classes (tys3 ty) (wY ty ad mo_rows mo_columns mo_marks mo_letters mo_mate mo_made mo_nodes mo_sort mo_from mo_to mo_begin mo_other mo_states mo_kinds mo_nodeOf mo_steps mo_emissions mo_length mo_text mo_worked mo_values mo_hits mo_hitAt mo_hitLength mo_written mo_listState mo_listAt mo_listLength mo_stack) sz [.ref (ad 0), .int a1, .int a2, .int a3]) (xQi (dC, dI) classes (wY ty ad mo_rows mo_columns mo_marks mo_letters mo_mate mo_made mo_nodes mo_sort mo_from mo_to mo_begin mo_other mo_states mo_kinds mo_nodeOf mo_steps mo_emissions mo_length mo_text mo_worked mo_values mo_hits mo_hitAt mo_hitLength mo_written mo_listState mo_listAt mo_listLength mo_stack) (wY ty ad mo_rows mo_columns mo_marks mo_letters mo_mate mo_made mo_nodes mo_sort mo_from mo_to mo_begin mo_other mo_states mo_kinds mo_nodeOf mo_steps mo_emissions mo_length mo_text mo_worked mo_values mo_hits mo_hitAt mo_hitLength mo_written mo_listState mo_listAt mo_listLength mo_stack) sz r0) 0 0 (va_A (wY ty ad mo_rows mo_columns mo_marks mo_letters mo_mate mo_made mo_nodes mo_sort mo_from mo_to mo_begin mo_other mo_states mo_kinds mo_nodeOf mo_steps mo_emissions mo_length mo_text mo_worked mo_values mo_hits mo_hitAt mo_hitLength mo_written mo_listState mo_listAt mo_listLength mo_stack) sz) := by
  refine xmet_i rfl (Nat.le_of_ble_eq_true rfl) ?_
  intro p e s m below meth c A ls Q hx hb hml hts hown hK hN hA hP hD hS hl hret
  replace hown : s.vm.findClass R_Mo = some m.cls := hown
  have hl : lv_has ls 5 [(0, .ref (ad 0)), (1, .int a1), (2, .int a2), (3, .int a3)] := hl
  rw [f_Mo_emits] at hf
  obtain ⟨H, eH⟩ : ∃ H : Heap, H = s.heap := ⟨_, rfl⟩
  obtain ⟨locs, eL⟩ : ∃ L : List Loc, L = [] := ⟨_, rfl⟩
  have hP : va_P (dC, dI) classes (wY ty ad mo_rows mo_columns mo_marks mo_letters mo_mate mo_made mo_nodes mo_sort mo_from mo_to mo_begin mo_other mo_states mo_kinds mo_nodeOf mo_steps mo_emissions mo_length mo_text mo_worked mo_values mo_hits mo_hitAt mo_hitLength mo_written mo_listState mo_listAt mo_listLength mo_stack) H := by rw [eH]; exact hP
  have hS : va_S A s.heap H locs := by rw [eH, eL]; exact hS
  rw [← eL]
  suffices hgoal : W p l e rm_Mo_emits s m (List.toArray [.ref (ad 0), .int a1, .int a2, .int a3]) below meth c H locs 0 0 Q (F0 m 0 ls []) by rw [eH] at hgoal; exact hgoal
  clear eH eL
  refine lv_aload_n hx hb d_Mo_emits_0 rfl (lv_at hl 0 rfl) ?_
  refine lv_iload_n hx hb d_Mo_emits_1 rfl (lv_at hl 1 rfl) ?_
  obtain ⟨r1, hc2, hf⟩ := ob1_inv hf
  refine xk_i (xrunV (C := R_Mo) (As := [.int a1]) (rest := []) ⟨hx, hb, hml, hown, hts⟩ (c_Mo_isState l dC dI ty ad ta H.size mo_rows mo_columns mo_marks mo_letters mo_mate mo_made mo_nodes mo_sort mo_from mo_to mo_begin mo_other mo_states mo_kinds mo_nodeOf mo_steps mo_emissions mo_length mo_text mo_worked mo_values mo_hits mo_hitAt mo_hitLength mo_written mo_listState mo_listAt mo_listLength mo_stack a1 r1 hc2) z_Mo_153 ⟨⟨rfl, rfl⟩, by decide, by decide⟩ hK hP hD hN hS hA (va_recv hK hP (ci := 8) (q0 := 0) rfl rfl) rfl hl.1 rfl (Nat.le_of_ble_eq_true rfl) d_Mo_emits_2 ⟨Nat.zero_le _, Nat.zero_le _⟩) hS hD rfl hA (fun H locs hP hD hS => ?_)
  refine W.eq (g2 := F0 m 5 ls [.int r1]) rfl ?_
  refine lv_if_eq (tgt := 15) hx hb d_Mo_emits_5 (by decide) (fun c3 => ?_) (fun c3 => ?_)
  · have hf := xif_t c3 hf
    refine lv_ldc (v := -1000000) hx hb hown (hts _ m_825) d_Mo_emits_15 ?_
    obtain rfl := os1 hf
    exact hret H locs _ _ _ d_Mo_emits_17 rfl hP hS
  · have hf := xif_f c3 hf
    refine lv_iload_n hx hb d_Mo_emits_8 rfl (lv_at hl 2 rfl) ?_
    obtain ⟨r4, hc5, hf⟩ := ob1_inv hf
    refine xk_i (xrunS (As := [.int a2]) (rest := []) ⟨hx, hb, hml, hown, hts⟩ (c_Mo_isLetter l dC dI ty ad ta H.size mo_rows mo_columns mo_marks mo_letters mo_mate mo_made mo_nodes mo_sort mo_from mo_to mo_begin mo_other mo_states mo_kinds mo_nodeOf mo_steps mo_emissions mo_length mo_text mo_worked mo_values mo_hits mo_hitAt mo_hitLength mo_written mo_listState mo_listAt mo_listLength mo_stack a2 r4 hc5) z_Mo_156 ⟨⟨rfl, rfl⟩, by decide, by decide⟩ hK hP hD hN hS hA rfl hl.1 rfl (Nat.le_of_ble_eq_true rfl) d_Mo_emits_9 ⟨Nat.zero_le _, Nat.zero_le _⟩) hS hD rfl hA (fun H locs hP hD hS => ?_)
    refine W.eq (g2 := F0 m 12 ls [.int r4]) rfl ?_
    refine lv_if_ne (tgt := 18) hx hb d_Mo_emits_12 (by decide) (fun c6 => ?_) (fun c6 => ?_)
    · have hf := xif_f c6 hf
      refine lv_aload_n hx hb d_Mo_emits_18 rfl (lv_at hl 0 rfl) ?_
      refine va_get (D := (dC, dI)) (ci := 8) (v := .ref (ad 9)) (C := R_Mo) (T := F_Mo) (N := 29) hx hb hts iw_Mo hown hK hP 0 rfl rfl 13 (by decide) (hts _ m_730) (fun _ h9 => h9) rfl d_Mo_emits_19 ?_
      refine lv_iload_n hx hb d_Mo_emits_22 rfl (lv_at hl 1 rfl) ?_
      obtain ⟨hi7, hf⟩ := gdi hf
      refine va_iald hx hb hK hP 9 0 rfl rfl hi7 d_Mo_emits_23 ?_
      refine lv_istore (lv' := [(4, .int (mo_kinds (Int32.toNatClampNeg a1))), (0, .ref (ad 0)), (1, .int a1), (2, .int a2), (3, .int a3)]) hx hb d_Mo_emits_24 hl (by decide) rfl (fun ls hl => ?_)
      refine lv_iload hx hb d_Mo_emits_26 (lv_at hl 0 rfl) ?_
      refine lv_if_eq (tgt := 64) hx hb d_Mo_emits_28 (by decide) (fun c8 => ?_) (fun c8 => ?_)
      · have hf := xif_t c8 hf
        refine lv_ldc (v := -1000000) hx hb hown (hts _ m_825) d_Mo_emits_64 ?_
        obtain rfl := os1 hf
        exact hret H locs _ _ _ d_Mo_emits_66 rfl hP hS
      · have hf := xif_f c8 hf
        refine lv_iload hx hb d_Mo_emits_31 (lv_at hl 0 rfl) ?_
        refine lv_iconst (v := 4) hx hb d_Mo_emits_33 (by decide) ?_
        refine lv_icmp_eq (tgt := 64) hx hb d_Mo_emits_34 (by decide) (fun c9 => ?_) (fun c9 => ?_)
        · have hf := xif_t c9 hf
          refine lv_ldc (v := -1000000) hx hb hown (hts _ m_825) d_Mo_emits_64 ?_
          obtain rfl := os1 hf
          exact hret H locs _ _ _ d_Mo_emits_66 rfl hP hS
        · have hf := xif_f c9 hf
          refine lv_iload hx hb d_Mo_emits_37 (lv_at hl 0 rfl) ?_
          refine lv_bipush (v := 7) hx hb d_Mo_emits_39 (by decide) ?_
          refine lv_icmp_eq (tgt := 64) hx hb d_Mo_emits_41 (by decide) (fun c10 => ?_) (fun c10 => ?_)
          · have hf := xif_t c10 hf
            refine lv_ldc (v := -1000000) hx hb hown (hts _ m_825) d_Mo_emits_64 ?_
            obtain rfl := os1 hf
            exact hret H locs _ _ _ d_Mo_emits_66 rfl hP hS
          · have hf := xif_f c10 hf
            refine lv_iload hx hb d_Mo_emits_44 (lv_at hl 0 rfl) ?_
            refine lv_bipush (v := 8) hx hb d_Mo_emits_46 (by decide) ?_
            refine lv_icmp_eq (tgt := 64) hx hb d_Mo_emits_48 (by decide) (fun c11 => ?_) (fun c11 => ?_)
            · have hf := xif_t c11 hf
              refine lv_ldc (v := -1000000) hx hb hown (hts _ m_825) d_Mo_emits_64 ?_
              obtain rfl := os1 hf
              exact hret H locs _ _ _ d_Mo_emits_66 rfl hP hS
            · have hf := xif_f c11 hf
              refine lv_iload hx hb d_Mo_emits_51 (lv_at hl 0 rfl) ?_
              refine lv_iconst (v := 1) hx hb d_Mo_emits_53 (by decide) ?_
              have J67 : ∀  (H : Heap) (locs : List Loc) (ls : Array Slot), va_P (dC, dI) classes (wY ty ad mo_rows mo_columns mo_marks mo_letters mo_mate mo_made mo_nodes mo_sort mo_from mo_to mo_begin mo_other mo_states mo_kinds mo_nodeOf mo_steps mo_emissions mo_length mo_text mo_worked mo_values mo_hits mo_hitAt mo_hitLength mo_written mo_listState mo_listAt mo_listLength mo_stack) H → va_D A (wY ty ad mo_rows mo_columns mo_marks mo_letters mo_mate mo_made mo_nodes mo_sort mo_from mo_to mo_begin mo_other mo_states mo_kinds mo_nodeOf mo_steps mo_emissions mo_length mo_text mo_worked mo_values mo_hits mo_hitAt mo_hitLength mo_written mo_listState mo_listAt mo_listLength mo_stack) → va_S A s.heap H locs → lv_has ls 5 [(0, .ref (ad 0)), (1, .int a1), (2, .int a2), (3, .int a3), (4, .int (mo_kinds (Int32.toNatClampNeg a1)))] → f_Mo_emits_J67 mo_kinds mo_emissions a1 a2 a3 = some (r0) → W p l e rm_Mo_emits s m (List.toArray [.ref (ad 0), .int a1, .int a2, .int a3]) below meth c H locs 0 0 Q (F0 m 67 ls []) := by
                intro  H locs ls hP hD hS hl hf
                rw [f_Mo_emits_J67] at hf
                refine lv_aload_n hx hb d_Mo_emits_67 rfl (lv_at hl 0 rfl) ?_
                refine va_get (D := (dC, dI)) (ci := 8) (v := .ref (ad 12)) (C := R_Mo) (T := F_Mo) (N := 29) hx hb hts iw_Mo hown hK hP 0 rfl rfl 16 (by decide) (hts _ m_733) (fun _ h9 => h9) rfl d_Mo_emits_68 ?_
                refine lv_bipush (v := 16) hx hb d_Mo_emits_71 (by decide) ?_
                refine lv_iload_n hx hb d_Mo_emits_73 rfl (lv_at hl 1 rfl) ?_
                refine lv_imul hx hb d_Mo_emits_74 ?_
                refine lv_iconst (v := 4) hx hb d_Mo_emits_75 (by decide) ?_
                refine lv_iload_n hx hb d_Mo_emits_76 rfl (lv_at hl 2 rfl) ?_
                refine lv_imul hx hb d_Mo_emits_77 ?_
                refine lv_iadd hx hb d_Mo_emits_78 ?_
                refine lv_iload hx hb d_Mo_emits_79 (lv_at hl 4 rfl) ?_
                refine lv_iconst (v := 1) hx hb d_Mo_emits_81 (by decide) ?_
                refine lv_icmp_ne (tgt := 89) hx hb d_Mo_emits_82 (by decide) (fun c12 => ?_) (fun c12 => ?_)
                · have hf := xif_f c12 hf
                  refine lv_iconst (v := 0) hx hb d_Mo_emits_89 (by decide) ?_
                  refine lv_iadd hx hb d_Mo_emits_90 ?_
                  obtain ⟨hi13, hf⟩ := gdi hf
                  refine va_iald hx hb hK hP 12 0 rfl rfl hi13 d_Mo_emits_91 ?_
                  obtain rfl := os1 hf
                  exact hret H locs _ _ _ d_Mo_emits_92 rfl hP hS
                · have hf := xif_t c12 hf
                  refine lv_iload_n hx hb d_Mo_emits_85 rfl (lv_at hl 3 rfl) ?_
                  refine lv_goto (tgt := 90) hx hb d_Mo_emits_86 (by decide) ?_
                  refine lv_iadd hx hb d_Mo_emits_90 ?_
                  obtain ⟨hi14, hf⟩ := gdi hf
                  refine va_iald hx hb hK hP 12 0 rfl rfl hi14 d_Mo_emits_91 ?_
                  obtain rfl := os1 hf
                  exact hret H locs _ _ _ d_Mo_emits_92 rfl hP hS
              refine lv_icmp_ne (tgt := 67) hx hb d_Mo_emits_54 (by decide) (fun c15 => ?_) (fun c15 => ?_)
              · have hf := xif_f c15 hf
                exact J67  _ _ _ hP hD hS (lv_sub hl [1, 2, 3, 4, 0] rfl) hf
              · have hf := xif_t c15 hf
                refine lv_iload_n hx hb d_Mo_emits_57 rfl (lv_at hl 4 rfl) ?_
                obtain ⟨r16, hc17, hf⟩ := ob1_inv hf
                refine xk_i (xrunS (As := [.int a3]) (rest := []) ⟨hx, hb, hml, hown, hts⟩ (c_Mo_isLetter l dC dI ty ad ta H.size mo_rows mo_columns mo_marks mo_letters mo_mate mo_made mo_nodes mo_sort mo_from mo_to mo_begin mo_other mo_states mo_kinds mo_nodeOf mo_steps mo_emissions mo_length mo_text mo_worked mo_values mo_hits mo_hitAt mo_hitLength mo_written mo_listState mo_listAt mo_listLength mo_stack a3 r16 hc17) z_Mo_156 ⟨⟨rfl, rfl⟩, by decide, by decide⟩ hK hP hD hN hS hA rfl hl.1 rfl (Nat.le_of_ble_eq_true rfl) d_Mo_emits_58 ⟨Nat.zero_le _, Nat.zero_le _⟩) hS hD rfl hA (fun H locs hP hD hS => ?_)
                refine W.eq (g2 := F0 m 61 ls [.int r16]) rfl ?_
                refine lv_if_ne (tgt := 67) hx hb d_Mo_emits_61 (by decide) (fun c18 => ?_) (fun c18 => ?_)
                · have hf := xif_f c18 hf
                  exact J67  _ _ _ hP hD hS (lv_sub hl [1, 2, 3, 4, 0] rfl) hf
                · have hf := xif_t c18 hf
                  refine lv_ldc (v := -1000000) hx hb hown (hts _ m_825) d_Mo_emits_64 ?_
                  obtain rfl := os1 hf
                  exact hret H locs _ _ _ d_Mo_emits_66 rfl hP hS
    · have hf := xif_t c6 hf
      refine lv_ldc (v := -1000000) hx hb hown (hts _ m_825) d_Mo_emits_15 ?_
      obtain rfl := os1 hf
      exact hret H locs _ _ _ d_Mo_emits_17 rfl hP hS
