/-! pure functions and contracts of Mo_derived (written by wip/gen) -/
def f_Mo_derived (mo_begin : (Nat → Int32)) (mo_other : (Nat → Int32)) (mo_kinds : (Nat → Int32)) (mo_nodeOf : (Nat → Int32)) (mo_steps : (Nat → Int32)) (mo_emissions : (Nat → Int32)) (mo_text : (Nat → Int32)) (mo_values : (Nat → Int32)) (mo_hits : Int32) (mo_hitAt : (Nat → Int32)) (mo_hitLength : (Nat → Int32)) (mo_written : Int32) (mo_listState : (Nat → Int32)) (mo_listAt : (Nat → Int32)) (mo_listLength : (Nat → Int32)) (mo_stack : (Nat → Int32)) (a1 : Int32) (a2 : Int32) (a3 : Int32) : Option (Int32 × Int32 × (Nat → Int32) × (Nat → Int32) × (Nat → Int32) × (Nat → Int32)) := if a1 < (0 : Int32) then (some ((-1000000 : Int32), mo_written, mo_listState, mo_listAt, mo_listLength, mo_stack)) else (if mo_hits ≤ a1 then (some ((-1000000 : Int32), mo_written, mo_listState, mo_listAt, mo_listLength, mo_stack)) else (if a3 < (0 : Int32) then (some ((-1000000 : Int32), mo_written, mo_listState, mo_listAt, mo_listLength, mo_stack)) else (if a3 ≤ (2 : Int32) then (ob5 (f_Mo_write mo_begin mo_other mo_kinds mo_nodeOf mo_steps mo_emissions mo_text mo_values mo_hitAt mo_hitLength mo_written mo_listState mo_listAt mo_listLength mo_stack a1) (fun w5 w6 w7 w8 w9 => if a2 < (0 : Int32) then (some ((-1000000 : Int32), w5, w6, w7, w8, w9)) else (if a2 < w5 then (if a3 = (0 : Int32) then (gd (xin a2 200) (some ((w6 (Int32.toNatClampNeg a2)), w5, w6, w7, w8, w9))) else (if a3 = (1 : Int32) then (gd (xin a2 200) (some ((w7 (Int32.toNatClampNeg a2)), w5, w6, w7, w8, w9))) else (gd (xin a2 200) (some ((w8 (Int32.toNatClampNeg a2)), w5, w6, w7, w8, w9))))) else (some ((-1000000 : Int32), w5, w6, w7, w8, w9))))) else (some ((-1000000 : Int32), mo_written, mo_listState, mo_listAt, mo_listLength, mo_stack)))))
set_option maxHeartbeats 4000000 in
set_option maxRecDepth 100000 in
theorem c_Mo_derived (l : Launch) (dC : Nat → ClassId) (dI : Nat → Nat → Nat) (ty : Nat → ClassId) (ad : Nat → Nat) (ta : Nat → Nat) (sz : Nat) (mo_rows : Int32) (mo_columns : Int32) (mo_marks : (Nat → Int32)) (mo_letters : (Nat → Int32)) (mo_mate : (Nat → Int32)) (mo_made : Int32) (mo_nodes : Int32) (mo_sort : (Nat → Int32)) (mo_from : (Nat → Int32)) (mo_to : (Nat → Int32)) (mo_begin : (Nat → Int32)) (mo_other : (Nat → Int32)) (mo_states : Int32) (mo_kinds : (Nat → Int32)) (mo_nodeOf : (Nat → Int32)) (mo_steps : (Nat → Int32)) (mo_emissions : (Nat → Int32)) (mo_length : Int32) (mo_text : (Nat → Int32)) (mo_worked : Int32) (mo_values : (Nat → Int32)) (mo_hits : Int32) (mo_hitAt : (Nat → Int32)) (mo_hitLength : (Nat → Int32)) (mo_written : Int32) (mo_listState : (Nat → Int32)) (mo_listAt : (Nat → Int32)) (mo_listLength : (Nat → Int32)) (mo_stack : (Nat → Int32)) (a1 : Int32) (a2 : Int32) (a3 : Int32) (r0 : Int32) (n_mo_written : Int32) (n_mo_listState : (Nat → Int32)) (n_mo_listAt : (Nat → Int32)) (n_mo_listLength : (Nat → Int32)) (n_mo_stack : (Nat → Int32)) (hf : f_Mo_derived mo_begin mo_other mo_kinds mo_nodeOf mo_steps mo_emissions mo_text mo_values mo_hits mo_hitAt mo_hitLength mo_written mo_listState mo_listAt mo_listLength mo_stack a1 a2 a3 = some (r0, n_mo_written, n_mo_listState, n_mo_listAt, n_mo_listLength, n_mo_stack)) : Met l y_Mo_derived (.code y_Mo_derived prog_10_method_43_code 4 (some .int) :: gw) rm_Mo_derived (xPre ta (dC, dI) classes (tys3 ty) (wY ty ad mo_rows mo_columns mo_marks mo_letters mo_mate mo_made mo_nodes mo_sort mo_from mo_to mo_begin mo_other mo_states mo_kinds mo_nodeOf mo_steps mo_emissions mo_length mo_text mo_worked mo_values mo_hits mo_hitAt mo_hitLength mo_written mo_listState mo_listAt mo_listLength mo_stack) sz [.ref (ad 0), .int a1, .int a2, .int a3]) (xQi (dC, dI) classes (wY ty ad mo_rows mo_columns mo_marks mo_letters mo_mate mo_made mo_nodes mo_sort mo_from mo_to mo_begin mo_other mo_states mo_kinds mo_nodeOf mo_steps mo_emissions mo_length mo_text mo_worked mo_values mo_hits mo_hitAt mo_hitLength mo_written mo_listState mo_listAt mo_listLength mo_stack) (wY ty ad mo_rows mo_columns mo_marks mo_letters mo_mate mo_made mo_nodes mo_sort mo_from mo_to mo_begin mo_other mo_states mo_kinds mo_nodeOf mo_steps mo_emissions mo_length mo_text mo_worked mo_values mo_hits mo_hitAt mo_hitLength n_mo_written n_mo_listState n_mo_listAt n_mo_listLength n_mo_stack) sz r0) 0 0 (va_A (wY ty ad mo_rows mo_columns mo_marks mo_letters mo_mate mo_made mo_nodes mo_sort mo_from mo_to mo_begin mo_other mo_states mo_kinds mo_nodeOf mo_steps mo_emissions mo_length mo_text mo_worked mo_values mo_hits mo_hitAt mo_hitLength mo_written mo_listState mo_listAt mo_listLength mo_stack) sz) := by
  refine xmet_i rfl (Nat.le_of_ble_eq_true rfl) ?_
  intro p e s m below meth c A ls Q hx hb hml hts hown hK hN hA hP hD hS hl hret
  replace hown : s.vm.findClass R_Mo = some m.cls := hown
  have hl : lv_has ls 4 [(0, .ref (ad 0)), (1, .int a1), (2, .int a2), (3, .int a3)] := hl
  rw [f_Mo_derived] at hf
  obtain ⟨H, eH⟩ : ∃ H : Heap, H = s.heap := ⟨_, rfl⟩
  obtain ⟨locs, eL⟩ : ∃ L : List Loc, L = [] := ⟨_, rfl⟩
  have hP : va_P (dC, dI) classes (wY ty ad mo_rows mo_columns mo_marks mo_letters mo_mate mo_made mo_nodes mo_sort mo_from mo_to mo_begin mo_other mo_states mo_kinds mo_nodeOf mo_steps mo_emissions mo_length mo_text mo_worked mo_values mo_hits mo_hitAt mo_hitLength mo_written mo_listState mo_listAt mo_listLength mo_stack) H := by rw [eH]; exact hP
  have hS : va_S A s.heap H locs := by rw [eH, eL]; exact hS
  rw [← eL]
  suffices hgoal : W p l e rm_Mo_derived s m (List.toArray [.ref (ad 0), .int a1, .int a2, .int a3]) below meth c H locs 0 0 Q (F0 m 0 ls []) by rw [eH] at hgoal; exact hgoal
  clear eH eL
  refine lv_iload_n hx hb d_Mo_derived_0 rfl (lv_at hl 1 rfl) ?_
  refine lv_if_lt (tgt := 21) hx hb d_Mo_derived_1 (by decide) (fun c1 => ?_) (fun c1 => ?_)
  · have hf := xif_t c1 hf
    refine lv_ldc (v := -1000000) hx hb hown (hts _ m_825) d_Mo_derived_21 ?_
    obtain ⟨rfl, rfl, rfl, rfl, rfl, rfl⟩ := os6 hf
    exact hret H locs _ _ _ d_Mo_derived_23 rfl hP hS
  · have hf := xif_f c1 hf
    refine lv_iload_n hx hb d_Mo_derived_4 rfl (lv_at hl 1 rfl) ?_
    refine lv_aload_n hx hb d_Mo_derived_5 rfl (lv_at hl 0 rfl) ?_
    refine va_get (D := (dC, dI)) (ci := 8) (v := .int mo_hits) (C := R_Mo) (T := F_Mo) (N := 29) hx hb hts iw_Mo hown hK hP 0 rfl rfl 21 (by decide) (hts _ m_738) (fun _ h9 => h9) rfl d_Mo_derived_6 ?_
    refine lv_icmp_ge (tgt := 21) hx hb d_Mo_derived_9 (by decide) (fun c2 => ?_) (fun c2 => ?_)
    · have hf := xif_t c2 hf
      refine lv_ldc (v := -1000000) hx hb hown (hts _ m_825) d_Mo_derived_21 ?_
      obtain ⟨rfl, rfl, rfl, rfl, rfl, rfl⟩ := os6 hf
      exact hret H locs _ _ _ d_Mo_derived_23 rfl hP hS
    · have hf := xif_f c2 hf
      refine lv_iload_n hx hb d_Mo_derived_12 rfl (lv_at hl 3 rfl) ?_
      refine lv_if_lt (tgt := 21) hx hb d_Mo_derived_13 (by decide) (fun c3 => ?_) (fun c3 => ?_)
      · have hf := xif_t c3 hf
        refine lv_ldc (v := -1000000) hx hb hown (hts _ m_825) d_Mo_derived_21 ?_
        obtain ⟨rfl, rfl, rfl, rfl, rfl, rfl⟩ := os6 hf
        exact hret H locs _ _ _ d_Mo_derived_23 rfl hP hS
      · have hf := xif_f c3 hf
        refine lv_iload_n hx hb d_Mo_derived_16 rfl (lv_at hl 3 rfl) ?_
        refine lv_iconst (v := 2) hx hb d_Mo_derived_17 (by decide) ?_
        refine lv_icmp_le (tgt := 24) hx hb d_Mo_derived_18 (by decide) (fun c4 => ?_) (fun c4 => ?_)
        · have hf := xif_t c4 hf
          refine lv_aload_n hx hb d_Mo_derived_24 rfl (lv_at hl 0 rfl) ?_
          refine lv_iload_n hx hb d_Mo_derived_25 rfl (lv_at hl 1 rfl) ?_
          obtain ⟨w5, w6, w7, w8, w9, hc10, hf⟩ := ob5_inv hf
          refine xk_v (xrunV (C := R_Mo) (As := [.int a1]) (rest := []) ⟨hx, hb, hml, hown, hts⟩ (c_Mo_write l dC dI ty ad ta H.size mo_rows mo_columns mo_marks mo_letters mo_mate mo_made mo_nodes mo_sort mo_from mo_to mo_begin mo_other mo_states mo_kinds mo_nodeOf mo_steps mo_emissions mo_length mo_text mo_worked mo_values mo_hits mo_hitAt mo_hitLength mo_written mo_listState mo_listAt mo_listLength mo_stack a1 w5 w6 w7 w8 w9 hc10) z_Mo_193 ⟨⟨rfl, rfl⟩, by decide, by decide⟩ hK hP hD hN hS hA (va_recv hK hP (ci := 8) (q0 := 0) rfl rfl) rfl hl.1 rfl (Nat.le_of_ble_eq_true rfl) d_Mo_derived_26 ⟨Nat.zero_le _, Nat.zero_le _⟩) hS hD rfl hA (fun H locs hP hD hS => ?_)
          refine W.eq (g2 := F0 m 29 ls []) rfl ?_
          refine lv_iload_n hx hb d_Mo_derived_29 rfl (lv_at hl 2 rfl) ?_
          refine lv_if_lt (tgt := 41) hx hb d_Mo_derived_30 (by decide) (fun c11 => ?_) (fun c11 => ?_)
          · have hf := xif_t c11 hf
            refine lv_ldc (v := -1000000) hx hb hown (hts _ m_825) d_Mo_derived_41 ?_
            obtain ⟨rfl, rfl, rfl, rfl, rfl, rfl⟩ := os6 hf
            exact hret H locs _ _ _ d_Mo_derived_43 rfl hP hS
          · have hf := xif_f c11 hf
            refine lv_iload_n hx hb d_Mo_derived_33 rfl (lv_at hl 2 rfl) ?_
            refine lv_aload_n hx hb d_Mo_derived_34 rfl (lv_at hl 0 rfl) ?_
            refine va_get (D := (dC, dI)) (ci := 8) (v := .int w5) (C := R_Mo) (T := F_Mo) (N := 29) hx hb hts iw_Mo hown hK hP 0 rfl rfl 24 (by decide) (hts _ m_741) (fun _ h9 => h9) rfl d_Mo_derived_35 ?_
            refine lv_icmp_lt (tgt := 44) hx hb d_Mo_derived_38 (by decide) (fun c12 => ?_) (fun c12 => ?_)
            · have hf := xif_t c12 hf
              refine lv_iload_n hx hb d_Mo_derived_44 rfl (lv_at hl 3 rfl) ?_
              refine lv_if_ne (tgt := 57) hx hb d_Mo_derived_45 (by decide) (fun c13 => ?_) (fun c13 => ?_)
              · have hf := xif_f c13 hf
                refine lv_iload_n hx hb d_Mo_derived_57 rfl (lv_at hl 3 rfl) ?_
                refine lv_iconst (v := 1) hx hb d_Mo_derived_58 (by decide) ?_
                refine lv_icmp_ne (tgt := 71) hx hb d_Mo_derived_59 (by decide) (fun c14 => ?_) (fun c14 => ?_)
                · have hf := xif_f c14 hf
                  refine lv_aload_n hx hb d_Mo_derived_71 rfl (lv_at hl 0 rfl) ?_
                  refine va_get (D := (dC, dI)) (ci := 8) (v := .ref (ad 19)) (C := R_Mo) (T := F_Mo) (N := 29) hx hb hts iw_Mo hown hK hP 0 rfl rfl 27 (by decide) (hts _ m_744) (fun _ h9 => h9) rfl d_Mo_derived_72 ?_
                  refine lv_iload_n hx hb d_Mo_derived_75 rfl (lv_at hl 2 rfl) ?_
                  obtain ⟨hi15, hf⟩ := gdi hf
                  refine va_iald hx hb hK hP 19 0 rfl rfl hi15 d_Mo_derived_76 ?_
                  obtain ⟨rfl, rfl, rfl, rfl, rfl, rfl⟩ := os6 hf
                  exact hret H locs _ _ _ d_Mo_derived_77 rfl hP hS
                · have hf := xif_t c14 hf
                  refine lv_aload_n hx hb d_Mo_derived_62 rfl (lv_at hl 0 rfl) ?_
                  refine va_get (D := (dC, dI)) (ci := 8) (v := .ref (ad 18)) (C := R_Mo) (T := F_Mo) (N := 29) hx hb hts iw_Mo hown hK hP 0 rfl rfl 26 (by decide) (hts _ m_743) (fun _ h9 => h9) rfl d_Mo_derived_63 ?_
                  refine lv_iload_n hx hb d_Mo_derived_66 rfl (lv_at hl 2 rfl) ?_
                  obtain ⟨hi16, hf⟩ := gdi hf
                  refine va_iald hx hb hK hP 18 0 rfl rfl hi16 d_Mo_derived_67 ?_
                  refine lv_goto (tgt := 77) hx hb d_Mo_derived_68 (by decide) ?_
                  obtain ⟨rfl, rfl, rfl, rfl, rfl, rfl⟩ := os6 hf
                  exact hret H locs _ _ _ d_Mo_derived_77 rfl hP hS
              · have hf := xif_t c13 hf
                refine lv_aload_n hx hb d_Mo_derived_48 rfl (lv_at hl 0 rfl) ?_
                refine va_get (D := (dC, dI)) (ci := 8) (v := .ref (ad 17)) (C := R_Mo) (T := F_Mo) (N := 29) hx hb hts iw_Mo hown hK hP 0 rfl rfl 25 (by decide) (hts _ m_742) (fun _ h9 => h9) rfl d_Mo_derived_49 ?_
                refine lv_iload_n hx hb d_Mo_derived_52 rfl (lv_at hl 2 rfl) ?_
                obtain ⟨hi17, hf⟩ := gdi hf
                refine va_iald hx hb hK hP 17 0 rfl rfl hi17 d_Mo_derived_53 ?_
                refine lv_goto (tgt := 77) hx hb d_Mo_derived_54 (by decide) ?_
                obtain ⟨rfl, rfl, rfl, rfl, rfl, rfl⟩ := os6 hf
                exact hret H locs _ _ _ d_Mo_derived_77 rfl hP hS
            · have hf := xif_f c12 hf
              refine lv_ldc (v := -1000000) hx hb hown (hts _ m_825) d_Mo_derived_41 ?_
              obtain ⟨rfl, rfl, rfl, rfl, rfl, rfl⟩ := os6 hf
              exact hret H locs _ _ _ d_Mo_derived_43 rfl hP hS
        · have hf := xif_f c4 hf
          refine lv_ldc (v := -1000000) hx hb hown (hts _ m_825) d_Mo_derived_21 ?_
          obtain ⟨rfl, rfl, rfl, rfl, rfl, rfl⟩ := os6 hf
          exact hret H locs _ _ _ d_Mo_derived_23 rfl hP hS
