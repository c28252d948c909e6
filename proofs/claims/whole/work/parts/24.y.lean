/-! pure functions and contracts of Mo_settle, Mo_inserts (written by wip/gen) -/
def f_Mo_settle_J175 (mo_sort : (Nat → Int32)) (x1_7 : Int32) (mo_begin_7 : (Nat → Int32)) (mo_states_7 : Int32) (rec7 : (Int32 → (Nat → Int32) → Int32 → (Nat → Int32) → (Nat → Int32) → Option ((Nat → Int32) × Int32 × (Nat → Int32) × (Nat → Int32)))) (mo_states_164 : Int32) (mo_kinds_164 : (Nat → Int32)) (mo_nodeOf_164 : (Nat → Int32))  : Option ((Nat → Int32) × Int32 × (Nat → Int32) × (Nat → Int32)) := if (mo_sort (Int32.toNatClampNeg x1_7)) = (4 : Int32) then (ob3 (f_Mo_state mo_states_164 mo_kinds_164 mo_nodeOf_164 x1_7 (7 : Int32)) (fun w9 w10 w11 => rec7 (x1_7 + (1 : Int32)) (upd mo_begin_7 (Int32.toNatClampNeg x1_7) mo_states_7) w9 w10 w11)) else (ob3 (f_Mo_state mo_states_164 mo_kinds_164 mo_nodeOf_164 x1_7 (8 : Int32)) (fun w5 w6 w7 => rec7 (x1_7 + (1 : Int32)) (upd mo_begin_7 (Int32.toNatClampNeg x1_7) mo_states_7) w5 w6 w7))
def f_Mo_settle_J164 (mo_sort : (Nat → Int32)) (x1_7 : Int32) (mo_begin_7 : (Nat → Int32)) (mo_states_7 : Int32) (rec7 : (Int32 → (Nat → Int32) → Int32 → (Nat → Int32) → (Nat → Int32) → Option ((Nat → Int32) × Int32 × (Nat → Int32) × (Nat → Int32)))) (mo_states_164 : Int32) (mo_kinds_164 : (Nat → Int32)) (mo_nodeOf_164 : (Nat → Int32)) : Option ((Nat → Int32) × Int32 × (Nat → Int32) × (Nat → Int32)) := if (mo_sort (Int32.toNatClampNeg x1_7)) = (4 : Int32) then (f_Mo_settle_J175 mo_sort x1_7 mo_begin_7 mo_states_7 rec7 mo_states_164 mo_kinds_164 mo_nodeOf_164) else (if (mo_sort (Int32.toNatClampNeg x1_7)) = (7 : Int32) then (f_Mo_settle_J175 mo_sort x1_7 mo_begin_7 mo_states_7 rec7 mo_states_164 mo_kinds_164 mo_nodeOf_164) else (rec7 (x1_7 + (1 : Int32)) (upd mo_begin_7 (Int32.toNatClampNeg x1_7) mo_states_7) mo_states_164 mo_kinds_164 mo_nodeOf_164))
def f_Mo_settle_J157 (mo_sort : (Nat → Int32)) (x1_7 : Int32) (mo_begin_7 : (Nat → Int32)) (mo_states_7 : Int32) (rec7 : (Int32 → (Nat → Int32) → Int32 → (Nat → Int32) → (Nat → Int32) → Option ((Nat → Int32) × Int32 × (Nat → Int32) × (Nat → Int32)))) (mo_states_143 : Int32) (mo_kinds_143 : (Nat → Int32)) (mo_nodeOf_143 : (Nat → Int32))  : Option ((Nat → Int32) × Int32 × (Nat → Int32) × (Nat → Int32)) := ob3 (f_Mo_state mo_states_143 mo_kinds_143 mo_nodeOf_143 x1_7 (6 : Int32)) (fun w15 w16 w17 => f_Mo_settle_J164 mo_sort x1_7 mo_begin_7 mo_states_7 rec7 w15 w16 w17)
def f_Mo_settle_J143 (mo_sort : (Nat → Int32)) (x1_7 : Int32) (mo_begin_7 : (Nat → Int32)) (mo_states_7 : Int32) (rec7 : (Int32 → (Nat → Int32) → Int32 → (Nat → Int32) → (Nat → Int32) → Option ((Nat → Int32) × Int32 × (Nat → Int32) × (Nat → Int32)))) (mo_states_143 : Int32) (mo_kinds_143 : (Nat → Int32)) (mo_nodeOf_143 : (Nat → Int32)) : Option ((Nat → Int32) × Int32 × (Nat → Int32) × (Nat → Int32)) := if (mo_sort (Int32.toNatClampNeg x1_7)) = (0 : Int32) then (f_Mo_settle_J157 mo_sort x1_7 mo_begin_7 mo_states_7 rec7 mo_states_143 mo_kinds_143 mo_nodeOf_143) else (if (mo_sort (Int32.toNatClampNeg x1_7)) = (2 : Int32) then (f_Mo_settle_J157 mo_sort x1_7 mo_begin_7 mo_states_7 rec7 mo_states_143 mo_kinds_143 mo_nodeOf_143) else (if (mo_sort (Int32.toNatClampNeg x1_7)) = (3 : Int32) then (f_Mo_settle_J157 mo_sort x1_7 mo_begin_7 mo_states_7 rec7 mo_states_143 mo_kinds_143 mo_nodeOf_143) else (f_Mo_settle_J164 mo_sort x1_7 mo_begin_7 mo_states_7 rec7 mo_states_143 mo_kinds_143 mo_nodeOf_143)))
def f_Mo_settle_J137 (mo_sort : (Nat → Int32)) (x1_7 : Int32) (mo_begin_7 : (Nat → Int32)) (mo_states_7 : Int32) (rec7 : (Int32 → (Nat → Int32) → Int32 → (Nat → Int32) → (Nat → Int32) → Option ((Nat → Int32) × Int32 × (Nat → Int32) × (Nat → Int32)))) (mo_states_117 : Int32) (mo_kinds_117 : (Nat → Int32)) (mo_nodeOf_117 : (Nat → Int32))  : Option ((Nat → Int32) × Int32 × (Nat → Int32) × (Nat → Int32)) := ob3 (f_Mo_state mo_states_117 mo_kinds_117 mo_nodeOf_117 x1_7 (5 : Int32)) (fun w22 w23 w24 => f_Mo_settle_J143 mo_sort x1_7 mo_begin_7 mo_states_7 rec7 w22 w23 w24)
def f_Mo_settle_J117 (mo_sort : (Nat → Int32)) (x1_7 : Int32) (mo_begin_7 : (Nat → Int32)) (mo_states_7 : Int32) (rec7 : (Int32 → (Nat → Int32) → Int32 → (Nat → Int32) → (Nat → Int32) → Option ((Nat → Int32) × Int32 × (Nat → Int32) × (Nat → Int32)))) (mo_states_117 : Int32) (mo_kinds_117 : (Nat → Int32)) (mo_nodeOf_117 : (Nat → Int32)) : Option ((Nat → Int32) × Int32 × (Nat → Int32) × (Nat → Int32)) := if (mo_sort (Int32.toNatClampNeg x1_7)) = (0 : Int32) then (f_Mo_settle_J137 mo_sort x1_7 mo_begin_7 mo_states_7 rec7 mo_states_117 mo_kinds_117 mo_nodeOf_117) else (if (mo_sort (Int32.toNatClampNeg x1_7)) = (1 : Int32) then (f_Mo_settle_J137 mo_sort x1_7 mo_begin_7 mo_states_7 rec7 mo_states_117 mo_kinds_117 mo_nodeOf_117) else (if (mo_sort (Int32.toNatClampNeg x1_7)) = (3 : Int32) then (f_Mo_settle_J137 mo_sort x1_7 mo_begin_7 mo_states_7 rec7 mo_states_117 mo_kinds_117 mo_nodeOf_117) else (if (mo_sort (Int32.toNatClampNeg x1_7)) = (6 : Int32) then (f_Mo_settle_J137 mo_sort x1_7 mo_begin_7 mo_states_7 rec7 mo_states_117 mo_kinds_117 mo_nodeOf_117) else (f_Mo_settle_J143 mo_sort x1_7 mo_begin_7 mo_states_7 rec7 mo_states_117 mo_kinds_117 mo_nodeOf_117))))
def f_Mo_settle_J111 (mo_sort : (Nat → Int32)) (x1_7 : Int32) (mo_begin_7 : (Nat → Int32)) (mo_states_7 : Int32) (rec7 : (Int32 → (Nat → Int32) → Int32 → (Nat → Int32) → (Nat → Int32) → Option ((Nat → Int32) × Int32 × (Nat → Int32) × (Nat → Int32)))) (mo_states_96 : Int32) (mo_kinds_96 : (Nat → Int32)) (mo_nodeOf_96 : (Nat → Int32))  : Option ((Nat → Int32) × Int32 × (Nat → Int32) × (Nat → Int32)) := ob3 (f_Mo_state mo_states_96 mo_kinds_96 mo_nodeOf_96 x1_7 (4 : Int32)) (fun w30 w31 w32 => f_Mo_settle_J117 mo_sort x1_7 mo_begin_7 mo_states_7 rec7 w30 w31 w32)
def f_Mo_settle_J96 (mo_sort : (Nat → Int32)) (x1_7 : Int32) (mo_begin_7 : (Nat → Int32)) (mo_states_7 : Int32) (rec7 : (Int32 → (Nat → Int32) → Int32 → (Nat → Int32) → (Nat → Int32) → Option ((Nat → Int32) × Int32 × (Nat → Int32) × (Nat → Int32)))) (mo_states_96 : Int32) (mo_kinds_96 : (Nat → Int32)) (mo_nodeOf_96 : (Nat → Int32)) : Option ((Nat → Int32) × Int32 × (Nat → Int32) × (Nat → Int32)) := if (mo_sort (Int32.toNatClampNeg x1_7)) = (1 : Int32) then (f_Mo_settle_J111 mo_sort x1_7 mo_begin_7 mo_states_7 rec7 mo_states_96 mo_kinds_96 mo_nodeOf_96) else (if (mo_sort (Int32.toNatClampNeg x1_7)) = (2 : Int32) then (f_Mo_settle_J111 mo_sort x1_7 mo_begin_7 mo_states_7 rec7 mo_states_96 mo_kinds_96 mo_nodeOf_96) else (if (mo_sort (Int32.toNatClampNeg x1_7)) = (3 : Int32) then (f_Mo_settle_J111 mo_sort x1_7 mo_begin_7 mo_states_7 rec7 mo_states_96 mo_kinds_96 mo_nodeOf_96) else (f_Mo_settle_J117 mo_sort x1_7 mo_begin_7 mo_states_7 rec7 mo_states_96 mo_kinds_96 mo_nodeOf_96)))
def f_Mo_settle_J90 (mo_sort : (Nat → Int32)) (x1_7 : Int32) (mo_begin_7 : (Nat → Int32)) (mo_states_7 : Int32) (rec7 : (Int32 → (Nat → Int32) → Int32 → (Nat → Int32) → (Nat → Int32) → Option ((Nat → Int32) × Int32 × (Nat → Int32) × (Nat → Int32)))) (mo_states_80 : Int32) (mo_kinds_80 : (Nat → Int32)) (mo_nodeOf_80 : (Nat → Int32))  : Option ((Nat → Int32) × Int32 × (Nat → Int32) × (Nat → Int32)) := ob3 (f_Mo_state mo_states_80 mo_kinds_80 mo_nodeOf_80 x1_7 (3 : Int32)) (fun w37 w38 w39 => f_Mo_settle_J96 mo_sort x1_7 mo_begin_7 mo_states_7 rec7 w37 w38 w39)
def f_Mo_settle_J80 (mo_sort : (Nat → Int32)) (x1_7 : Int32) (mo_begin_7 : (Nat → Int32)) (mo_states_7 : Int32) (rec7 : (Int32 → (Nat → Int32) → Int32 → (Nat → Int32) → (Nat → Int32) → Option ((Nat → Int32) × Int32 × (Nat → Int32) × (Nat → Int32)))) (mo_states_80 : Int32) (mo_kinds_80 : (Nat → Int32)) (mo_nodeOf_80 : (Nat → Int32)) : Option ((Nat → Int32) × Int32 × (Nat → Int32) × (Nat → Int32)) := if (mo_sort (Int32.toNatClampNeg x1_7)) = (2 : Int32) then (f_Mo_settle_J90 mo_sort x1_7 mo_begin_7 mo_states_7 rec7 mo_states_80 mo_kinds_80 mo_nodeOf_80) else (if (mo_sort (Int32.toNatClampNeg x1_7)) = (3 : Int32) then (f_Mo_settle_J90 mo_sort x1_7 mo_begin_7 mo_states_7 rec7 mo_states_80 mo_kinds_80 mo_nodeOf_80) else (f_Mo_settle_J96 mo_sort x1_7 mo_begin_7 mo_states_7 rec7 mo_states_80 mo_kinds_80 mo_nodeOf_80))
def f_Mo_settle_J74 (mo_sort : (Nat → Int32)) (x1_7 : Int32) (mo_begin_7 : (Nat → Int32)) (mo_states_7 : Int32) (rec7 : (Int32 → (Nat → Int32) → Int32 → (Nat → Int32) → (Nat → Int32) → Option ((Nat → Int32) × Int32 × (Nat → Int32) × (Nat → Int32)))) (mo_states_64 : Int32) (mo_kinds_64 : (Nat → Int32)) (mo_nodeOf_64 : (Nat → Int32))  : Option ((Nat → Int32) × Int32 × (Nat → Int32) × (Nat → Int32)) := ob3 (f_Mo_state mo_states_64 mo_kinds_64 mo_nodeOf_64 x1_7 (2 : Int32)) (fun w43 w44 w45 => f_Mo_settle_J80 mo_sort x1_7 mo_begin_7 mo_states_7 rec7 w43 w44 w45)
def f_Mo_settle_J64 (mo_sort : (Nat → Int32)) (x1_7 : Int32) (mo_begin_7 : (Nat → Int32)) (mo_states_7 : Int32) (rec7 : (Int32 → (Nat → Int32) → Int32 → (Nat → Int32) → (Nat → Int32) → Option ((Nat → Int32) × Int32 × (Nat → Int32) × (Nat → Int32)))) (mo_states_64 : Int32) (mo_kinds_64 : (Nat → Int32)) (mo_nodeOf_64 : (Nat → Int32)) : Option ((Nat → Int32) × Int32 × (Nat → Int32) × (Nat → Int32)) := if (mo_sort (Int32.toNatClampNeg x1_7)) = (1 : Int32) then (f_Mo_settle_J74 mo_sort x1_7 mo_begin_7 mo_states_7 rec7 mo_states_64 mo_kinds_64 mo_nodeOf_64) else (if (mo_sort (Int32.toNatClampNeg x1_7)) = (3 : Int32) then (f_Mo_settle_J74 mo_sort x1_7 mo_begin_7 mo_states_7 rec7 mo_states_64 mo_kinds_64 mo_nodeOf_64) else (f_Mo_settle_J80 mo_sort x1_7 mo_begin_7 mo_states_7 rec7 mo_states_64 mo_kinds_64 mo_nodeOf_64))
def f_Mo_settle_J53 (mo_sort : (Nat → Int32)) (x1_7 : Int32) (mo_begin_7 : (Nat → Int32)) (mo_states_7 : Int32) (rec7 : (Int32 → (Nat → Int32) → Int32 → (Nat → Int32) → (Nat → Int32) → Option ((Nat → Int32) × Int32 × (Nat → Int32) × (Nat → Int32)))) (mo_states_53 : Int32) (mo_kinds_53 : (Nat → Int32)) (mo_nodeOf_53 : (Nat → Int32)) : Option ((Nat → Int32) × Int32 × (Nat → Int32) × (Nat → Int32)) := if (mo_sort (Int32.toNatClampNeg x1_7)) = (3 : Int32) then (ob3 (f_Mo_state mo_states_53 mo_kinds_53 mo_nodeOf_53 x1_7 (1 : Int32)) (fun w50 w51 w52 => f_Mo_settle_J64 mo_sort x1_7 mo_begin_7 mo_states_7 rec7 w50 w51 w52)) else (f_Mo_settle_J64 mo_sort x1_7 mo_begin_7 mo_states_7 rec7 mo_states_53 mo_kinds_53 mo_nodeOf_53)
def f_Mo_settle_J47 (mo_sort : (Nat → Int32)) (x1_7 : Int32) (mo_begin_7 : (Nat → Int32)) (mo_states_7 : Int32) (mo_kinds_7 : (Nat → Int32)) (mo_nodeOf_7 : (Nat → Int32)) (rec7 : (Int32 → (Nat → Int32) → Int32 → (Nat → Int32) → (Nat → Int32) → Option ((Nat → Int32) × Int32 × (Nat → Int32) × (Nat → Int32))))  : Option ((Nat → Int32) × Int32 × (Nat → Int32) × (Nat → Int32)) := ob3 (f_Mo_state mo_states_7 mo_kinds_7 mo_nodeOf_7 x1_7 (0 : Int32)) (fun w54 w55 w56 => f_Mo_settle_J53 mo_sort x1_7 mo_begin_7 mo_states_7 rec7 w54 w55 w56)
def f_Mo_settle_K7_198 (mo_nodes : Int32) (x1_7 : Int32) (mo_begin_7 : (Nat → Int32)) (mo_states_7 : Int32) (mo_kinds_7 : (Nat → Int32)) (mo_nodeOf_7 : (Nat → Int32)) : Option ((Nat → Int32) × Int32 × (Nat → Int32) × (Nat → Int32)) := gd (xin mo_nodes 25) (some ((upd mo_begin_7 (Int32.toNatClampNeg mo_nodes) mo_states_7), mo_states_7, mo_kinds_7, mo_nodeOf_7))
def f_Mo_settle_L7 (mo_nodes : Int32) (mo_sort : (Nat → Int32)) (k7_198 : (Int32 → (Nat → Int32) → Int32 → (Nat → Int32) → (Nat → Int32) → Option ((Nat → Int32) × Int32 × (Nat → Int32) × (Nat → Int32)))) : Nat → Int32 → (Nat → Int32) → Int32 → (Nat → Int32) → (Nat → Int32) → Option ((Nat → Int32) × Int32 × (Nat → Int32) × (Nat → Int32))
  | 0, _, _, _, _, _ => none
  | n7 + 1, x1_7, mo_begin_7, mo_states_7, mo_kinds_7, mo_nodeOf_7 => if mo_nodes ≤ x1_7 then (k7_198 x1_7 mo_begin_7 mo_states_7 mo_kinds_7 mo_nodeOf_7) else (gd (xin x1_7 24) (gd (xin x1_7 25) (if (mo_sort (Int32.toNatClampNeg x1_7)) = (0 : Int32) then (f_Mo_settle_J47 mo_sort x1_7 mo_begin_7 mo_states_7 mo_kinds_7 mo_nodeOf_7 (f_Mo_settle_L7 mo_nodes mo_sort k7_198 n7)) else (if (mo_sort (Int32.toNatClampNeg x1_7)) = (5 : Int32) then (f_Mo_settle_J47 mo_sort x1_7 mo_begin_7 mo_states_7 mo_kinds_7 mo_nodeOf_7 (f_Mo_settle_L7 mo_nodes mo_sort k7_198 n7)) else (if (mo_sort (Int32.toNatClampNeg x1_7)) = (6 : Int32) then (f_Mo_settle_J47 mo_sort x1_7 mo_begin_7 mo_states_7 mo_kinds_7 mo_nodeOf_7 (f_Mo_settle_L7 mo_nodes mo_sort k7_198 n7)) else (f_Mo_settle_J53 mo_sort x1_7 mo_begin_7 mo_states_7 (f_Mo_settle_L7 mo_nodes mo_sort k7_198 n7) mo_states_7 mo_kinds_7 mo_nodeOf_7))))))
def f_Mo_settle (mo_nodes : Int32) (mo_sort : (Nat → Int32)) (mo_begin : (Nat → Int32)) (mo_states : Int32) (mo_kinds : (Nat → Int32)) (mo_nodeOf : (Nat → Int32)) : Option ((Nat → Int32) × Int32 × (Nat → Int32) × (Nat → Int32)) := f_Mo_settle_L7 mo_nodes mo_sort (f_Mo_settle_K7_198 mo_nodes) 1000 (0 : Int32) mo_begin (0 : Int32) mo_kinds mo_nodeOf
set_option maxHeartbeats 4000000 in
set_option maxRecDepth 100000 in
theorem c_Mo_settle (l : Launch) (dC : Nat → ClassId) (dI : Nat → Nat → Nat) (ty : Nat → ClassId) (ad : Nat → Nat) (ta : Nat → Nat) (sz : Nat) (mo_rows : Int32) (mo_columns : Int32) (mo_marks : (Nat → Int32)) (mo_letters : (Nat → Int32)) (mo_mate : (Nat → Int32)) (mo_made : Int32) (mo_nodes : Int32) (mo_sort : (Nat → Int32)) (mo_from : (Nat → Int32)) (mo_to : (Nat → Int32)) (mo_begin : (Nat → Int32)) (mo_other : (Nat → Int32)) (mo_states : Int32) (mo_kinds : (Nat → Int32)) (mo_nodeOf : (Nat → Int32)) (mo_steps : (Nat → Int32)) (mo_emissions : (Nat → Int32)) (mo_length : Int32) (mo_text : (Nat → Int32)) (mo_worked : Int32) (mo_values : (Nat → Int32)) (mo_hits : Int32) (mo_hitAt : (Nat → Int32)) (mo_hitLength : (Nat → Int32)) (mo_written : Int32) (mo_listState : (Nat → Int32)) (mo_listAt : (Nat → Int32)) (mo_listLength : (Nat → Int32)) (mo_stack : (Nat → Int32))  (n_mo_begin : (Nat → Int32)) (n_mo_states : Int32) (n_mo_kinds : (Nat → Int32)) (n_mo_nodeOf : (Nat → Int32)) (hf : f_Mo_settle mo_nodes mo_sort mo_begin mo_states mo_kinds mo_nodeOf = some (n_mo_begin, n_mo_states, n_mo_kinds, n_mo_nodeOf)) : Met l y_Mo_settle (.code y_Mo_settle prog_10_method_10_code 3 none :: gw) rm_Mo_settle (xPre ta (dC, dI) classes (tys3 ty) (wY ty ad mo_rows mo_columns mo_marks mo_letters mo_mate mo_made mo_nodes mo_sort mo_from mo_to mo_begin mo_other mo_states mo_kinds mo_nodeOf mo_steps mo_emissions mo_length mo_text mo_worked mo_values mo_hits mo_hitAt mo_hitLength mo_written mo_listState mo_listAt mo_listLength mo_stack) sz [.ref (ad 0)]) (xQv (dC, dI) classes (wY ty ad mo_rows mo_columns mo_marks mo_letters mo_mate mo_made mo_nodes mo_sort mo_from mo_to mo_begin mo_other mo_states mo_kinds mo_nodeOf mo_steps mo_emissions mo_length mo_text mo_worked mo_values mo_hits mo_hitAt mo_hitLength mo_written mo_listState mo_listAt mo_listLength mo_stack) (wY ty ad mo_rows mo_columns mo_marks mo_letters mo_mate mo_made mo_nodes mo_sort mo_from mo_to n_mo_begin mo_other n_mo_states n_mo_kinds n_mo_nodeOf mo_steps mo_emissions mo_length mo_text mo_worked mo_values mo_hits mo_hitAt mo_hitLength mo_written mo_listState mo_listAt mo_listLength mo_stack) sz) 0 0 (va_A (wY ty ad mo_rows mo_columns mo_marks mo_letters mo_mate mo_made mo_nodes mo_sort mo_from mo_to mo_begin mo_other mo_states mo_kinds mo_nodeOf mo_steps mo_emissions mo_length mo_text mo_worked mo_values mo_hits mo_hitAt mo_hitLength mo_written mo_listState mo_listAt mo_listLength mo_stack) sz) := by
  refine xmet_v rfl (Nat.le_of_ble_eq_true rfl) ?_
  intro p e s m below meth c A ls Q hx hb hml hts hown hK hN hA hP hD hS hl hret
  replace hown : s.vm.findClass R_Mo = some m.cls := hown
  have hl : lv_has ls 3 [(0, .ref (ad 0))] := hl
  rw [f_Mo_settle] at hf
  obtain ⟨H, eH⟩ : ∃ H : Heap, H = s.heap := ⟨_, rfl⟩
  obtain ⟨locs, eL⟩ : ∃ L : List Loc, L = [] := ⟨_, rfl⟩
  have hP : va_P (dC, dI) classes (wY ty ad mo_rows mo_columns mo_marks mo_letters mo_mate mo_made mo_nodes mo_sort mo_from mo_to mo_begin mo_other mo_states mo_kinds mo_nodeOf mo_steps mo_emissions mo_length mo_text mo_worked mo_values mo_hits mo_hitAt mo_hitLength mo_written mo_listState mo_listAt mo_listLength mo_stack) H := by rw [eH]; exact hP
  have hS : va_S A s.heap H locs := by rw [eH, eL]; exact hS
  rw [← eL]
  suffices hgoal : W p l e rm_Mo_settle s m (List.toArray [.ref (ad 0)]) below meth c H locs 0 0 Q (F0 m 0 ls []) by rw [eH] at hgoal; exact hgoal
  clear eH eL
  refine lv_aload_n hx hb d_Mo_settle_0 rfl (lv_at hl 0 rfl) ?_
  refine lv_iconst (v := 0) hx hb d_Mo_settle_1 (by decide) ?_
  refine va_put (D := (dC, dI)) (ci := 8) (v := .int (0 : Int32)) (ty := .int) (C := R_Mo) (T := F_Mo) (N := 29) hx hb hts iw_Mo t_Mo t_Mo_ok n_Mo hown hK hP hD hS 0 rfl rfl 12 (by decide) (hts _ m_729) (fun _ h9 => h9) rfl (by decide +kernel) rfl rfl (Nat.le_of_ble_eq_true rfl) d_Mo_settle_2 (fun H locs hP hD hS => ?_)
  have hP : va_P (dC, dI) classes (wY ty ad mo_rows mo_columns mo_marks mo_letters mo_mate mo_made mo_nodes mo_sort mo_from mo_to mo_begin mo_other (0 : Int32) mo_kinds mo_nodeOf mo_steps mo_emissions mo_length mo_text mo_worked mo_values mo_hits mo_hitAt mo_hitLength mo_written mo_listState mo_listAt mo_listLength mo_stack) H := hP
  have hD : va_D A (wY ty ad mo_rows mo_columns mo_marks mo_letters mo_mate mo_made mo_nodes mo_sort mo_from mo_to mo_begin mo_other (0 : Int32) mo_kinds mo_nodeOf mo_steps mo_emissions mo_length mo_text mo_worked mo_values mo_hits mo_hitAt mo_hitLength mo_written mo_listState mo_listAt mo_listLength mo_stack) := hD
  refine lv_iconst (v := 0) hx hb d_Mo_settle_5 (by decide) ?_
  refine lv_istore_n (lv' := [(1, .int (0 : Int32)), (0, .ref (ad 0))]) hx hb d_Mo_settle_6 rfl hl (by decide) rfl (fun ls hl => ?_)
  have K7_198 : ∀ (x1_7 : Int32) (mo_begin_7 : (Nat → Int32)) (mo_states_7 : Int32) (mo_kinds_7 : (Nat → Int32)) (mo_nodeOf_7 : (Nat → Int32)) (H : Heap) (locs : List Loc) (ls : Array Slot), va_P (dC, dI) classes (wY ty ad mo_rows mo_columns mo_marks mo_letters mo_mate mo_made mo_nodes mo_sort mo_from mo_to mo_begin_7 mo_other mo_states_7 mo_kinds_7 mo_nodeOf_7 mo_steps mo_emissions mo_length mo_text mo_worked mo_values mo_hits mo_hitAt mo_hitLength mo_written mo_listState mo_listAt mo_listLength mo_stack) H → va_D A (wY ty ad mo_rows mo_columns mo_marks mo_letters mo_mate mo_made mo_nodes mo_sort mo_from mo_to mo_begin_7 mo_other mo_states_7 mo_kinds_7 mo_nodeOf_7 mo_steps mo_emissions mo_length mo_text mo_worked mo_values mo_hits mo_hitAt mo_hitLength mo_written mo_listState mo_listAt mo_listLength mo_stack) → va_S A s.heap H locs → lv_has ls 3 [(0, .ref (ad 0))] → f_Mo_settle_K7_198 mo_nodes x1_7 mo_begin_7 mo_states_7 mo_kinds_7 mo_nodeOf_7 = some (n_mo_begin, n_mo_states, n_mo_kinds, n_mo_nodeOf) → W p l e rm_Mo_settle s m (List.toArray [.ref (ad 0)]) below meth c H locs 0 0 Q (F0 m 198 ls []) := by
    intro x1_7 mo_begin_7 mo_states_7 mo_kinds_7 mo_nodeOf_7 H locs ls hP hD hS hl hf
    rw [f_Mo_settle_K7_198] at hf
    refine lv_aload_n hx hb d_Mo_settle_198 rfl (lv_at hl 0 rfl) ?_
    refine va_get (D := (dC, dI)) (ci := 8) (v := .ref (ad 7)) (C := R_Mo) (T := F_Mo) (N := 29) hx hb hts iw_Mo hown hK hP 0 rfl rfl 10 (by decide) (hts _ m_727) (fun _ h9 => h9) rfl d_Mo_settle_199 ?_
    refine lv_aload_n hx hb d_Mo_settle_202 rfl (lv_at hl 0 rfl) ?_
    refine va_get (D := (dC, dI)) (ci := 8) (v := .int mo_nodes) (C := R_Mo) (T := F_Mo) (N := 29) hx hb hts iw_Mo hown hK hP 0 rfl rfl 6 (by decide) (hts _ m_723) (fun _ h9 => h9) rfl d_Mo_settle_203 ?_
    refine lv_aload_n hx hb d_Mo_settle_206 rfl (lv_at hl 0 rfl) ?_
    refine va_get (D := (dC, dI)) (ci := 8) (v := .int mo_states_7) (C := R_Mo) (T := F_Mo) (N := 29) hx hb hts iw_Mo hown hK hP 0 rfl rfl 12 (by decide) (hts _ m_729) (fun _ h9 => h9) rfl d_Mo_settle_207 ?_
    obtain ⟨hi61, hf⟩ := gdi hf
    refine va_iast hx hb hK hP hD hS 7 0 rfl rfl hi61 d_Mo_settle_210 (fun H locs hP hD hS => ?_)
    have hP : va_P (dC, dI) classes (wY ty ad mo_rows mo_columns mo_marks mo_letters mo_mate mo_made mo_nodes mo_sort mo_from mo_to (upd mo_begin_7 (Int32.toNatClampNeg mo_nodes) mo_states_7) mo_other mo_states_7 mo_kinds_7 mo_nodeOf_7 mo_steps mo_emissions mo_length mo_text mo_worked mo_values mo_hits mo_hitAt mo_hitLength mo_written mo_listState mo_listAt mo_listLength mo_stack) H := hP
    have hD : va_D A (wY ty ad mo_rows mo_columns mo_marks mo_letters mo_mate mo_made mo_nodes mo_sort mo_from mo_to (upd mo_begin_7 (Int32.toNatClampNeg mo_nodes) mo_states_7) mo_other mo_states_7 mo_kinds_7 mo_nodeOf_7 mo_steps mo_emissions mo_length mo_text mo_worked mo_values mo_hits mo_hitAt mo_hitLength mo_written mo_listState mo_listAt mo_listLength mo_stack) := hD
    obtain ⟨rfl, rfl, rfl, rfl⟩ := os4 hf
    exact hret H locs _ _ d_Mo_settle_211 hP hS
  have L7 : ∀ (n7 : Nat), ∀ (x1_7 : Int32) (mo_begin_7 : (Nat → Int32)) (mo_states_7 : Int32) (mo_kinds_7 : (Nat → Int32)) (mo_nodeOf_7 : (Nat → Int32)) (H : Heap) (locs : List Loc) (ls : Array Slot), va_P (dC, dI) classes (wY ty ad mo_rows mo_columns mo_marks mo_letters mo_mate mo_made mo_nodes mo_sort mo_from mo_to mo_begin_7 mo_other mo_states_7 mo_kinds_7 mo_nodeOf_7 mo_steps mo_emissions mo_length mo_text mo_worked mo_values mo_hits mo_hitAt mo_hitLength mo_written mo_listState mo_listAt mo_listLength mo_stack) H → va_D A (wY ty ad mo_rows mo_columns mo_marks mo_letters mo_mate mo_made mo_nodes mo_sort mo_from mo_to mo_begin_7 mo_other mo_states_7 mo_kinds_7 mo_nodeOf_7 mo_steps mo_emissions mo_length mo_text mo_worked mo_values mo_hits mo_hitAt mo_hitLength mo_written mo_listState mo_listAt mo_listLength mo_stack) → va_S A s.heap H locs → lv_has ls 3 [(0, .ref (ad 0)), (1, .int x1_7)] → f_Mo_settle_L7 mo_nodes mo_sort (f_Mo_settle_K7_198 mo_nodes) n7 x1_7 mo_begin_7 mo_states_7 mo_kinds_7 mo_nodeOf_7 = some (n_mo_begin, n_mo_states, n_mo_kinds, n_mo_nodeOf) → W p l e rm_Mo_settle s m (List.toArray [.ref (ad 0)]) below meth c H locs 0 0 Q (F0 m 7 ls []) := by
    intro n7
    induction n7 with
    | zero =>
      intro x1_7 mo_begin_7 mo_states_7 mo_kinds_7 mo_nodeOf_7 H locs ls hP hD hS hl hf
      rw [f_Mo_settle_L7] at hf
      cases hf
    | succ n7 ih7 =>
      intro x1_7 mo_begin_7 mo_states_7 mo_kinds_7 mo_nodeOf_7 H locs ls hP hD hS hl hf
      rw [f_Mo_settle_L7] at hf
      refine lv_iload_n hx hb d_Mo_settle_7 rfl (lv_at hl 1 rfl) ?_
      refine lv_aload_n hx hb d_Mo_settle_8 rfl (lv_at hl 0 rfl) ?_
      refine va_get (D := (dC, dI)) (ci := 8) (v := .int mo_nodes) (C := R_Mo) (T := F_Mo) (N := 29) hx hb hts iw_Mo hown hK hP 0 rfl rfl 6 (by decide) (hts _ m_723) (fun _ h9 => h9) rfl d_Mo_settle_9 ?_
      refine lv_icmp_ge (tgt := 198) hx hb d_Mo_settle_12 (by decide) (fun c1 => ?_) (fun c1 => ?_)
      · have hf := xif_t c1 hf
        exact K7_198 x1_7 mo_begin_7 mo_states_7 mo_kinds_7 mo_nodeOf_7 _ _ _ hP hD hS (lv_sub hl [0] rfl) hf
      · have hf := xif_f c1 hf
        refine lv_aload_n hx hb d_Mo_settle_15 rfl (lv_at hl 0 rfl) ?_
        refine va_get (D := (dC, dI)) (ci := 8) (v := .ref (ad 4)) (C := R_Mo) (T := F_Mo) (N := 29) hx hb hts iw_Mo hown hK hP 0 rfl rfl 7 (by decide) (hts _ m_724) (fun _ h9 => h9) rfl d_Mo_settle_16 ?_
        refine lv_iload_n hx hb d_Mo_settle_19 rfl (lv_at hl 1 rfl) ?_
        obtain ⟨hi2, hf⟩ := gdi hf
        refine va_iald hx hb hK hP 4 0 rfl rfl hi2 d_Mo_settle_20 ?_
        refine lv_istore_n (lv' := [(2, .int (mo_sort (Int32.toNatClampNeg x1_7))), (0, .ref (ad 0)), (1, .int x1_7)]) hx hb d_Mo_settle_21 rfl hl (by decide) rfl (fun ls hl => ?_)
        refine lv_aload_n hx hb d_Mo_settle_22 rfl (lv_at hl 1 rfl) ?_
        refine va_get (D := (dC, dI)) (ci := 8) (v := .ref (ad 7)) (C := R_Mo) (T := F_Mo) (N := 29) hx hb hts iw_Mo hown hK hP 0 rfl rfl 10 (by decide) (hts _ m_727) (fun _ h9 => h9) rfl d_Mo_settle_23 ?_
        refine lv_iload_n hx hb d_Mo_settle_26 rfl (lv_at hl 2 rfl) ?_
        refine lv_aload_n hx hb d_Mo_settle_27 rfl (lv_at hl 1 rfl) ?_
        refine va_get (D := (dC, dI)) (ci := 8) (v := .int mo_states_7) (C := R_Mo) (T := F_Mo) (N := 29) hx hb hts iw_Mo hown hK hP 0 rfl rfl 12 (by decide) (hts _ m_729) (fun _ h9 => h9) rfl d_Mo_settle_28 ?_
        obtain ⟨hi3, hf⟩ := gdi hf
        refine va_iast hx hb hK hP hD hS 7 0 rfl rfl hi3 d_Mo_settle_31 (fun H locs hP hD hS => ?_)
        have hP : va_P (dC, dI) classes (wY ty ad mo_rows mo_columns mo_marks mo_letters mo_mate mo_made mo_nodes mo_sort mo_from mo_to (upd mo_begin_7 (Int32.toNatClampNeg x1_7) mo_states_7) mo_other mo_states_7 mo_kinds_7 mo_nodeOf_7 mo_steps mo_emissions mo_length mo_text mo_worked mo_values mo_hits mo_hitAt mo_hitLength mo_written mo_listState mo_listAt mo_listLength mo_stack) H := hP
        have hD : va_D A (wY ty ad mo_rows mo_columns mo_marks mo_letters mo_mate mo_made mo_nodes mo_sort mo_from mo_to (upd mo_begin_7 (Int32.toNatClampNeg x1_7) mo_states_7) mo_other mo_states_7 mo_kinds_7 mo_nodeOf_7 mo_steps mo_emissions mo_length mo_text mo_worked mo_values mo_hits mo_hitAt mo_hitLength mo_written mo_listState mo_listAt mo_listLength mo_stack) := hD
        refine lv_iload_n hx hb d_Mo_settle_32 rfl (lv_at hl 0 rfl) ?_
        have J53 : ∀ (mo_states_53 : Int32) (mo_kinds_53 : (Nat → Int32)) (mo_nodeOf_53 : (Nat → Int32)) (H : Heap) (locs : List Loc) (ls : Array Slot), va_P (dC, dI) classes (wY ty ad mo_rows mo_columns mo_marks mo_letters mo_mate mo_made mo_nodes mo_sort mo_from mo_to (upd mo_begin_7 (Int32.toNatClampNeg x1_7) mo_states_7) mo_other mo_states_53 mo_kinds_53 mo_nodeOf_53 mo_steps mo_emissions mo_length mo_text mo_worked mo_values mo_hits mo_hitAt mo_hitLength mo_written mo_listState mo_listAt mo_listLength mo_stack) H → va_D A (wY ty ad mo_rows mo_columns mo_marks mo_letters mo_mate mo_made mo_nodes mo_sort mo_from mo_to (upd mo_begin_7 (Int32.toNatClampNeg x1_7) mo_states_7) mo_other mo_states_53 mo_kinds_53 mo_nodeOf_53 mo_steps mo_emissions mo_length mo_text mo_worked mo_values mo_hits mo_hitAt mo_hitLength mo_written mo_listState mo_listAt mo_listLength mo_stack) → va_S A s.heap H locs → lv_has ls 3 [(0, .ref (ad 0)), (1, .int x1_7), (2, .int (mo_sort (Int32.toNatClampNeg x1_7)))] → f_Mo_settle_J53 mo_sort x1_7 mo_begin_7 mo_states_7 (f_Mo_settle_L7 mo_nodes mo_sort (f_Mo_settle_K7_198 mo_nodes) n7) mo_states_53 mo_kinds_53 mo_nodeOf_53 = some (n_mo_begin, n_mo_states, n_mo_kinds, n_mo_nodeOf) → W p l e rm_Mo_settle s m (List.toArray [.ref (ad 0)]) below meth c H locs 0 0 Q (F0 m 53 ls []) := by
          intro mo_states_53 mo_kinds_53 mo_nodeOf_53 H locs ls hP hD hS hl hf
          rw [f_Mo_settle_J53] at hf
          refine lv_iload_n hx hb d_Mo_settle_53 rfl (lv_at hl 2 rfl) ?_
          refine lv_iconst (v := 3) hx hb d_Mo_settle_54 (by decide) ?_
          have J64 : ∀ (mo_states_64 : Int32) (mo_kinds_64 : (Nat → Int32)) (mo_nodeOf_64 : (Nat → Int32)) (H : Heap) (locs : List Loc) (ls : Array Slot), va_P (dC, dI) classes (wY ty ad mo_rows mo_columns mo_marks mo_letters mo_mate mo_made mo_nodes mo_sort mo_from mo_to (upd mo_begin_7 (Int32.toNatClampNeg x1_7) mo_states_7) mo_other mo_states_64 mo_kinds_64 mo_nodeOf_64 mo_steps mo_emissions mo_length mo_text mo_worked mo_values mo_hits mo_hitAt mo_hitLength mo_written mo_listState mo_listAt mo_listLength mo_stack) H → va_D A (wY ty ad mo_rows mo_columns mo_marks mo_letters mo_mate mo_made mo_nodes mo_sort mo_from mo_to (upd mo_begin_7 (Int32.toNatClampNeg x1_7) mo_states_7) mo_other mo_states_64 mo_kinds_64 mo_nodeOf_64 mo_steps mo_emissions mo_length mo_text mo_worked mo_values mo_hits mo_hitAt mo_hitLength mo_written mo_listState mo_listAt mo_listLength mo_stack) → va_S A s.heap H locs → lv_has ls 3 [(0, .ref (ad 0)), (1, .int x1_7), (2, .int (mo_sort (Int32.toNatClampNeg x1_7)))] → f_Mo_settle_J64 mo_sort x1_7 mo_begin_7 mo_states_7 (f_Mo_settle_L7 mo_nodes mo_sort (f_Mo_settle_K7_198 mo_nodes) n7) mo_states_64 mo_kinds_64 mo_nodeOf_64 = some (n_mo_begin, n_mo_states, n_mo_kinds, n_mo_nodeOf) → W p l e rm_Mo_settle s m (List.toArray [.ref (ad 0)]) below meth c H locs 0 0 Q (F0 m 64 ls []) := by
            intro mo_states_64 mo_kinds_64 mo_nodeOf_64 H locs ls hP hD hS hl hf
            rw [f_Mo_settle_J64] at hf
            refine lv_iload_n hx hb d_Mo_settle_64 rfl (lv_at hl 2 rfl) ?_
            refine lv_iconst (v := 1) hx hb d_Mo_settle_65 (by decide) ?_
            have J80 : ∀ (mo_states_80 : Int32) (mo_kinds_80 : (Nat → Int32)) (mo_nodeOf_80 : (Nat → Int32)) (H : Heap) (locs : List Loc) (ls : Array Slot), va_P (dC, dI) classes (wY ty ad mo_rows mo_columns mo_marks mo_letters mo_mate mo_made mo_nodes mo_sort mo_from mo_to (upd mo_begin_7 (Int32.toNatClampNeg x1_7) mo_states_7) mo_other mo_states_80 mo_kinds_80 mo_nodeOf_80 mo_steps mo_emissions mo_length mo_text mo_worked mo_values mo_hits mo_hitAt mo_hitLength mo_written mo_listState mo_listAt mo_listLength mo_stack) H → va_D A (wY ty ad mo_rows mo_columns mo_marks mo_letters mo_mate mo_made mo_nodes mo_sort mo_from mo_to (upd mo_begin_7 (Int32.toNatClampNeg x1_7) mo_states_7) mo_other mo_states_80 mo_kinds_80 mo_nodeOf_80 mo_steps mo_emissions mo_length mo_text mo_worked mo_values mo_hits mo_hitAt mo_hitLength mo_written mo_listState mo_listAt mo_listLength mo_stack) → va_S A s.heap H locs → lv_has ls 3 [(0, .ref (ad 0)), (1, .int x1_7), (2, .int (mo_sort (Int32.toNatClampNeg x1_7)))] → f_Mo_settle_J80 mo_sort x1_7 mo_begin_7 mo_states_7 (f_Mo_settle_L7 mo_nodes mo_sort (f_Mo_settle_K7_198 mo_nodes) n7) mo_states_80 mo_kinds_80 mo_nodeOf_80 = some (n_mo_begin, n_mo_states, n_mo_kinds, n_mo_nodeOf) → W p l e rm_Mo_settle s m (List.toArray [.ref (ad 0)]) below meth c H locs 0 0 Q (F0 m 80 ls []) := by
              intro mo_states_80 mo_kinds_80 mo_nodeOf_80 H locs ls hP hD hS hl hf
              rw [f_Mo_settle_J80] at hf
              refine lv_iload_n hx hb d_Mo_settle_80 rfl (lv_at hl 2 rfl) ?_
              refine lv_iconst (v := 2) hx hb d_Mo_settle_81 (by decide) ?_
              have J96 : ∀ (mo_states_96 : Int32) (mo_kinds_96 : (Nat → Int32)) (mo_nodeOf_96 : (Nat → Int32)) (H : Heap) (locs : List Loc) (ls : Array Slot), va_P (dC, dI) classes (wY ty ad mo_rows mo_columns mo_marks mo_letters mo_mate mo_made mo_nodes mo_sort mo_from mo_to (upd mo_begin_7 (Int32.toNatClampNeg x1_7) mo_states_7) mo_other mo_states_96 mo_kinds_96 mo_nodeOf_96 mo_steps mo_emissions mo_length mo_text mo_worked mo_values mo_hits mo_hitAt mo_hitLength mo_written mo_listState mo_listAt mo_listLength mo_stack) H → va_D A (wY ty ad mo_rows mo_columns mo_marks mo_letters mo_mate mo_made mo_nodes mo_sort mo_from mo_to (upd mo_begin_7 (Int32.toNatClampNeg x1_7) mo_states_7) mo_other mo_states_96 mo_kinds_96 mo_nodeOf_96 mo_steps mo_emissions mo_length mo_text mo_worked mo_values mo_hits mo_hitAt mo_hitLength mo_written mo_listState mo_listAt mo_listLength mo_stack) → va_S A s.heap H locs → lv_has ls 3 [(0, .ref (ad 0)), (1, .int x1_7), (2, .int (mo_sort (Int32.toNatClampNeg x1_7)))] → f_Mo_settle_J96 mo_sort x1_7 mo_begin_7 mo_states_7 (f_Mo_settle_L7 mo_nodes mo_sort (f_Mo_settle_K7_198 mo_nodes) n7) mo_states_96 mo_kinds_96 mo_nodeOf_96 = some (n_mo_begin, n_mo_states, n_mo_kinds, n_mo_nodeOf) → W p l e rm_Mo_settle s m (List.toArray [.ref (ad 0)]) below meth c H locs 0 0 Q (F0 m 96 ls []) := by
                intro mo_states_96 mo_kinds_96 mo_nodeOf_96 H locs ls hP hD hS hl hf
                rw [f_Mo_settle_J96] at hf
                refine lv_iload_n hx hb d_Mo_settle_96 rfl (lv_at hl 2 rfl) ?_
                refine lv_iconst (v := 1) hx hb d_Mo_settle_97 (by decide) ?_
                have J117 : ∀ (mo_states_117 : Int32) (mo_kinds_117 : (Nat → Int32)) (mo_nodeOf_117 : (Nat → Int32)) (H : Heap) (locs : List Loc) (ls : Array Slot), va_P (dC, dI) classes (wY ty ad mo_rows mo_columns mo_marks mo_letters mo_mate mo_made mo_nodes mo_sort mo_from mo_to (upd mo_begin_7 (Int32.toNatClampNeg x1_7) mo_states_7) mo_other mo_states_117 mo_kinds_117 mo_nodeOf_117 mo_steps mo_emissions mo_length mo_text mo_worked mo_values mo_hits mo_hitAt mo_hitLength mo_written mo_listState mo_listAt mo_listLength mo_stack) H → va_D A (wY ty ad mo_rows mo_columns mo_marks mo_letters mo_mate mo_made mo_nodes mo_sort mo_from mo_to (upd mo_begin_7 (Int32.toNatClampNeg x1_7) mo_states_7) mo_other mo_states_117 mo_kinds_117 mo_nodeOf_117 mo_steps mo_emissions mo_length mo_text mo_worked mo_values mo_hits mo_hitAt mo_hitLength mo_written mo_listState mo_listAt mo_listLength mo_stack) → va_S A s.heap H locs → lv_has ls 3 [(0, .ref (ad 0)), (1, .int x1_7), (2, .int (mo_sort (Int32.toNatClampNeg x1_7)))] → f_Mo_settle_J117 mo_sort x1_7 mo_begin_7 mo_states_7 (f_Mo_settle_L7 mo_nodes mo_sort (f_Mo_settle_K7_198 mo_nodes) n7) mo_states_117 mo_kinds_117 mo_nodeOf_117 = some (n_mo_begin, n_mo_states, n_mo_kinds, n_mo_nodeOf) → W p l e rm_Mo_settle s m (List.toArray [.ref (ad 0)]) below meth c H locs 0 0 Q (F0 m 117 ls []) := by
                  intro mo_states_117 mo_kinds_117 mo_nodeOf_117 H locs ls hP hD hS hl hf
                  rw [f_Mo_settle_J117] at hf
                  refine lv_iload_n hx hb d_Mo_settle_117 rfl (lv_at hl 2 rfl) ?_
                  have J143 : ∀ (mo_states_143 : Int32) (mo_kinds_143 : (Nat → Int32)) (mo_nodeOf_143 : (Nat → Int32)) (H : Heap) (locs : List Loc) (ls : Array Slot), va_P (dC, dI) classes (wY ty ad mo_rows mo_columns mo_marks mo_letters mo_mate mo_made mo_nodes mo_sort mo_from mo_to (upd mo_begin_7 (Int32.toNatClampNeg x1_7) mo_states_7) mo_other mo_states_143 mo_kinds_143 mo_nodeOf_143 mo_steps mo_emissions mo_length mo_text mo_worked mo_values mo_hits mo_hitAt mo_hitLength mo_written mo_listState mo_listAt mo_listLength mo_stack) H → va_D A (wY ty ad mo_rows mo_columns mo_marks mo_letters mo_mate mo_made mo_nodes mo_sort mo_from mo_to (upd mo_begin_7 (Int32.toNatClampNeg x1_7) mo_states_7) mo_other mo_states_143 mo_kinds_143 mo_nodeOf_143 mo_steps mo_emissions mo_length mo_text mo_worked mo_values mo_hits mo_hitAt mo_hitLength mo_written mo_listState mo_listAt mo_listLength mo_stack) → va_S A s.heap H locs → lv_has ls 3 [(0, .ref (ad 0)), (1, .int x1_7), (2, .int (mo_sort (Int32.toNatClampNeg x1_7)))] → f_Mo_settle_J143 mo_sort x1_7 mo_begin_7 mo_states_7 (f_Mo_settle_L7 mo_nodes mo_sort (f_Mo_settle_K7_198 mo_nodes) n7) mo_states_143 mo_kinds_143 mo_nodeOf_143 = some (n_mo_begin, n_mo_states, n_mo_kinds, n_mo_nodeOf) → W p l e rm_Mo_settle s m (List.toArray [.ref (ad 0)]) below meth c H locs 0 0 Q (F0 m 143 ls []) := by
                    intro mo_states_143 mo_kinds_143 mo_nodeOf_143 H locs ls hP hD hS hl hf
                    rw [f_Mo_settle_J143] at hf
                    refine lv_iload_n hx hb d_Mo_settle_143 rfl (lv_at hl 2 rfl) ?_
                    have J164 : ∀ (mo_states_164 : Int32) (mo_kinds_164 : (Nat → Int32)) (mo_nodeOf_164 : (Nat → Int32)) (H : Heap) (locs : List Loc) (ls : Array Slot), va_P (dC, dI) classes (wY ty ad mo_rows mo_columns mo_marks mo_letters mo_mate mo_made mo_nodes mo_sort mo_from mo_to (upd mo_begin_7 (Int32.toNatClampNeg x1_7) mo_states_7) mo_other mo_states_164 mo_kinds_164 mo_nodeOf_164 mo_steps mo_emissions mo_length mo_text mo_worked mo_values mo_hits mo_hitAt mo_hitLength mo_written mo_listState mo_listAt mo_listLength mo_stack) H → va_D A (wY ty ad mo_rows mo_columns mo_marks mo_letters mo_mate mo_made mo_nodes mo_sort mo_from mo_to (upd mo_begin_7 (Int32.toNatClampNeg x1_7) mo_states_7) mo_other mo_states_164 mo_kinds_164 mo_nodeOf_164 mo_steps mo_emissions mo_length mo_text mo_worked mo_values mo_hits mo_hitAt mo_hitLength mo_written mo_listState mo_listAt mo_listLength mo_stack) → va_S A s.heap H locs → lv_has ls 3 [(0, .ref (ad 0)), (1, .int x1_7), (2, .int (mo_sort (Int32.toNatClampNeg x1_7)))] → f_Mo_settle_J164 mo_sort x1_7 mo_begin_7 mo_states_7 (f_Mo_settle_L7 mo_nodes mo_sort (f_Mo_settle_K7_198 mo_nodes) n7) mo_states_164 mo_kinds_164 mo_nodeOf_164 = some (n_mo_begin, n_mo_states, n_mo_kinds, n_mo_nodeOf) → W p l e rm_Mo_settle s m (List.toArray [.ref (ad 0)]) below meth c H locs 0 0 Q (F0 m 164 ls []) := by
                      intro mo_states_164 mo_kinds_164 mo_nodeOf_164 H locs ls hP hD hS hl hf
                      rw [f_Mo_settle_J164] at hf
                      refine lv_iload_n hx hb d_Mo_settle_164 rfl (lv_at hl 2 rfl) ?_
                      refine lv_iconst (v := 4) hx hb d_Mo_settle_165 (by decide) ?_
                      have J175 : ∀  (H : Heap) (locs : List Loc) (ls : Array Slot), va_P (dC, dI) classes (wY ty ad mo_rows mo_columns mo_marks mo_letters mo_mate mo_made mo_nodes mo_sort mo_from mo_to (upd mo_begin_7 (Int32.toNatClampNeg x1_7) mo_states_7) mo_other mo_states_164 mo_kinds_164 mo_nodeOf_164 mo_steps mo_emissions mo_length mo_text mo_worked mo_values mo_hits mo_hitAt mo_hitLength mo_written mo_listState mo_listAt mo_listLength mo_stack) H → va_D A (wY ty ad mo_rows mo_columns mo_marks mo_letters mo_mate mo_made mo_nodes mo_sort mo_from mo_to (upd mo_begin_7 (Int32.toNatClampNeg x1_7) mo_states_7) mo_other mo_states_164 mo_kinds_164 mo_nodeOf_164 mo_steps mo_emissions mo_length mo_text mo_worked mo_values mo_hits mo_hitAt mo_hitLength mo_written mo_listState mo_listAt mo_listLength mo_stack) → va_S A s.heap H locs → lv_has ls 3 [(0, .ref (ad 0)), (1, .int x1_7), (2, .int (mo_sort (Int32.toNatClampNeg x1_7)))] → f_Mo_settle_J175 mo_sort x1_7 mo_begin_7 mo_states_7 (f_Mo_settle_L7 mo_nodes mo_sort (f_Mo_settle_K7_198 mo_nodes) n7) mo_states_164 mo_kinds_164 mo_nodeOf_164 = some (n_mo_begin, n_mo_states, n_mo_kinds, n_mo_nodeOf) → W p l e rm_Mo_settle s m (List.toArray [.ref (ad 0)]) below meth c H locs 0 0 Q (F0 m 175 ls []) := by
                        intro  H locs ls hP hD hS hl hf
                        rw [f_Mo_settle_J175] at hf
                        refine lv_aload_n hx hb d_Mo_settle_175 rfl (lv_at hl 0 rfl) ?_
                        refine lv_iload_n hx hb d_Mo_settle_176 rfl (lv_at hl 1 rfl) ?_
                        refine lv_iload_n hx hb d_Mo_settle_177 rfl (lv_at hl 2 rfl) ?_
                        refine lv_iconst (v := 4) hx hb d_Mo_settle_178 (by decide) ?_
                        refine lv_icmp_ne (tgt := 187) hx hb d_Mo_settle_179 (by decide) (fun c4 => ?_) (fun c4 => ?_)
                        · have hf := xif_f c4 hf
                          refine lv_bipush (v := 8) hx hb d_Mo_settle_187 (by decide) ?_
                          obtain ⟨w5, w6, w7, hc8, hf⟩ := ob3_inv hf
                          refine xk_v (xrunV (C := R_Mo) (As := [.int x1_7, .int (8 : Int32)]) (rest := []) ⟨hx, hb, hml, hown, hts⟩ (c_Mo_state l dC dI ty ad ta H.size mo_rows mo_columns mo_marks mo_letters mo_mate mo_made mo_nodes mo_sort mo_from mo_to (upd mo_begin_7 (Int32.toNatClampNeg x1_7) mo_states_7) mo_other mo_states_164 mo_kinds_164 mo_nodeOf_164 mo_steps mo_emissions mo_length mo_text mo_worked mo_values mo_hits mo_hitAt mo_hitLength mo_written mo_listState mo_listAt mo_listLength mo_stack x1_7 (8 : Int32) w5 w6 w7 hc8) z_Mo_101 ⟨⟨rfl, rfl⟩, by decide, by decide⟩ hK hP hD hN hS hA (va_recv hK hP (ci := 8) (q0 := 0) rfl rfl) rfl hl.1 rfl (Nat.le_of_ble_eq_true rfl) d_Mo_settle_189 ⟨Nat.zero_le _, Nat.zero_le _⟩) hS hD rfl hA (fun H locs hP hD hS => ?_)
                          refine W.eq (g2 := F0 m 192 ls []) rfl ?_
                          refine lv_iinc (v := (x1_7 + (1 : Int32))) (lv' := [(1, .int (x1_7 + (1 : Int32))), (0, .ref (ad 0)), (2, .int (mo_sort (Int32.toNatClampNeg x1_7)))]) hx hb d_Mo_settle_192 hl (k := 1) rfl rfl (by decide) rfl (fun ls hl => ?_)
                          refine lv_goto (tgt := 7) hx hb d_Mo_settle_195 (by decide) ?_
                          exact ih7 (x1_7 + (1 : Int32)) (upd mo_begin_7 (Int32.toNatClampNeg x1_7) mo_states_7) w5 w6 w7 _ _ _ hP hD hS (lv_sub hl [1, 0] rfl) hf
                        · have hf := xif_t c4 hf
                          refine lv_bipush (v := 7) hx hb d_Mo_settle_182 (by decide) ?_
                          refine lv_goto (tgt := 189) hx hb d_Mo_settle_184 (by decide) ?_
                          obtain ⟨w9, w10, w11, hc12, hf⟩ := ob3_inv hf
                          refine xk_v (xrunV (C := R_Mo) (As := [.int x1_7, .int (7 : Int32)]) (rest := []) ⟨hx, hb, hml, hown, hts⟩ (c_Mo_state l dC dI ty ad ta H.size mo_rows mo_columns mo_marks mo_letters mo_mate mo_made mo_nodes mo_sort mo_from mo_to (upd mo_begin_7 (Int32.toNatClampNeg x1_7) mo_states_7) mo_other mo_states_164 mo_kinds_164 mo_nodeOf_164 mo_steps mo_emissions mo_length mo_text mo_worked mo_values mo_hits mo_hitAt mo_hitLength mo_written mo_listState mo_listAt mo_listLength mo_stack x1_7 (7 : Int32) w9 w10 w11 hc12) z_Mo_101 ⟨⟨rfl, rfl⟩, by decide, by decide⟩ hK hP hD hN hS hA (va_recv hK hP (ci := 8) (q0 := 0) rfl rfl) rfl hl.1 rfl (Nat.le_of_ble_eq_true rfl) d_Mo_settle_189 ⟨Nat.zero_le _, Nat.zero_le _⟩) hS hD rfl hA (fun H locs hP hD hS => ?_)
                          refine W.eq (g2 := F0 m 192 ls []) rfl ?_
                          refine lv_iinc (v := (x1_7 + (1 : Int32))) (lv' := [(1, .int (x1_7 + (1 : Int32))), (0, .ref (ad 0)), (2, .int (mo_sort (Int32.toNatClampNeg x1_7)))]) hx hb d_Mo_settle_192 hl (k := 1) rfl rfl (by decide) rfl (fun ls hl => ?_)
                          refine lv_goto (tgt := 7) hx hb d_Mo_settle_195 (by decide) ?_
                          exact ih7 (x1_7 + (1 : Int32)) (upd mo_begin_7 (Int32.toNatClampNeg x1_7) mo_states_7) w9 w10 w11 _ _ _ hP hD hS (lv_sub hl [1, 0] rfl) hf
                      refine lv_icmp_eq (tgt := 175) hx hb d_Mo_settle_166 (by decide) (fun c13 => ?_) (fun c13 => ?_)
                      · have hf := xif_t c13 hf
                        exact J175  _ _ _ hP hD hS (lv_sub hl [0, 1, 2] rfl) hf
                      · have hf := xif_f c13 hf
                        refine lv_iload_n hx hb d_Mo_settle_169 rfl (lv_at hl 2 rfl) ?_
                        refine lv_bipush (v := 7) hx hb d_Mo_settle_170 (by decide) ?_
                        refine lv_icmp_ne (tgt := 192) hx hb d_Mo_settle_172 (by decide) (fun c14 => ?_) (fun c14 => ?_)
                        · have hf := xif_f c14 hf
                          refine lv_iinc (v := (x1_7 + (1 : Int32))) (lv' := [(1, .int (x1_7 + (1 : Int32))), (0, .ref (ad 0)), (2, .int (mo_sort (Int32.toNatClampNeg x1_7)))]) hx hb d_Mo_settle_192 hl (k := 1) rfl rfl (by decide) rfl (fun ls hl => ?_)
                          refine lv_goto (tgt := 7) hx hb d_Mo_settle_195 (by decide) ?_
                          exact ih7 (x1_7 + (1 : Int32)) (upd mo_begin_7 (Int32.toNatClampNeg x1_7) mo_states_7) mo_states_164 mo_kinds_164 mo_nodeOf_164 _ _ _ hP hD hS (lv_sub hl [1, 0] rfl) hf
                        · have hf := xif_t c14 hf
                          exact J175  _ _ _ hP hD hS (lv_sub hl [0, 1, 2] rfl) hf
                    have J157 : ∀  (H : Heap) (locs : List Loc) (ls : Array Slot), va_P (dC, dI) classes (wY ty ad mo_rows mo_columns mo_marks mo_letters mo_mate mo_made mo_nodes mo_sort mo_from mo_to (upd mo_begin_7 (Int32.toNatClampNeg x1_7) mo_states_7) mo_other mo_states_143 mo_kinds_143 mo_nodeOf_143 mo_steps mo_emissions mo_length mo_text mo_worked mo_values mo_hits mo_hitAt mo_hitLength mo_written mo_listState mo_listAt mo_listLength mo_stack) H → va_D A (wY ty ad mo_rows mo_columns mo_marks mo_letters mo_mate mo_made mo_nodes mo_sort mo_from mo_to (upd mo_begin_7 (Int32.toNatClampNeg x1_7) mo_states_7) mo_other mo_states_143 mo_kinds_143 mo_nodeOf_143 mo_steps mo_emissions mo_length mo_text mo_worked mo_values mo_hits mo_hitAt mo_hitLength mo_written mo_listState mo_listAt mo_listLength mo_stack) → va_S A s.heap H locs → lv_has ls 3 [(0, .ref (ad 0)), (1, .int x1_7), (2, .int (mo_sort (Int32.toNatClampNeg x1_7)))] → f_Mo_settle_J157 mo_sort x1_7 mo_begin_7 mo_states_7 (f_Mo_settle_L7 mo_nodes mo_sort (f_Mo_settle_K7_198 mo_nodes) n7) mo_states_143 mo_kinds_143 mo_nodeOf_143 = some (n_mo_begin, n_mo_states, n_mo_kinds, n_mo_nodeOf) → W p l e rm_Mo_settle s m (List.toArray [.ref (ad 0)]) below meth c H locs 0 0 Q (F0 m 157 ls []) := by
                      intro  H locs ls hP hD hS hl hf
                      rw [f_Mo_settle_J157] at hf
                      refine lv_aload_n hx hb d_Mo_settle_157 rfl (lv_at hl 0 rfl) ?_
                      refine lv_iload_n hx hb d_Mo_settle_158 rfl (lv_at hl 1 rfl) ?_
                      refine lv_bipush (v := 6) hx hb d_Mo_settle_159 (by decide) ?_
                      obtain ⟨w15, w16, w17, hc18, hf⟩ := ob3_inv hf
                      refine xk_v (xrunV (C := R_Mo) (As := [.int x1_7, .int (6 : Int32)]) (rest := []) ⟨hx, hb, hml, hown, hts⟩ (c_Mo_state l dC dI ty ad ta H.size mo_rows mo_columns mo_marks mo_letters mo_mate mo_made mo_nodes mo_sort mo_from mo_to (upd mo_begin_7 (Int32.toNatClampNeg x1_7) mo_states_7) mo_other mo_states_143 mo_kinds_143 mo_nodeOf_143 mo_steps mo_emissions mo_length mo_text mo_worked mo_values mo_hits mo_hitAt mo_hitLength mo_written mo_listState mo_listAt mo_listLength mo_stack x1_7 (6 : Int32) w15 w16 w17 hc18) z_Mo_101 ⟨⟨rfl, rfl⟩, by decide, by decide⟩ hK hP hD hN hS hA (va_recv hK hP (ci := 8) (q0 := 0) rfl rfl) rfl hl.1 rfl (Nat.le_of_ble_eq_true rfl) d_Mo_settle_161 ⟨Nat.zero_le _, Nat.zero_le _⟩) hS hD rfl hA (fun H locs hP hD hS => ?_)
                      refine W.eq (g2 := F0 m 164 ls []) rfl ?_
                      exact J164 w15 w16 w17 _ _ _ hP hD hS (lv_sub hl [0, 1, 2] rfl) hf
                    refine lv_if_eq (tgt := 157) hx hb d_Mo_settle_144 (by decide) (fun c19 => ?_) (fun c19 => ?_)
                    · have hf := xif_t c19 hf
                      exact J157  _ _ _ hP hD hS (lv_sub hl [0, 1, 2] rfl) hf
                    · have hf := xif_f c19 hf
                      refine lv_iload_n hx hb d_Mo_settle_147 rfl (lv_at hl 2 rfl) ?_
                      refine lv_iconst (v := 2) hx hb d_Mo_settle_148 (by decide) ?_
                      refine lv_icmp_eq (tgt := 157) hx hb d_Mo_settle_149 (by decide) (fun c20 => ?_) (fun c20 => ?_)
                      · have hf := xif_t c20 hf
                        exact J157  _ _ _ hP hD hS (lv_sub hl [0, 1, 2] rfl) hf
                      · have hf := xif_f c20 hf
                        refine lv_iload_n hx hb d_Mo_settle_152 rfl (lv_at hl 2 rfl) ?_
                        refine lv_iconst (v := 3) hx hb d_Mo_settle_153 (by decide) ?_
                        refine lv_icmp_ne (tgt := 164) hx hb d_Mo_settle_154 (by decide) (fun c21 => ?_) (fun c21 => ?_)
                        · have hf := xif_f c21 hf
                          exact J164 mo_states_143 mo_kinds_143 mo_nodeOf_143 _ _ _ hP hD hS (lv_sub hl [0, 1, 2] rfl) hf
                        · have hf := xif_t c21 hf
                          exact J157  _ _ _ hP hD hS (lv_sub hl [0, 1, 2] rfl) hf
                  have J137 : ∀  (H : Heap) (locs : List Loc) (ls : Array Slot), va_P (dC, dI) classes (wY ty ad mo_rows mo_columns mo_marks mo_letters mo_mate mo_made mo_nodes mo_sort mo_from mo_to (upd mo_begin_7 (Int32.toNatClampNeg x1_7) mo_states_7) mo_other mo_states_117 mo_kinds_117 mo_nodeOf_117 mo_steps mo_emissions mo_length mo_text mo_worked mo_values mo_hits mo_hitAt mo_hitLength mo_written mo_listState mo_listAt mo_listLength mo_stack) H → va_D A (wY ty ad mo_rows mo_columns mo_marks mo_letters mo_mate mo_made mo_nodes mo_sort mo_from mo_to (upd mo_begin_7 (Int32.toNatClampNeg x1_7) mo_states_7) mo_other mo_states_117 mo_kinds_117 mo_nodeOf_117 mo_steps mo_emissions mo_length mo_text mo_worked mo_values mo_hits mo_hitAt mo_hitLength mo_written mo_listState mo_listAt mo_listLength mo_stack) → va_S A s.heap H locs → lv_has ls 3 [(0, .ref (ad 0)), (1, .int x1_7), (2, .int (mo_sort (Int32.toNatClampNeg x1_7)))] → f_Mo_settle_J137 mo_sort x1_7 mo_begin_7 mo_states_7 (f_Mo_settle_L7 mo_nodes mo_sort (f_Mo_settle_K7_198 mo_nodes) n7) mo_states_117 mo_kinds_117 mo_nodeOf_117 = some (n_mo_begin, n_mo_states, n_mo_kinds, n_mo_nodeOf) → W p l e rm_Mo_settle s m (List.toArray [.ref (ad 0)]) below meth c H locs 0 0 Q (F0 m 137 ls []) := by
                    intro  H locs ls hP hD hS hl hf
                    rw [f_Mo_settle_J137] at hf
                    refine lv_aload_n hx hb d_Mo_settle_137 rfl (lv_at hl 0 rfl) ?_
                    refine lv_iload_n hx hb d_Mo_settle_138 rfl (lv_at hl 1 rfl) ?_
                    refine lv_iconst (v := 5) hx hb d_Mo_settle_139 (by decide) ?_
                    obtain ⟨w22, w23, w24, hc25, hf⟩ := ob3_inv hf
                    refine xk_v (xrunV (C := R_Mo) (As := [.int x1_7, .int (5 : Int32)]) (rest := []) ⟨hx, hb, hml, hown, hts⟩ (c_Mo_state l dC dI ty ad ta H.size mo_rows mo_columns mo_marks mo_letters mo_mate mo_made mo_nodes mo_sort mo_from mo_to (upd mo_begin_7 (Int32.toNatClampNeg x1_7) mo_states_7) mo_other mo_states_117 mo_kinds_117 mo_nodeOf_117 mo_steps mo_emissions mo_length mo_text mo_worked mo_values mo_hits mo_hitAt mo_hitLength mo_written mo_listState mo_listAt mo_listLength mo_stack x1_7 (5 : Int32) w22 w23 w24 hc25) z_Mo_101 ⟨⟨rfl, rfl⟩, by decide, by decide⟩ hK hP hD hN hS hA (va_recv hK hP (ci := 8) (q0 := 0) rfl rfl) rfl hl.1 rfl (Nat.le_of_ble_eq_true rfl) d_Mo_settle_140 ⟨Nat.zero_le _, Nat.zero_le _⟩) hS hD rfl hA (fun H locs hP hD hS => ?_)
                    refine W.eq (g2 := F0 m 143 ls []) rfl ?_
                    exact J143 w22 w23 w24 _ _ _ hP hD hS (lv_sub hl [0, 1, 2] rfl) hf
                  refine lv_if_eq (tgt := 137) hx hb d_Mo_settle_118 (by decide) (fun c26 => ?_) (fun c26 => ?_)
                  · have hf := xif_t c26 hf
                    exact J137  _ _ _ hP hD hS (lv_sub hl [0, 1, 2] rfl) hf
                  · have hf := xif_f c26 hf
                    refine lv_iload_n hx hb d_Mo_settle_121 rfl (lv_at hl 2 rfl) ?_
                    refine lv_iconst (v := 1) hx hb d_Mo_settle_122 (by decide) ?_
                    refine lv_icmp_eq (tgt := 137) hx hb d_Mo_settle_123 (by decide) (fun c27 => ?_) (fun c27 => ?_)
                    · have hf := xif_t c27 hf
                      exact J137  _ _ _ hP hD hS (lv_sub hl [0, 1, 2] rfl) hf
                    · have hf := xif_f c27 hf
                      refine lv_iload_n hx hb d_Mo_settle_126 rfl (lv_at hl 2 rfl) ?_
                      refine lv_iconst (v := 3) hx hb d_Mo_settle_127 (by decide) ?_
                      refine lv_icmp_eq (tgt := 137) hx hb d_Mo_settle_128 (by decide) (fun c28 => ?_) (fun c28 => ?_)
                      · have hf := xif_t c28 hf
                        exact J137  _ _ _ hP hD hS (lv_sub hl [0, 1, 2] rfl) hf
                      · have hf := xif_f c28 hf
                        refine lv_iload_n hx hb d_Mo_settle_131 rfl (lv_at hl 2 rfl) ?_
                        refine lv_bipush (v := 6) hx hb d_Mo_settle_132 (by decide) ?_
                        refine lv_icmp_ne (tgt := 143) hx hb d_Mo_settle_134 (by decide) (fun c29 => ?_) (fun c29 => ?_)
                        · have hf := xif_f c29 hf
                          exact J143 mo_states_117 mo_kinds_117 mo_nodeOf_117 _ _ _ hP hD hS (lv_sub hl [0, 1, 2] rfl) hf
                        · have hf := xif_t c29 hf
                          exact J137  _ _ _ hP hD hS (lv_sub hl [0, 1, 2] rfl) hf
                have J111 : ∀  (H : Heap) (locs : List Loc) (ls : Array Slot), va_P (dC, dI) classes (wY ty ad mo_rows mo_columns mo_marks mo_letters mo_mate mo_made mo_nodes mo_sort mo_from mo_to (upd mo_begin_7 (Int32.toNatClampNeg x1_7) mo_states_7) mo_other mo_states_96 mo_kinds_96 mo_nodeOf_96 mo_steps mo_emissions mo_length mo_text mo_worked mo_values mo_hits mo_hitAt mo_hitLength mo_written mo_listState mo_listAt mo_listLength mo_stack) H → va_D A (wY ty ad mo_rows mo_columns mo_marks mo_letters mo_mate mo_made mo_nodes mo_sort mo_from mo_to (upd mo_begin_7 (Int32.toNatClampNeg x1_7) mo_states_7) mo_other mo_states_96 mo_kinds_96 mo_nodeOf_96 mo_steps mo_emissions mo_length mo_text mo_worked mo_values mo_hits mo_hitAt mo_hitLength mo_written mo_listState mo_listAt mo_listLength mo_stack) → va_S A s.heap H locs → lv_has ls 3 [(0, .ref (ad 0)), (1, .int x1_7), (2, .int (mo_sort (Int32.toNatClampNeg x1_7)))] → f_Mo_settle_J111 mo_sort x1_7 mo_begin_7 mo_states_7 (f_Mo_settle_L7 mo_nodes mo_sort (f_Mo_settle_K7_198 mo_nodes) n7) mo_states_96 mo_kinds_96 mo_nodeOf_96 = some (n_mo_begin, n_mo_states, n_mo_kinds, n_mo_nodeOf) → W p l e rm_Mo_settle s m (List.toArray [.ref (ad 0)]) below meth c H locs 0 0 Q (F0 m 111 ls []) := by
                  intro  H locs ls hP hD hS hl hf
                  rw [f_Mo_settle_J111] at hf
                  refine lv_aload_n hx hb d_Mo_settle_111 rfl (lv_at hl 0 rfl) ?_
                  refine lv_iload_n hx hb d_Mo_settle_112 rfl (lv_at hl 1 rfl) ?_
                  refine lv_iconst (v := 4) hx hb d_Mo_settle_113 (by decide) ?_
                  obtain ⟨w30, w31, w32, hc33, hf⟩ := ob3_inv hf
                  refine xk_v (xrunV (C := R_Mo) (As := [.int x1_7, .int (4 : Int32)]) (rest := []) ⟨hx, hb, hml, hown, hts⟩ (c_Mo_state l dC dI ty ad ta H.size mo_rows mo_columns mo_marks mo_letters mo_mate mo_made mo_nodes mo_sort mo_from mo_to (upd mo_begin_7 (Int32.toNatClampNeg x1_7) mo_states_7) mo_other mo_states_96 mo_kinds_96 mo_nodeOf_96 mo_steps mo_emissions mo_length mo_text mo_worked mo_values mo_hits mo_hitAt mo_hitLength mo_written mo_listState mo_listAt mo_listLength mo_stack x1_7 (4 : Int32) w30 w31 w32 hc33) z_Mo_101 ⟨⟨rfl, rfl⟩, by decide, by decide⟩ hK hP hD hN hS hA (va_recv hK hP (ci := 8) (q0 := 0) rfl rfl) rfl hl.1 rfl (Nat.le_of_ble_eq_true rfl) d_Mo_settle_114 ⟨Nat.zero_le _, Nat.zero_le _⟩) hS hD rfl hA (fun H locs hP hD hS => ?_)
                  refine W.eq (g2 := F0 m 117 ls []) rfl ?_
                  exact J117 w30 w31 w32 _ _ _ hP hD hS (lv_sub hl [0, 1, 2] rfl) hf
                refine lv_icmp_eq (tgt := 111) hx hb d_Mo_settle_98 (by decide) (fun c34 => ?_) (fun c34 => ?_)
                · have hf := xif_t c34 hf
                  exact J111  _ _ _ hP hD hS (lv_sub hl [0, 1, 2] rfl) hf
                · have hf := xif_f c34 hf
                  refine lv_iload_n hx hb d_Mo_settle_101 rfl (lv_at hl 2 rfl) ?_
                  refine lv_iconst (v := 2) hx hb d_Mo_settle_102 (by decide) ?_
                  refine lv_icmp_eq (tgt := 111) hx hb d_Mo_settle_103 (by decide) (fun c35 => ?_) (fun c35 => ?_)
                  · have hf := xif_t c35 hf
                    exact J111  _ _ _ hP hD hS (lv_sub hl [0, 1, 2] rfl) hf
                  · have hf := xif_f c35 hf
                    refine lv_iload_n hx hb d_Mo_settle_106 rfl (lv_at hl 2 rfl) ?_
                    refine lv_iconst (v := 3) hx hb d_Mo_settle_107 (by decide) ?_
                    refine lv_icmp_ne (tgt := 117) hx hb d_Mo_settle_108 (by decide) (fun c36 => ?_) (fun c36 => ?_)
                    · have hf := xif_f c36 hf
                      exact J117 mo_states_96 mo_kinds_96 mo_nodeOf_96 _ _ _ hP hD hS (lv_sub hl [0, 1, 2] rfl) hf
                    · have hf := xif_t c36 hf
                      exact J111  _ _ _ hP hD hS (lv_sub hl [0, 1, 2] rfl) hf
              have J90 : ∀  (H : Heap) (locs : List Loc) (ls : Array Slot), va_P (dC, dI) classes (wY ty ad mo_rows mo_columns mo_marks mo_letters mo_mate mo_made mo_nodes mo_sort mo_from mo_to (upd mo_begin_7 (Int32.toNatClampNeg x1_7) mo_states_7) mo_other mo_states_80 mo_kinds_80 mo_nodeOf_80 mo_steps mo_emissions mo_length mo_text mo_worked mo_values mo_hits mo_hitAt mo_hitLength mo_written mo_listState mo_listAt mo_listLength mo_stack) H → va_D A (wY ty ad mo_rows mo_columns mo_marks mo_letters mo_mate mo_made mo_nodes mo_sort mo_from mo_to (upd mo_begin_7 (Int32.toNatClampNeg x1_7) mo_states_7) mo_other mo_states_80 mo_kinds_80 mo_nodeOf_80 mo_steps mo_emissions mo_length mo_text mo_worked mo_values mo_hits mo_hitAt mo_hitLength mo_written mo_listState mo_listAt mo_listLength mo_stack) → va_S A s.heap H locs → lv_has ls 3 [(0, .ref (ad 0)), (1, .int x1_7), (2, .int (mo_sort (Int32.toNatClampNeg x1_7)))] → f_Mo_settle_J90 mo_sort x1_7 mo_begin_7 mo_states_7 (f_Mo_settle_L7 mo_nodes mo_sort (f_Mo_settle_K7_198 mo_nodes) n7) mo_states_80 mo_kinds_80 mo_nodeOf_80 = some (n_mo_begin, n_mo_states, n_mo_kinds, n_mo_nodeOf) → W p l e rm_Mo_settle s m (List.toArray [.ref (ad 0)]) below meth c H locs 0 0 Q (F0 m 90 ls []) := by
                intro  H locs ls hP hD hS hl hf
                rw [f_Mo_settle_J90] at hf
                refine lv_aload_n hx hb d_Mo_settle_90 rfl (lv_at hl 0 rfl) ?_
                refine lv_iload_n hx hb d_Mo_settle_91 rfl (lv_at hl 1 rfl) ?_
                refine lv_iconst (v := 3) hx hb d_Mo_settle_92 (by decide) ?_
                obtain ⟨w37, w38, w39, hc40, hf⟩ := ob3_inv hf
                refine xk_v (xrunV (C := R_Mo) (As := [.int x1_7, .int (3 : Int32)]) (rest := []) ⟨hx, hb, hml, hown, hts⟩ (c_Mo_state l dC dI ty ad ta H.size mo_rows mo_columns mo_marks mo_letters mo_mate mo_made mo_nodes mo_sort mo_from mo_to (upd mo_begin_7 (Int32.toNatClampNeg x1_7) mo_states_7) mo_other mo_states_80 mo_kinds_80 mo_nodeOf_80 mo_steps mo_emissions mo_length mo_text mo_worked mo_values mo_hits mo_hitAt mo_hitLength mo_written mo_listState mo_listAt mo_listLength mo_stack x1_7 (3 : Int32) w37 w38 w39 hc40) z_Mo_101 ⟨⟨rfl, rfl⟩, by decide, by decide⟩ hK hP hD hN hS hA (va_recv hK hP (ci := 8) (q0 := 0) rfl rfl) rfl hl.1 rfl (Nat.le_of_ble_eq_true rfl) d_Mo_settle_93 ⟨Nat.zero_le _, Nat.zero_le _⟩) hS hD rfl hA (fun H locs hP hD hS => ?_)
                refine W.eq (g2 := F0 m 96 ls []) rfl ?_
                exact J96 w37 w38 w39 _ _ _ hP hD hS (lv_sub hl [0, 1, 2] rfl) hf
              refine lv_icmp_eq (tgt := 90) hx hb d_Mo_settle_82 (by decide) (fun c41 => ?_) (fun c41 => ?_)
              · have hf := xif_t c41 hf
                exact J90  _ _ _ hP hD hS (lv_sub hl [0, 1, 2] rfl) hf
              · have hf := xif_f c41 hf
                refine lv_iload_n hx hb d_Mo_settle_85 rfl (lv_at hl 2 rfl) ?_
                refine lv_iconst (v := 3) hx hb d_Mo_settle_86 (by decide) ?_
                refine lv_icmp_ne (tgt := 96) hx hb d_Mo_settle_87 (by decide) (fun c42 => ?_) (fun c42 => ?_)
                · have hf := xif_f c42 hf
                  exact J96 mo_states_80 mo_kinds_80 mo_nodeOf_80 _ _ _ hP hD hS (lv_sub hl [0, 1, 2] rfl) hf
                · have hf := xif_t c42 hf
                  exact J90  _ _ _ hP hD hS (lv_sub hl [0, 1, 2] rfl) hf
            have J74 : ∀  (H : Heap) (locs : List Loc) (ls : Array Slot), va_P (dC, dI) classes (wY ty ad mo_rows mo_columns mo_marks mo_letters mo_mate mo_made mo_nodes mo_sort mo_from mo_to (upd mo_begin_7 (Int32.toNatClampNeg x1_7) mo_states_7) mo_other mo_states_64 mo_kinds_64 mo_nodeOf_64 mo_steps mo_emissions mo_length mo_text mo_worked mo_values mo_hits mo_hitAt mo_hitLength mo_written mo_listState mo_listAt mo_listLength mo_stack) H → va_D A (wY ty ad mo_rows mo_columns mo_marks mo_letters mo_mate mo_made mo_nodes mo_sort mo_from mo_to (upd mo_begin_7 (Int32.toNatClampNeg x1_7) mo_states_7) mo_other mo_states_64 mo_kinds_64 mo_nodeOf_64 mo_steps mo_emissions mo_length mo_text mo_worked mo_values mo_hits mo_hitAt mo_hitLength mo_written mo_listState mo_listAt mo_listLength mo_stack) → va_S A s.heap H locs → lv_has ls 3 [(0, .ref (ad 0)), (1, .int x1_7), (2, .int (mo_sort (Int32.toNatClampNeg x1_7)))] → f_Mo_settle_J74 mo_sort x1_7 mo_begin_7 mo_states_7 (f_Mo_settle_L7 mo_nodes mo_sort (f_Mo_settle_K7_198 mo_nodes) n7) mo_states_64 mo_kinds_64 mo_nodeOf_64 = some (n_mo_begin, n_mo_states, n_mo_kinds, n_mo_nodeOf) → W p l e rm_Mo_settle s m (List.toArray [.ref (ad 0)]) below meth c H locs 0 0 Q (F0 m 74 ls []) := by
              intro  H locs ls hP hD hS hl hf
              rw [f_Mo_settle_J74] at hf
              refine lv_aload_n hx hb d_Mo_settle_74 rfl (lv_at hl 0 rfl) ?_
              refine lv_iload_n hx hb d_Mo_settle_75 rfl (lv_at hl 1 rfl) ?_
              refine lv_iconst (v := 2) hx hb d_Mo_settle_76 (by decide) ?_
              obtain ⟨w43, w44, w45, hc46, hf⟩ := ob3_inv hf
              refine xk_v (xrunV (C := R_Mo) (As := [.int x1_7, .int (2 : Int32)]) (rest := []) ⟨hx, hb, hml, hown, hts⟩ (c_Mo_state l dC dI ty ad ta H.size mo_rows mo_columns mo_marks mo_letters mo_mate mo_made mo_nodes mo_sort mo_from mo_to (upd mo_begin_7 (Int32.toNatClampNeg x1_7) mo_states_7) mo_other mo_states_64 mo_kinds_64 mo_nodeOf_64 mo_steps mo_emissions mo_length mo_text mo_worked mo_values mo_hits mo_hitAt mo_hitLength mo_written mo_listState mo_listAt mo_listLength mo_stack x1_7 (2 : Int32) w43 w44 w45 hc46) z_Mo_101 ⟨⟨rfl, rfl⟩, by decide, by decide⟩ hK hP hD hN hS hA (va_recv hK hP (ci := 8) (q0 := 0) rfl rfl) rfl hl.1 rfl (Nat.le_of_ble_eq_true rfl) d_Mo_settle_77 ⟨Nat.zero_le _, Nat.zero_le _⟩) hS hD rfl hA (fun H locs hP hD hS => ?_)
              refine W.eq (g2 := F0 m 80 ls []) rfl ?_
              exact J80 w43 w44 w45 _ _ _ hP hD hS (lv_sub hl [0, 1, 2] rfl) hf
            refine lv_icmp_eq (tgt := 74) hx hb d_Mo_settle_66 (by decide) (fun c47 => ?_) (fun c47 => ?_)
            · have hf := xif_t c47 hf
              exact J74  _ _ _ hP hD hS (lv_sub hl [0, 1, 2] rfl) hf
            · have hf := xif_f c47 hf
              refine lv_iload_n hx hb d_Mo_settle_69 rfl (lv_at hl 2 rfl) ?_
              refine lv_iconst (v := 3) hx hb d_Mo_settle_70 (by decide) ?_
              refine lv_icmp_ne (tgt := 80) hx hb d_Mo_settle_71 (by decide) (fun c48 => ?_) (fun c48 => ?_)
              · have hf := xif_f c48 hf
                exact J80 mo_states_64 mo_kinds_64 mo_nodeOf_64 _ _ _ hP hD hS (lv_sub hl [0, 1, 2] rfl) hf
              · have hf := xif_t c48 hf
                exact J74  _ _ _ hP hD hS (lv_sub hl [0, 1, 2] rfl) hf
          refine lv_icmp_ne (tgt := 64) hx hb d_Mo_settle_55 (by decide) (fun c49 => ?_) (fun c49 => ?_)
          · have hf := xif_f c49 hf
            exact J64 mo_states_53 mo_kinds_53 mo_nodeOf_53 _ _ _ hP hD hS (lv_sub hl [0, 1, 2] rfl) hf
          · have hf := xif_t c49 hf
            refine lv_aload_n hx hb d_Mo_settle_58 rfl (lv_at hl 0 rfl) ?_
            refine lv_iload_n hx hb d_Mo_settle_59 rfl (lv_at hl 1 rfl) ?_
            refine lv_iconst (v := 1) hx hb d_Mo_settle_60 (by decide) ?_
            obtain ⟨w50, w51, w52, hc53, hf⟩ := ob3_inv hf
            refine xk_v (xrunV (C := R_Mo) (As := [.int x1_7, .int (1 : Int32)]) (rest := []) ⟨hx, hb, hml, hown, hts⟩ (c_Mo_state l dC dI ty ad ta H.size mo_rows mo_columns mo_marks mo_letters mo_mate mo_made mo_nodes mo_sort mo_from mo_to (upd mo_begin_7 (Int32.toNatClampNeg x1_7) mo_states_7) mo_other mo_states_53 mo_kinds_53 mo_nodeOf_53 mo_steps mo_emissions mo_length mo_text mo_worked mo_values mo_hits mo_hitAt mo_hitLength mo_written mo_listState mo_listAt mo_listLength mo_stack x1_7 (1 : Int32) w50 w51 w52 hc53) z_Mo_101 ⟨⟨rfl, rfl⟩, by decide, by decide⟩ hK hP hD hN hS hA (va_recv hK hP (ci := 8) (q0 := 0) rfl rfl) rfl hl.1 rfl (Nat.le_of_ble_eq_true rfl) d_Mo_settle_61 ⟨Nat.zero_le _, Nat.zero_le _⟩) hS hD rfl hA (fun H locs hP hD hS => ?_)
            refine W.eq (g2 := F0 m 64 ls []) rfl ?_
            exact J64 w50 w51 w52 _ _ _ hP hD hS (lv_sub hl [0, 1, 2] rfl) hf
        have J47 : ∀  (H : Heap) (locs : List Loc) (ls : Array Slot), va_P (dC, dI) classes (wY ty ad mo_rows mo_columns mo_marks mo_letters mo_mate mo_made mo_nodes mo_sort mo_from mo_to (upd mo_begin_7 (Int32.toNatClampNeg x1_7) mo_states_7) mo_other mo_states_7 mo_kinds_7 mo_nodeOf_7 mo_steps mo_emissions mo_length mo_text mo_worked mo_values mo_hits mo_hitAt mo_hitLength mo_written mo_listState mo_listAt mo_listLength mo_stack) H → va_D A (wY ty ad mo_rows mo_columns mo_marks mo_letters mo_mate mo_made mo_nodes mo_sort mo_from mo_to (upd mo_begin_7 (Int32.toNatClampNeg x1_7) mo_states_7) mo_other mo_states_7 mo_kinds_7 mo_nodeOf_7 mo_steps mo_emissions mo_length mo_text mo_worked mo_values mo_hits mo_hitAt mo_hitLength mo_written mo_listState mo_listAt mo_listLength mo_stack) → va_S A s.heap H locs → lv_has ls 3 [(0, .ref (ad 0)), (1, .int x1_7), (2, .int (mo_sort (Int32.toNatClampNeg x1_7)))] → f_Mo_settle_J47 mo_sort x1_7 mo_begin_7 mo_states_7 mo_kinds_7 mo_nodeOf_7 (f_Mo_settle_L7 mo_nodes mo_sort (f_Mo_settle_K7_198 mo_nodes) n7) = some (n_mo_begin, n_mo_states, n_mo_kinds, n_mo_nodeOf) → W p l e rm_Mo_settle s m (List.toArray [.ref (ad 0)]) below meth c H locs 0 0 Q (F0 m 47 ls []) := by
          intro  H locs ls hP hD hS hl hf
          rw [f_Mo_settle_J47] at hf
          refine lv_aload_n hx hb d_Mo_settle_47 rfl (lv_at hl 0 rfl) ?_
          refine lv_iload_n hx hb d_Mo_settle_48 rfl (lv_at hl 1 rfl) ?_
          refine lv_iconst (v := 0) hx hb d_Mo_settle_49 (by decide) ?_
          obtain ⟨w54, w55, w56, hc57, hf⟩ := ob3_inv hf
          refine xk_v (xrunV (C := R_Mo) (As := [.int x1_7, .int (0 : Int32)]) (rest := []) ⟨hx, hb, hml, hown, hts⟩ (c_Mo_state l dC dI ty ad ta H.size mo_rows mo_columns mo_marks mo_letters mo_mate mo_made mo_nodes mo_sort mo_from mo_to (upd mo_begin_7 (Int32.toNatClampNeg x1_7) mo_states_7) mo_other mo_states_7 mo_kinds_7 mo_nodeOf_7 mo_steps mo_emissions mo_length mo_text mo_worked mo_values mo_hits mo_hitAt mo_hitLength mo_written mo_listState mo_listAt mo_listLength mo_stack x1_7 (0 : Int32) w54 w55 w56 hc57) z_Mo_101 ⟨⟨rfl, rfl⟩, by decide, by decide⟩ hK hP hD hN hS hA (va_recv hK hP (ci := 8) (q0 := 0) rfl rfl) rfl hl.1 rfl (Nat.le_of_ble_eq_true rfl) d_Mo_settle_50 ⟨Nat.zero_le _, Nat.zero_le _⟩) hS hD rfl hA (fun H locs hP hD hS => ?_)
          refine W.eq (g2 := F0 m 53 ls []) rfl ?_
          exact J53 w54 w55 w56 _ _ _ hP hD hS (lv_sub hl [0, 1, 2] rfl) hf
        refine lv_if_eq (tgt := 47) hx hb d_Mo_settle_33 (by decide) (fun c58 => ?_) (fun c58 => ?_)
        · have hf := xif_t c58 hf
          exact J47  _ _ _ hP hD hS (lv_sub hl [1, 2, 0] rfl) hf
        · have hf := xif_f c58 hf
          refine lv_iload_n hx hb d_Mo_settle_36 rfl (lv_at hl 0 rfl) ?_
          refine lv_iconst (v := 5) hx hb d_Mo_settle_37 (by decide) ?_
          refine lv_icmp_eq (tgt := 47) hx hb d_Mo_settle_38 (by decide) (fun c59 => ?_) (fun c59 => ?_)
          · have hf := xif_t c59 hf
            exact J47  _ _ _ hP hD hS (lv_sub hl [1, 2, 0] rfl) hf
          · have hf := xif_f c59 hf
            refine lv_iload_n hx hb d_Mo_settle_41 rfl (lv_at hl 0 rfl) ?_
            refine lv_bipush (v := 6) hx hb d_Mo_settle_42 (by decide) ?_
            refine lv_icmp_ne (tgt := 53) hx hb d_Mo_settle_44 (by decide) (fun c60 => ?_) (fun c60 => ?_)
            · have hf := xif_f c60 hf
              exact J53 mo_states_7 mo_kinds_7 mo_nodeOf_7 _ _ _ hP hD hS (lv_sub hl [1, 2, 0] rfl) hf
            · have hf := xif_t c60 hf
              exact J47  _ _ _ hP hD hS (lv_sub hl [1, 2, 0] rfl) hf
  exact L7 1000 (0 : Int32) mo_begin (0 : Int32) mo_kinds mo_nodeOf _ _ _ hP hD hS (lv_sub hl [1, 0] rfl) hf
def f_Mo_inserts (a1 : Int32) : Option (Int32) := if a1 = (5 : Int32) then (some ((1 : Int32))) else (if a1 = (6 : Int32) then (some ((1 : Int32))) else (some ((0 : Int32))))
set_option maxHeartbeats 4000000 in
set_option maxRecDepth 100000 in
theorem c_Mo_inserts (l : Launch) (dC : Nat → ClassId) (dI : Nat → Nat → Nat) (ty : Nat → ClassId) (ad : Nat → Nat) (ta : Nat → Nat) (sz : Nat) (mo_rows : Int32) (mo_columns : Int32) (mo_marks : (Nat → Int32)) (mo_letters : (Nat → Int32)) (mo_mate : (Nat → Int32)) (mo_made : Int32) (mo_nodes : Int32) (mo_sort : (Nat → Int32)) (mo_from : (Nat → Int32)) (mo_to : (Nat → Int32)) (mo_begin : (Nat → Int32)) (mo_other : (Nat → Int32)) (mo_states : Int32) (mo_kinds : (Nat → Int32)) (mo_nodeOf : (Nat → Int32)) (mo_steps : (Nat → Int32)) (mo_emissions : (Nat → Int32)) (mo_length : Int32) (mo_text : (Nat → Int32)) (mo_worked : Int32) (mo_values : (Nat → Int32)) (mo_hits : Int32) (mo_hitAt : (Nat → Int32)) (mo_hitLength : (Nat → Int32)) (mo_written : Int32) (mo_listState : (Nat → Int32)) (mo_listAt : (Nat → Int32)) (mo_listLength : (Nat → Int32)) (mo_stack : (Nat → Int32)) (a1 : Int32) (r0 : Int32) (hf : f_Mo_inserts a1 = some (r0)) : Met l y_Mo_inserts (.code y_Mo_inserts prog_10_method_11_code 1 (some .boolean) :: gw) rm_Mo_inserts (xPre ta (dC, dI) classes (tys3 ty) (wY ty ad mo_rows mo_columns mo_marks mo_letters mo_mate mo_made mo_nodes mo_sort mo_from mo_to mo_begin mo_other mo_states mo_kinds mo_nodeOf mo_steps mo_emissions mo_length mo_text mo_worked mo_values mo_hits mo_hitAt mo_hitLength mo_written mo_listState mo_listAt mo_listLength mo_stack) sz [.int a1]) (xQi (dC, dI) classes (wY ty ad mo_rows mo_columns mo_marks mo_letters mo_mate mo_made mo_nodes mo_sort mo_from mo_to mo_begin mo_other mo_states mo_kinds mo_nodeOf mo_steps mo_emissions mo_length mo_text mo_worked mo_values mo_hits mo_hitAt mo_hitLength mo_written mo_listState mo_listAt mo_listLength mo_stack) (wY ty ad mo_rows mo_columns mo_marks mo_letters mo_mate mo_made mo_nodes mo_sort mo_from mo_to mo_begin mo_other mo_states mo_kinds mo_nodeOf mo_steps mo_emissions mo_length mo_text mo_worked mo_values mo_hits mo_hitAt mo_hitLength mo_written mo_listState mo_listAt mo_listLength mo_stack) sz r0) 0 0 (va_A (wY ty ad mo_rows mo_columns mo_marks mo_letters mo_mate mo_made mo_nodes mo_sort mo_from mo_to mo_begin mo_other mo_states mo_kinds mo_nodeOf mo_steps mo_emissions mo_length mo_text mo_worked mo_values mo_hits mo_hitAt mo_hitLength mo_written mo_listState mo_listAt mo_listLength mo_stack) sz) := by
  refine xmet_z rfl (Nat.le_of_ble_eq_true rfl) ?_
  intro p e s m below meth c A ls Q hx hb hml hts hown hK hN hA hP hD hS hl hret
  replace hown : s.vm.findClass R_Mo = some m.cls := hown
  have hl : lv_has ls 1 [(0, .int a1)] := hl
  rw [f_Mo_inserts] at hf
  obtain ⟨H, eH⟩ : ∃ H : Heap, H = s.heap := ⟨_, rfl⟩
  obtain ⟨locs, eL⟩ : ∃ L : List Loc, L = [] := ⟨_, rfl⟩
  have hP : va_P (dC, dI) classes (wY ty ad mo_rows mo_columns mo_marks mo_letters mo_mate mo_made mo_nodes mo_sort mo_from mo_to mo_begin mo_other mo_states mo_kinds mo_nodeOf mo_steps mo_emissions mo_length mo_text mo_worked mo_values mo_hits mo_hitAt mo_hitLength mo_written mo_listState mo_listAt mo_listLength mo_stack) H := by rw [eH]; exact hP
  have hS : va_S A s.heap H locs := by rw [eH, eL]; exact hS
  rw [← eL]
  suffices hgoal : W p l e rm_Mo_inserts s m (List.toArray [.int a1]) below meth c H locs 0 0 Q (F0 m 0 ls []) by rw [eH] at hgoal; exact hgoal
  clear eH eL
  refine lv_iload_n hx hb d_Mo_inserts_0 rfl (lv_at hl 0 rfl) ?_
  refine lv_iconst (v := 5) hx hb d_Mo_inserts_1 (by decide) ?_
  refine lv_icmp_eq (tgt := 11) hx hb d_Mo_inserts_2 (by decide) (fun c1 => ?_) (fun c1 => ?_)
  · have hf := xif_t c1 hf
    refine lv_iconst (v := 1) hx hb d_Mo_inserts_11 (by decide) ?_
    refine lv_goto (tgt := 16) hx hb d_Mo_inserts_12 (by decide) ?_
    obtain rfl := os1 hf
    exact hret H locs _ _ _ d_Mo_inserts_16 rfl rfl hP hS
  · have hf := xif_f c1 hf
    refine lv_iload_n hx hb d_Mo_inserts_5 rfl (lv_at hl 0 rfl) ?_
    refine lv_bipush (v := 6) hx hb d_Mo_inserts_6 (by decide) ?_
    refine lv_icmp_ne (tgt := 15) hx hb d_Mo_inserts_8 (by decide) (fun c2 => ?_) (fun c2 => ?_)
    · have hf := xif_f c2 hf
      refine lv_iconst (v := 0) hx hb d_Mo_inserts_15 (by decide) ?_
      obtain rfl := os1 hf
      exact hret H locs _ _ _ d_Mo_inserts_16 rfl rfl hP hS
    · have hf := xif_t c2 hf
      refine lv_iconst (v := 1) hx hb d_Mo_inserts_11 (by decide) ?_
      refine lv_goto (tgt := 16) hx hb d_Mo_inserts_12 (by decide) ?_
      obtain rfl := os1 hf
      exact hret H locs _ _ _ d_Mo_inserts_16 rfl rfl hP hS
