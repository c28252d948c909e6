/-! 02.frame: the good words of the tables, pure words (guards, binds), contracts over one world of a system, calls over it -/
def gw : List Cond := lw_tbl.filter goodWord
theorem gw_mem (i : Nat) {w : Cond} (h : lw_tbl[i]? = some w) (hg : goodWord w = true) : w ∈ gw := List.mem_filter.mpr ⟨List.mem_of_getElem? h, hg⟩
theorem gw_good {c : Cond} (h : c ∈ gw) : GoodIn gw (c :: gw) := by
  have key : ∀ w ∈ gw, w ∈ gw ∧ ((w.onTables && w.keeps) = true ∨ ∃ ty, w = .arrayClass ty) := fun w hw => ⟨hw, good_of_word (List.mem_filter.mp hw).2⟩
  intro w hw
  rcases List.mem_cons.mp hw with rfl | hw
  · exact key _ h
  · exact key _ hw
/-- pure words -/
def xin (i : Int32) (n : Nat) : Bool := !(decide (i < 0)) && decide (i.toNatClampNeg < n)
theorem xin_of {i : Int32} {n : Nat} (h : xin i n = true) : vp_in i n := by
  unfold xin at h
  simp only [Bool.and_eq_true, Bool.not_eq_true', decide_eq_false_iff_not, decide_eq_true_eq] at h
  intro q
  rcases q with q | q
  · exact h.1 q
  · exact absurd h.2 (Nat.not_lt.mpr q)
def gd {α : Type} (b : Bool) (x : Option α) : Option α := match b with
  | true => x
  | false => none
theorem gd_inv {α : Type} {b : Bool} {x : Option α} {z : α} (h : gd b x = some z) : b = true ∧ x = some z := by
  cases b
  · cases h
  · exact ⟨rfl, h⟩
theorem gdi {α : Type} {i : Int32} {n : Nat} {x : Option α} {z : α} (h : gd (xin i n) x = some z) : vp_in i n ∧ x = some z := ⟨xin_of (gd_inv h).1, (gd_inv h).2⟩
def xbool (v : Int32) : Bool := v == 0 || v == 1
theorem xbool_nar {v : Int32} (h : xbool v = true) : narrow .boolean (.int v) = .int v := by
  unfold xbool at h
  simp only [Bool.or_eq_true, beq_iff_eq] at h
  rcases h with rfl | rfl <;> rfl
theorem xif_t {α : Type} {c : Prop} [Decidable c] {a b z : α} (hc : c) (h : (if c then a else b) = z) : a = z := by rw [if_pos hc] at h; exact h
theorem xif_f {α : Type} {c : Prop} [Decidable c] {a b z : α} (hc : ¬ c) (h : (if c then a else b) = z) : b = z := by rw [if_neg hc] at h; exact h
def ob1 {α γ : Type} (x : Option α) (k : α → Option γ) : Option γ := x.bind k
def ob2 {α β γ : Type} (x : Option (α × β)) (k : α → β → Option γ) : Option γ := x.bind fun q => k q.1 q.2
def ob3 {α β δ γ : Type} (x : Option (α × β × δ)) (k : α → β → δ → Option γ) : Option γ := x.bind fun q => k q.1 q.2.1 q.2.2
def ob4 {α β δ ε γ : Type} (x : Option (α × β × δ × ε)) (k : α → β → δ → ε → Option γ) : Option γ := x.bind fun q => k q.1 q.2.1 q.2.2.1 q.2.2.2
def ob5 {α β δ ε ζ γ : Type} (x : Option (α × β × δ × ε × ζ)) (k : α → β → δ → ε → ζ → Option γ) : Option γ := x.bind fun q => k q.1 q.2.1 q.2.2.1 q.2.2.2.1 q.2.2.2.2
def ob6 {α β δ ε ζ η γ : Type} (x : Option (α × β × δ × ε × ζ × η)) (k : α → β → δ → ε → ζ → η → Option γ) : Option γ := x.bind fun q => k q.1 q.2.1 q.2.2.1 q.2.2.2.1 q.2.2.2.2.1 q.2.2.2.2.2
def ob7 {α β δ ε ζ η θ γ : Type} (x : Option (α × β × δ × ε × ζ × η × θ)) (k : α → β → δ → ε → ζ → η → θ → Option γ) : Option γ := x.bind fun q => k q.1 q.2.1 q.2.2.1 q.2.2.2.1 q.2.2.2.2.1 q.2.2.2.2.2.1 q.2.2.2.2.2.2
def ob8 {α β δ ε ζ η θ ι γ : Type} (x : Option (α × β × δ × ε × ζ × η × θ × ι)) (k : α → β → δ → ε → ζ → η → θ → ι → Option γ) : Option γ := x.bind fun q => k q.1 q.2.1 q.2.2.1 q.2.2.2.1 q.2.2.2.2.1 q.2.2.2.2.2.1 q.2.2.2.2.2.2.1 q.2.2.2.2.2.2.2
theorem ob1_inv {α γ : Type} {x : Option α} {k : α → Option γ} {z : γ} (h : ob1 x k = some z) : ∃ a, x = some a ∧ k a = some z := by
  cases x with
  | none => cases h
  | some q => exact ⟨q, rfl, h⟩
theorem ob2_inv {α β γ : Type} {x : Option (α × β)} {k : α → β → Option γ} {z : γ} (h : ob2 x k = some z) : ∃ a b, x = some (a, b) ∧ k a b = some z := by
  cases x with
  | none => cases h
  | some q => exact ⟨q.1, q.2, rfl, h⟩
theorem ob3_inv {α β δ γ : Type} {x : Option (α × β × δ)} {k : α → β → δ → Option γ} {z : γ} (h : ob3 x k = some z) : ∃ a b c, x = some (a, b, c) ∧ k a b c = some z := by
  cases x with
  | none => cases h
  | some q => exact ⟨q.1, q.2.1, q.2.2, rfl, h⟩
theorem ob4_inv {α β δ ε γ : Type} {x : Option (α × β × δ × ε)} {k : α → β → δ → ε → Option γ} {z : γ} (h : ob4 x k = some z) : ∃ a b c d, x = some (a, b, c, d) ∧ k a b c d = some z := by
  cases x with
  | none => cases h
  | some q => exact ⟨q.1, q.2.1, q.2.2.1, q.2.2.2, rfl, h⟩
theorem ob5_inv {α β δ ε ζ γ : Type} {x : Option (α × β × δ × ε × ζ)} {k : α → β → δ → ε → ζ → Option γ} {z : γ} (h : ob5 x k = some z) : ∃ a b c d e, x = some (a, b, c, d, e) ∧ k a b c d e = some z := by
  cases x with
  | none => cases h
  | some q => exact ⟨q.1, q.2.1, q.2.2.1, q.2.2.2.1, q.2.2.2.2, rfl, h⟩
theorem ob6_inv {α β δ ε ζ η γ : Type} {x : Option (α × β × δ × ε × ζ × η)} {k : α → β → δ → ε → ζ → η → Option γ} {z : γ} (h : ob6 x k = some z) : ∃ a b c d e f, x = some (a, b, c, d, e, f) ∧ k a b c d e f = some z := by
  cases x with
  | none => cases h
  | some q => exact ⟨q.1, q.2.1, q.2.2.1, q.2.2.2.1, q.2.2.2.2.1, q.2.2.2.2.2, rfl, h⟩
theorem ob7_inv {α β δ ε ζ η θ γ : Type} {x : Option (α × β × δ × ε × ζ × η × θ)} {k : α → β → δ → ε → ζ → η → θ → Option γ} {z : γ} (h : ob7 x k = some z) : ∃ a b c d e f g, x = some (a, b, c, d, e, f, g) ∧ k a b c d e f g = some z := by
  cases x with
  | none => cases h
  | some q => exact ⟨q.1, q.2.1, q.2.2.1, q.2.2.2.1, q.2.2.2.2.1, q.2.2.2.2.2.1, q.2.2.2.2.2.2, rfl, h⟩
theorem ob8_inv {α β δ ε ζ η θ ι γ : Type} {x : Option (α × β × δ × ε × ζ × η × θ × ι)} {k : α → β → δ → ε → ζ → η → θ → ι → Option γ} {z : γ} (h : ob8 x k = some z) : ∃ a b c d e f g i, x = some (a, b, c, d, e, f, g, i) ∧ k a b c d e f g i = some z := by
  cases x with
  | none => cases h
  | some q => exact ⟨q.1, q.2.1, q.2.2.1, q.2.2.2.1, q.2.2.2.2.1, q.2.2.2.2.2.1, q.2.2.2.2.2.2.1, q.2.2.2.2.2.2.2, rfl, h⟩
theorem os1 {α : Type} {a a' : α} (h : some a = some a') : a = a' := Option.some.inj h
theorem os2 {α β : Type} {a a' : α} {b b' : β} (h : some (a, b) = some (a', b')) : a = a' ∧ b = b' := by cases h; exact ⟨rfl, rfl⟩
theorem os3 {α β δ : Type} {a a' : α} {b b' : β} {c c' : δ} (h : some (a, b, c) = some (a', b', c')) : a = a' ∧ b = b' ∧ c = c' := by cases h; exact ⟨rfl, rfl, rfl⟩
theorem os4 {α β δ ε : Type} {a a' : α} {b b' : β} {c c' : δ} {d d' : ε} (h : some (a, b, c, d) = some (a', b', c', d')) : a = a' ∧ b = b' ∧ c = c' ∧ d = d' := by cases h; exact ⟨rfl, rfl, rfl, rfl⟩
theorem os5 {α β δ ε ζ : Type} {a a' : α} {b b' : β} {c c' : δ} {d d' : ε} {e e' : ζ} (h : some (a, b, c, d, e) = some (a', b', c', d', e')) : a = a' ∧ b = b' ∧ c = c' ∧ d = d' ∧ e = e' := by cases h; exact ⟨rfl, rfl, rfl, rfl, rfl⟩
theorem os6 {α β δ ε ζ η : Type} {a a' : α} {b b' : β} {c c' : δ} {d d' : ε} {e e' : ζ} {f f' : η} (h : some (a, b, c, d, e, f) = some (a', b', c', d', e', f')) : a = a' ∧ b = b' ∧ c = c' ∧ d = d' ∧ e = e' ∧ f = f' := by cases h; exact ⟨rfl, rfl, rfl, rfl, rfl, rfl⟩
theorem os7 {α β δ ε ζ η θ : Type} {a a' : α} {b b' : β} {c c' : δ} {d d' : ε} {e e' : ζ} {f f' : η} {g g' : θ} (h : some (a, b, c, d, e, f, g) = some (a', b', c', d', e', f', g')) : a = a' ∧ b = b' ∧ c = c' ∧ d = d' ∧ e = e' ∧ f = f' ∧ g = g' := by cases h; exact ⟨rfl, rfl, rfl, rfl, rfl, rfl, rfl⟩
theorem os8 {α β δ ε ζ η θ ι : Type} {a a' : α} {b b' : β} {c c' : δ} {d d' : ε} {e e' : ζ} {f f' : η} {g g' : θ} {i i' : ι} (h : some (a, b, c, d, e, f, g, i) = some (a', b', c', d', e', f', g', i')) : a = a' ∧ b = b' ∧ c = c' ∧ d = d' ∧ e = e' ∧ f = f' ∧ g = g' ∧ i = i' := by cases h; exact ⟨rfl, rfl, rfl, rfl, rfl, rfl, rfl, rfl⟩
def ushr32 (x y : Int32) : Int32 := (x.toUInt32 >>> (y.toUInt32 &&& Int32.toUInt32 31)).toInt32
def chr16 (x : Int32) : Int32 := (x.toUInt32 % 65536).toInt32
def imax (x y : Int32) : Int32 := if x < y then y else x
def imin (x y : Int32) : Int32 := if y < x then y else x
/-- the nest mates' links that static calls use -/
def nstl : List (String × Nat × MethodName × String) := [("FoldedFamily", 35, ⟨"FoldedFamily$Text", "<init>", "()V"⟩, "FoldedFamily"), ("FoldedFamily", 63, ⟨"FoldedFamily$Hits", "<init>", "()V"⟩, "FoldedFamily"), ("FoldedFamily", 70, ⟨"FoldedFamily$Derivation", "<init>", "()V"⟩, "FoldedFamily"), ("FoldedFamily$Columns", 32, ⟨"FoldedFamily", "isLetter", "(I)Z"⟩, "FoldedFamily"), ("FoldedFamily$Grammar", 74, ⟨"FoldedFamily", "statesOf", "(I)[I"⟩, "FoldedFamily"), ("FoldedFamily$Grammar", 107, ⟨"FoldedFamily", "isInsert", "(I)Z"⟩, "FoldedFamily"), ("FoldedFamily$Grammar", 118, ⟨"FoldedFamily", "log", "(II)I"⟩, "FoldedFamily"), ("FoldedFamily$Grammar", 121, ⟨"FoldedFamily", "lettersOf", "(I)I"⟩, "FoldedFamily"), ("FoldedFamily$Values", 59, ⟨"FoldedFamily", "lettersBefore", "(I)I"⟩, "FoldedFamily"), ("FoldedFamily$Values", 62, ⟨"FoldedFamily", "lettersOf", "(I)I"⟩, "FoldedFamily"), ("FoldedFamily$Derivation", 63, ⟨"FoldedFamily", "lettersBefore", "(I)I"⟩, "FoldedFamily"), ("FoldedFamily$Derivation", 66, ⟨"FoldedFamily", "lettersOf", "(I)I"⟩, "FoldedFamily")]
def xN (U : State) : Prop := ∀ q ∈ nstl, va_Nw (.methodLinkNest q.1 q.2.1 q.2.2.1 q.2.2.2) U
theorem xN.warm {s U : State} (hW : s.WarmedH U.vm) (h : xN s) : xN U := fun q hq => va_Nw.warmM hW (h q hq)
theorem xN.same {u U : State} (e : u.vm = U.vm) (h : xN u) : xN U := fun q hq => va_Nw.same rfl e (h q hq)
/-- the class's static arrays, as the Statement gives them -/
def stN : Nat → String := fun j => match j with
  | 0 => "ROOT_STATES"
  | 1 => "LEFT_STATES"
  | 2 => "RIGHT_STATES"
  | 3 => "BOTH_STATES"
  | 4 => "FORK_STATES"
  | 5 => "FIRST_STATES"
  | 6 => "SECOND_STATES"
  | _ => "END_STATES"
def stW : Nat → List Int32 := fun j => match j with
  | 0 => [0, 5, 6]
  | 1 => [2, 4, 5]
  | 2 => [3, 4, 6]
  | 3 => [1, 2, 3, 4, 5, 6]
  | 4 => [7]
  | 5 => [0]
  | 6 => [0, 5]
  | _ => [8]
def stL (j : Nat) : Nat := (stW j).length
def stV (j k : Nat) : Int32 := (stW j).getD k 0
def stt (ta : Nat → Nat) (A : Nat → Prop) (U : State) (H : Heap) : Prop := ∀ j : Nat, va_Z "FoldedFamily" (stN j) "[I" (.ref (ta j)) A U H ∧ va_T .int (ta j) (stL j) (fun k => .int (stV j k)) A U H
theorem stt.moved {ta : Nat → Nat} {A : Nat → Prop} {u U : State} {H : Heap} (hvm : u.vm.Alike U.vm) (h : stt ta A u H) : stt ta A U H := fun j => ⟨(h j).1.moved hvm, (h j).2.moved hvm⟩
theorem stt.kept {ta : Nat → Nat} {A : Nat → Prop} {U : State} {H H1 : Heap} (h : stt ta A U H) (hq : ∀ a : Nat, a < H.size → ¬ A a → H1[a]? = H[a]?) : stt ta A U H1 := fun j => ⟨(h j).1.kept hq, (h j).2.kept hq⟩
theorem stt.narrow {ta : Nat → Nat} {A B : Nat → Prop} {U : State} {H : Heap} (h : stt ta A U H) (hAB : ∀ q, B q → A q) : stt ta B U H := fun j => ⟨(h j).1.narrow hAB, (h j).2.narrow hAB⟩
def xE (ta : Nat → Nat) (A : Nat → Prop) (U : State) (H : Heap) : Prop := xN U ∧ stt ta A U H
/-- a contract over one world w -/
def xPre (ta : Nat → Nat) (D : va_G) (cl : List vw_C) (tys : List (ClassId × FieldType)) (w : va_W) (sz : Nat) (av : List Value) : Array Value → State → Prop := va_Pc av (fun U => U.heap.size = sz ∧ va_P D cl w U.heap ∧ va_K D cl tys U ∧ va_D (fun _ => True) w ∧ xE ta (va_A w sz) U U.heap)
def xQi (D : va_G) (cl : List vw_C) (w w' : va_W) (sz : Nat) (r : Int32) : Array Value → State → Outcome → State → Prop := va_Qi (S := Unit) (fun r' _ => r' = r) (fun _ t => va_P D cl w' t.heap) (va_A w sz)
def xQl (D : va_G) (cl : List vw_C) (w w' : va_W) (sz : Nat) (r : Int64) : Array Value → State → Outcome → State → Prop := va_Ql (S := Unit) (fun r' _ => r' = r) (fun _ t => va_P D cl w' t.heap) (va_A w sz)
def xQv (D : va_G) (cl : List vw_C) (w w' : va_W) (sz : Nat) : Array Value → State → Outcome → State → Prop := va_Qv (S := Unit) (fun _ => True) (fun _ t => va_P D cl w' t.heap) (va_A w sz)
def xQr (D : va_G) (cl : List vw_C) (w w' : va_W) (sz : Nat) (r : Nat) : Array Value → State → Outcome → State → Prop := va_Qr (S := Unit) (fun _ => True) (fun _ a t => a = r ∧ va_P D cl w' t.heap) (va_A w sz)
theorem xPre_blind {ta : Nat → Nat} {D : va_G} {cl : List vw_C} {tys : List (ClassId × FieldType)} {w : va_W} {sz : Nat} {av : List Value} : FrameBlind (xPre ta D cl tys w sz av) := by
  intro a U g mk q
  obtain ⟨q0, q1, qP, qK, qD, qN⟩ := q
  exact ⟨q0, q1, qP, va_K.moved (u := U) (U := U.calling g mk a) (Vm.Alike.refl U.vm) qK, qD, xN.same (u := U) (U := U.calling g mk a) rfl qN.1, stt.moved (u := U) (U := U.calling g mk a) (Vm.Alike.refl U.vm) qN.2⟩
theorem xD_same {A : Nat → Prop} {w w' : va_W} (h : va_D A w) (e : w.map Prod.fst = w'.map Prod.fst) : va_D A w' := by
  have key : ∀ (k : Nat) (q : Nat × va_E), w'[k]? = some q → ∃ q', w[k]? = some q' ∧ q'.1 = q.1 := by
    intro k q hk
    have h1 : (w'.map Prod.fst)[k]? = some q.1 := by rw [List.getElem?_map, hk]; rfl
    rw [← e, List.getElem?_map] at h1
    cases hw : w[k]? with
    | none => rw [hw] at h1; cases h1
    | some q' => rw [hw] at h1; exact ⟨q', rfl, Option.some.inj h1⟩
  refine ⟨fun i j p q hp hq hpq => ?_, fun k q hk => ?_⟩
  · obtain ⟨p', h1, e1⟩ := key i p hp
    obtain ⟨q', h2, e2⟩ := key j q hq
    exact h.1 i j p' q' h1 h2 (by rw [e1, e2]; exact hpq)
  · obtain ⟨q', h1, e1⟩ := key k q hk
    rw [← e1]
    exact h.2 k q' h1
theorem xfree {A : Nat → Prop} {w : va_W} {H0 H : Heap} {locs : List Loc} (hD : va_D A w) (hS : va_S A H0 H locs) (hA : ∀ q, H0.size ≤ q → A q) : ∀ q, va_A w H.size q → A q := by
  intro q h
  rcases h with ⟨k, e, h⟩ | h
  · exact hD.2 k _ h
  · exact hA q (Nat.le_trans hS.1 h)
section XM
variable {l : Launch} {ta : Nat → Nat} {y : MethodName} {b : ByteArray} {nL : Nat} {rm : Room} {D : va_G} {cl : List vw_C} {tys : List (ClassId × FieldType)} {w w' : va_W} {sz : Nat} {av : List Value}
theorem xmet {ret : Option FieldType} {Qc : Array Value → State → Outcome → State → Prop} (hy : plainName y.cls = true) (hn : (lg_sl av).length ≤ nL)
    (body : ∀ (p : Program) (e : Env) (s : State) (m : MethodId) (below : List Frame) (meth : Method) (c : Code) (A : Nat → Prop) (ls : Array Slot), s.heap.size = sz → va_A w sz = A → p.tables.exec = Jvm.exec → c.code = b → meth.sig.returnType = ret → meth.locks = false → c.maxLocals = nL → (∀ u ∈ gw, u.before av.toArray s = true) → s.vm.findClass y.cls = some m.cls → va_K D cl tys s → xE ta A s s.heap → (∀ q : Nat, s.heap.size ≤ q → A q) → va_P D cl w s.heap → va_D A w → va_S A s.heap s.heap [] → lv_has ls nL (lv_args 0 av) →
      W p l e rm s m av.toArray below meth c s.heap [] 0 0 (MQ below Qc av.toArray s 0 0 A) (F0 m 0 ls [])) :
    Met l y (.code y b nL ret :: gw) rm (xPre ta D cl tys w sz av) Qc 0 0 (va_A w sz) := by
  refine Met.ofW (cc := b) (maxL := nL) (ret := ret) hy rfl ?_
  intro p e s m args below meth c s₁ B hml hv
  obtain ⟨rfl, hsz, hP, hK, hD0, hN⟩ := hv
  have hts : ∀ u ∈ gw, u.before av.toArray s = true := fun u hu => atoms_spec (ws := Cond.code y b nL ret :: gw) B.pre u (List.mem_cons_of_mem _ hu)
  have hown : s.vm.findClass y.cls = some m.cls := findClass_of_methodNamed B.named
  have hl := lv_entry av (n := nL) hn
  rw [lg_entry_eq]
  exact body p e s m below meth c _ _ hsz rfl B.exec B.bytes B.returns B.notSynchronized hml hts hown hK hN (fun q h => Or.inr (by rw [← hsz]; exact h)) hP (hD0.self (sz := sz)) va_S.rf hl
theorem xmet_i {r : Int32} (hy : plainName y.cls = true) (hn : (lg_sl av).length ≤ nL)
    (body : ∀ (p : Program) (e : Env) (s : State) (m : MethodId) (below : List Frame) (meth : Method) (c : Code) (A : Nat → Prop) (ls : Array Slot) (Q : State → Prop), p.tables.exec = Jvm.exec → c.code = b → c.maxLocals = nL → (∀ u ∈ gw, u.before av.toArray s = true) → s.vm.findClass y.cls = some m.cls → va_K D cl tys s → xE ta A s s.heap → (∀ q : Nat, s.heap.size ≤ q → A q) → va_P D cl w s.heap → va_D A w → va_S A s.heap s.heap [] → lv_has ls nL (lv_args 0 av) →
      (∀ (H : Heap) (locs : List Loc) (pc : Nat) (ls : Array Slot) (v : Int32), decode b pc = .ok (.ireturn, 1) → v = r → va_P D cl w' H → va_S A s.heap H locs → W p l e rm s m av.toArray below meth c H locs 0 0 Q (F0 m pc ls [.int v])) →
      W p l e rm s m av.toArray below meth c s.heap [] 0 0 Q (F0 m 0 ls [])) :
    Met l y (.code y b nL (some .int) :: gw) rm (xPre ta D cl tys w sz av) (xQi D cl w w' sz r) 0 0 (va_A w sz) := by
  refine xmet hy hn ?_
  intro p e s m below meth c A ls hsz hAe hx hb hr hlocks hml hts hown hK hN hA hP hD hS hl
  refine body p e s m below meth c A ls _ hx hb hml hts hown hK hN hA hP hD hS hl ?_
  intro H locs pc ls v hdg hv hP hS
  exact W.iret (v := v) hx hb hr (fun t ht hW => ⟨⟨v, (), rfl, hv, by show va_P D cl w' t.heap; rw [ht]; exact hP⟩, by rw [hAe]; exact hS.F ht⟩) hS.2.2 hdg hlocks
theorem xmet_z {r : Int32} (hy : plainName y.cls = true) (hn : (lg_sl av).length ≤ nL)
    (body : ∀ (p : Program) (e : Env) (s : State) (m : MethodId) (below : List Frame) (meth : Method) (c : Code) (A : Nat → Prop) (ls : Array Slot) (Q : State → Prop), p.tables.exec = Jvm.exec → c.code = b → c.maxLocals = nL → (∀ u ∈ gw, u.before av.toArray s = true) → s.vm.findClass y.cls = some m.cls → va_K D cl tys s → xE ta A s s.heap → (∀ q : Nat, s.heap.size ≤ q → A q) → va_P D cl w s.heap → va_D A w → va_S A s.heap s.heap [] → lv_has ls nL (lv_args 0 av) →
      (∀ (H : Heap) (locs : List Loc) (pc : Nat) (ls : Array Slot) (v : Int32), decode b pc = .ok (.ireturn, 1) → v = r → narrow .boolean (.int v) = .int v → va_P D cl w' H → va_S A s.heap H locs → W p l e rm s m av.toArray below meth c H locs 0 0 Q (F0 m pc ls [.int v])) →
      W p l e rm s m av.toArray below meth c s.heap [] 0 0 Q (F0 m 0 ls [])) :
    Met l y (.code y b nL (some .boolean) :: gw) rm (xPre ta D cl tys w sz av) (xQi D cl w w' sz r) 0 0 (va_A w sz) := by
  refine xmet hy hn ?_
  intro p e s m below meth c A ls hsz hAe hx hb hr hlocks hml hts hown hK hN hA hP hD hS hl
  refine body p e s m below meth c A ls _ hx hb hml hts hown hK hN hA hP hD hS hl ?_
  intro H locs pc ls v hdg hv hnar hP hS
  exact W.zret (v := v) hx hb hr hnar (fun t ht hW => ⟨⟨v, (), rfl, hv, by show va_P D cl w' t.heap; rw [ht]; exact hP⟩, by rw [hAe]; exact hS.F ht⟩) hS.2.2 hdg hlocks
theorem xmet_v (hy : plainName y.cls = true) (hn : (lg_sl av).length ≤ nL)
    (body : ∀ (p : Program) (e : Env) (s : State) (m : MethodId) (below : List Frame) (meth : Method) (c : Code) (A : Nat → Prop) (ls : Array Slot) (Q : State → Prop), p.tables.exec = Jvm.exec → c.code = b → c.maxLocals = nL → (∀ u ∈ gw, u.before av.toArray s = true) → s.vm.findClass y.cls = some m.cls → va_K D cl tys s → xE ta A s s.heap → (∀ q : Nat, s.heap.size ≤ q → A q) → va_P D cl w s.heap → va_D A w → va_S A s.heap s.heap [] → lv_has ls nL (lv_args 0 av) →
      (∀ (H : Heap) (locs : List Loc) (pc : Nat) (ls : Array Slot), decode b pc = .ok (.return_, 1) → va_P D cl w' H → va_S A s.heap H locs → W p l e rm s m av.toArray below meth c H locs 0 0 Q (F0 m pc ls [])) →
      W p l e rm s m av.toArray below meth c s.heap [] 0 0 Q (F0 m 0 ls [])) :
    Met l y (.code y b nL none :: gw) rm (xPre ta D cl tys w sz av) (xQv D cl w w' sz) 0 0 (va_A w sz) := by
  refine xmet hy hn ?_
  intro p e s m below meth c A ls hsz hAe hx hb hr hlocks hml hts hown hK hN hA hP hD hS hl
  refine body p e s m below meth c A ls _ hx hb hml hts hown hK hN hA hP hD hS hl ?_
  intro H locs pc ls hdg hP hS
  exact W.vret hx hb hr (fun t ht hW => ⟨⟨(), rfl, trivial, by show va_P D cl w' t.heap; rw [ht]; exact hP⟩, by rw [hAe]; exact hS.F ht⟩) hS.2.2 hdg hlocks
theorem xmet_r {r : Nat} {ty : FieldType} (hrt : (∃ n, ty = .object n) ∨ ∃ t, ty = .array t) (hy : plainName y.cls = true) (hn : (lg_sl av).length ≤ nL)
    (body : ∀ (p : Program) (e : Env) (s : State) (m : MethodId) (below : List Frame) (meth : Method) (c : Code) (A : Nat → Prop) (ls : Array Slot) (Q : State → Prop), p.tables.exec = Jvm.exec → c.code = b → c.maxLocals = nL → (∀ u ∈ gw, u.before av.toArray s = true) → s.vm.findClass y.cls = some m.cls → va_K D cl tys s → xE ta A s s.heap → (∀ q : Nat, s.heap.size ≤ q → A q) → va_P D cl w s.heap → va_D A w → va_S A s.heap s.heap [] → lv_has ls nL (lv_args 0 av) →
      (∀ (H : Heap) (locs : List Loc) (pc : Nat) (ls : Array Slot), decode b pc = .ok (.areturn, 1) → va_P D cl w' H → va_S A s.heap H locs → W p l e rm s m av.toArray below meth c H locs 0 0 Q (F0 m pc ls [.ref r])) →
      W p l e rm s m av.toArray below meth c s.heap [] 0 0 Q (F0 m 0 ls [])) :
    Met l y (.code y b nL (some ty) :: gw) rm (xPre ta D cl tys w sz av) (xQr D cl w w' sz r) 0 0 (va_A w sz) := by
  refine xmet hy hn ?_
  intro p e s m below meth c A ls hsz hAe hx hb hr hlocks hml hts hown hK hN hA hP hD hS hl
  refine body p e s m below meth c A ls _ hx hb hml hts hown hK hN hA hP hD hS hl ?_
  intro H locs pc ls hdg hP hS
  exact W.aret (v := .ref r) hx hb hr hrt (Or.inr ⟨_, rfl⟩) (fun t ht hW => ⟨⟨(), r, rfl, trivial, rfl, by show va_P D cl w' t.heap; rw [ht]; exact hP⟩, by rw [hAe]; exact hS.F ht⟩) hS.2.2 hdg hlocks
theorem xmet_l {r : Int64} (hy : plainName y.cls = true) (hn : (lg_sl av).length ≤ nL)
    (body : ∀ (p : Program) (e : Env) (s : State) (m : MethodId) (below : List Frame) (meth : Method) (c : Code) (A : Nat → Prop) (ls : Array Slot) (Q : State → Prop), p.tables.exec = Jvm.exec → c.code = b → c.maxLocals = nL → (∀ u ∈ gw, u.before av.toArray s = true) → s.vm.findClass y.cls = some m.cls → va_K D cl tys s → xE ta A s s.heap → (∀ q : Nat, s.heap.size ≤ q → A q) → va_P D cl w s.heap → va_D A w → va_S A s.heap s.heap [] → lv_has ls nL (lv_args 0 av) →
      (∀ (H : Heap) (locs : List Loc) (pc : Nat) (ls : Array Slot) (v : Int64), decode b pc = .ok (.lreturn, 1) → v = r → va_P D cl w' H → va_S A s.heap H locs → W p l e rm s m av.toArray below meth c H locs 0 0 Q (F0 m pc ls [.long v])) →
      W p l e rm s m av.toArray below meth c s.heap [] 0 0 Q (F0 m 0 ls [])) :
    Met l y (.code y b nL (some .long) :: gw) rm (xPre ta D cl tys w sz av) (xQl D cl w w' sz r) 0 0 (va_A w sz) := by
  refine xmet hy hn ?_
  intro p e s m below meth c A ls hsz hAe hx hb hr hlocks hml hts hown hK hN hA hP hD hS hl
  refine body p e s m below meth c A ls _ hx hb hml hts hown hK hN hA hP hD hS hl ?_
  intro H locs pc ls v hdg hv hP hS
  exact W.lret (v := v) hx hb hr (fun t ht hW => ⟨⟨v, (), rfl, hv, by show va_P D cl w' t.heap; rw [ht]; exact hP⟩, by rw [hAe]; exact hS.F ht⟩) hS.2.2 hdg hlocks
end XM
/-- what a call's site needs of the tables -/
def xV (own : String) (index : Nat) (C : String) (y : MethodName) (bytes : ByteArray) (maxL : Nat) (ret : Option FieldType) (n : Nat) : Prop := Cond.code y bytes maxL ret ∈ gw ∧ Cond.methodLink own index y ∈ gw ∧ Cond.instanceMethod y ∈ gw ∧ Cond.selects C y y ∈ gw ∧ Cond.initialized y.cls ∈ gw ∧ (y.cls ≠ "java/lang/invoke/MethodHandle" ∧ y.cls ≠ "java/lang/invoke/VarHandle" ∧ (parseMethodDescriptor y.desc).map (fun d => d.parameters.length) = some n)
def xSt (own : String) (index : Nat) (y : MethodName) (bytes : ByteArray) (maxL : Nat) (ret : Option FieldType) (n : Nat) : Prop := Cond.code y bytes maxL ret ∈ gw ∧ Cond.methodLink own index y ∈ gw ∧ Cond.static y ∈ gw ∧ Cond.initialized y.cls ∈ gw ∧ (y.cls ≠ "java/lang/invoke/MethodHandle" ∧ y.cls ≠ "java/lang/invoke/VarHandle" ∧ (parseMethodDescriptor y.desc).map (fun d => d.parameters.length) = some n)
def xSN (own : String) (index : Nat) (host : String) (y : MethodName) (bytes : ByteArray) (maxL : Nat) (ret : Option FieldType) (n : Nat) : Prop := Cond.code y bytes maxL ret ∈ gw ∧ (own, index, y, host) ∈ nstl ∧ Cond.static y ∈ gw ∧ Cond.initialized y.cls ∈ gw ∧ (y.cls ≠ "java/lang/invoke/MethodHandle" ∧ y.cls ≠ "java/lang/invoke/VarHandle" ∧ (parseMethodDescriptor y.desc).map (fun d => d.parameters.length) = some n)
section XC
variable {p : Program} {l : Launch} {ta : Nat → Nat} {e : Env} {R : Room} {s : State} {m : MethodId} {args : Array Value} {below : List Frame} {meth : Method} {c : Code} {H : Heap} {locs : List Loc} {cells slots : Nat} {Q : State → Prop} {pc : Nat} {ls : Array Slot} {st0 rest : List Value} {cc : ByteArray} {nL : Nat} {own : String} {index n maxL : Nat} {y : MethodName} {bytes : ByteArray} {ret : Option FieldType} {rm : Room} {D : va_G} {cl : List vw_C} {tys : List (ClassId × FieldType)} {w w' : va_W} {As : List Value} {bA : Nat} {A : Nat → Prop} {H0 : Heap}
theorem xrunV {C : String} {Qc : Array Value → State → Outcome → State → Prop} (S : CallFix p m c cc nL s args gw own) (hM : Met l y (.code y bytes maxL ret :: gw) rm (xPre ta D cl tys w H.size (.ref bA :: As)) Qc 0 0 (va_A w H.size)) (Z : xV own index C y bytes maxL ret n) (hR : (rm.cells = 0 ∧ rm.slots = 0) ∧ rm.frames + 1 ≤ R.frames ∧ 8 + (maxL + 11) + rm.locals ≤ R.locals) (hK : va_K D cl tys s) (hP : va_P D cl w H) (hD : va_D A w) (hN : xE ta A s H0) (hS : va_S A H0 H locs) (hA : ∀ q, H0.size ≤ q → A q)
    (hrc : ∃ cell : Cell, H[bA]? = some cell ∧ cell.vm.isStatics = false ∧ s.vm.findClass C = some cell.cls) (hn : As.length = n) (hsize : ls.size = nL) (hstack : st0 = As.reverse ++ .ref bA :: rest) (hW : (rest.map fun v => v.category).sum ≤ 8) (hdg : decode cc pc = .ok (.invokevirtual index, 3)) (hf : cells ≤ R.cells ∧ slots ≤ R.slots) :
    va_Run p l e R s m args below meth c H locs cells slots 0 0 (F0 m pc ls st0) rest (Qc (Value.ref bA :: As).toArray) (va_A w H.size) := by
  obtain ⟨z1, z2, z3, z4, z5, z6⟩ := Z
  have ht := S.2.2.2.2
  refine va_runV S hM ⟨callB_of n ht (gw_good z1) rfl hR.1.1 hR.1.2 (ht _ z5) (ht _ z2) z6 hR.2, ht _ z3, ht _ z4⟩ ⟨xPre_blind, hrc, fun U hU hW => ⟨rfl, by rw [hU], by rw [hU]; exact hP, va_K.moved hW.alike hK, hD.weaken (fun _ _ _ _ => trivial), xN.warm hW hN.1, by rw [hU]; exact ((hN.2.kept hS.2.1).narrow (xfree hD hS hA)).moved hW.alike⟩⟩ rfl hn hsize hstack (lv_room hW) hdg hf
theorem xrunS {Qc : Array Value → State → Outcome → State → Prop} (S : CallFix p m c cc nL s args gw own) (hM : Met l y (.code y bytes maxL ret :: gw) rm (xPre ta D cl tys w H.size As) Qc 0 0 (va_A w H.size)) (Z : xSt own index y bytes maxL ret n) (hR : (rm.cells = 0 ∧ rm.slots = 0) ∧ rm.frames + 1 ≤ R.frames ∧ 8 + (maxL + 11) + rm.locals ≤ R.locals) (hK : va_K D cl tys s) (hP : va_P D cl w H) (hD : va_D A w) (hN : xE ta A s H0) (hS : va_S A H0 H locs) (hA : ∀ q, H0.size ≤ q → A q)
    (hn : As.length = n) (hsize : ls.size = nL) (hstack : st0 = As.reverse ++ rest) (hW : (rest.map fun v => v.category).sum ≤ 8) (hdg : decode cc pc = .ok (.invokestatic index, 3)) (hf : cells ≤ R.cells ∧ slots ≤ R.slots) :
    va_Run p l e R s m args below meth c H locs cells slots 0 0 (F0 m pc ls st0) rest (Qc As.toArray) (va_A w H.size) := by
  obtain ⟨z1, z2, z3, z5, z6⟩ := Z
  have ht := S.2.2.2.2
  refine va_runS S hM ⟨callB_of n ht (gw_good z1) rfl hR.1.1 hR.1.2 (ht _ z5) (ht _ z2) z6 hR.2, ht _ z3⟩ ⟨xPre_blind, fun U hU hW => ⟨rfl, by rw [hU], by rw [hU]; exact hP, va_K.moved hW.alike hK, hD.weaken (fun _ _ _ _ => trivial), xN.warm hW hN.1, by rw [hU]; exact ((hN.2.kept hS.2.1).narrow (xfree hD hS hA)).moved hW.alike⟩⟩ rfl hn hsize hstack (lv_room hW) hdg hf
theorem xrunSN {host : String} {Qc : Array Value → State → Outcome → State → Prop} (S : CallFix p m c cc nL s args gw own) (hM : Met l y (.code y bytes maxL ret :: gw) rm (xPre ta D cl tys w H.size As) Qc 0 0 (va_A w H.size)) (Z : xSN own index host y bytes maxL ret n) (hR : (rm.cells = 0 ∧ rm.slots = 0) ∧ rm.frames + 1 ≤ R.frames ∧ 8 + (maxL + 11) + rm.locals ≤ R.locals) (hK : va_K D cl tys s) (hP : va_P D cl w H) (hD : va_D A w) (hN : xE ta A s H0) (hS : va_S A H0 H locs) (hA : ∀ q, H0.size ≤ q → A q)
    (hn : As.length = n) (hsize : ls.size = nL) (hstack : st0 = As.reverse ++ rest) (hW : (rest.map fun v => v.category).sum ≤ 8) (hdg : decode cc pc = .ok (.invokestatic index, 3)) (hf : cells ≤ R.cells ∧ slots ≤ R.slots) :
    va_Run p l e R s m args below meth c H locs cells slots 0 0 (F0 m pc ls st0) rest (Qc As.toArray) (va_A w H.size) := by
  obtain ⟨z1, z2, z3, z5, z6⟩ := Z
  have ht := S.2.2.2.2
  refine va_runSN S hM ⟨va_cnB n ht (gw_good z1) rfl hR.1.1 hR.1.2 (hN.1 _ z2) (ht _ z5) z6 hR.2, ht _ z3, trivial⟩ ⟨xPre_blind, fun U hU hW => ⟨rfl, by rw [hU], by rw [hU]; exact hP, va_K.moved hW.alike hK, hD.weaken (fun _ _ _ _ => trivial), xN.warm hW hN.1, by rw [hU]; exact ((hN.2.kept hS.2.1).narrow (xfree hD hS hA)).moved hW.alike⟩⟩ rfl hn hsize hstack (lv_room hW) hdg hf
theorem xk_i {r : Int32} {a : Array Value} (hr : va_Run p l e R s m args below meth c H locs cells slots 0 0 (F0 m pc ls st0) rest (xQi D cl w w' H.size r a) (va_A w H.size)) (hS : va_S A H0 H locs) (hD : va_D A w) (same : w.map Prod.fst = w'.map Prod.fst) (hA : ∀ q, H0.size ≤ q → A q)
    (kk : ∀ (H1 : Heap) (locs1 : List Loc), va_P D cl w' H1 → va_D A w' → va_S A H0 H1 locs1 → W p l e R s m args below meth c H1 locs1 cells slots Q (F0 m (pc + 3) ls (.int r :: rest))) : W p l e R s m args below meth c H locs cells slots Q (F0 m pc ls st0) := by
  have hF := xfree hD hS hA
  refine va_calli hr hS (fun q _ h => hF q h) hF (fun r' u t H1 locs1 ht hvm hw hB hz1 hk1 hS1 => ?_)
  rw [hw]
  exact kk H1 locs1 (by rw [← ht]; exact hB) (xD_same hD same) hS1
theorem xk_l {r : Int64} {a : Array Value} (hr : va_Run p l e R s m args below meth c H locs cells slots 0 0 (F0 m pc ls st0) rest (xQl D cl w w' H.size r a) (va_A w H.size)) (hS : va_S A H0 H locs) (hD : va_D A w) (same : w.map Prod.fst = w'.map Prod.fst) (hA : ∀ q, H0.size ≤ q → A q)
    (kk : ∀ (H1 : Heap) (locs1 : List Loc), va_P D cl w' H1 → va_D A w' → va_S A H0 H1 locs1 → W p l e R s m args below meth c H1 locs1 cells slots Q (F0 m (pc + 3) ls (.long r :: rest))) : W p l e R s m args below meth c H locs cells slots Q (F0 m pc ls st0) := by
  have hF := xfree hD hS hA
  refine va_calll hr hS (fun q _ h => hF q h) hF (fun r' u t H1 locs1 ht hvm hw hB hz1 hk1 hS1 => ?_)
  rw [hw]
  exact kk H1 locs1 (by rw [← ht]; exact hB) (xD_same hD same) hS1
theorem xk_v {a : Array Value} (hr : va_Run p l e R s m args below meth c H locs cells slots 0 0 (F0 m pc ls st0) rest (xQv D cl w w' H.size a) (va_A w H.size)) (hS : va_S A H0 H locs) (hD : va_D A w) (same : w.map Prod.fst = w'.map Prod.fst) (hA : ∀ q, H0.size ≤ q → A q)
    (kk : ∀ (H1 : Heap) (locs1 : List Loc), va_P D cl w' H1 → va_D A w' → va_S A H0 H1 locs1 → W p l e R s m args below meth c H1 locs1 cells slots Q (F0 m (pc + 3) ls rest)) : W p l e R s m args below meth c H locs cells slots Q (F0 m pc ls st0) := by
  have hF := xfree hD hS hA
  refine va_callv hr hS (fun q _ h => hF q h) hF (fun u t H1 locs1 ht hvm hw hB hz1 hk1 hS1 => ?_)
  exact kk H1 locs1 (by rw [← ht]; exact hB) (xD_same hD same) hS1
theorem xk_r {r : Nat} {a : Array Value} (hr : va_Run p l e R s m args below meth c H locs cells slots 0 0 (F0 m pc ls st0) rest (xQr D cl w w' H.size r a) (va_A w H.size)) (hS : va_S A H0 H locs) (hD : va_D A w) (same : w.map Prod.fst = w'.map Prod.fst) (hA : ∀ q, H0.size ≤ q → A q)
    (kk : ∀ (H1 : Heap) (locs1 : List Loc), va_P D cl w' H1 → va_D A w' → va_S A H0 H1 locs1 → W p l e R s m args below meth c H1 locs1 cells slots Q (F0 m (pc + 3) ls (.ref r :: rest))) : W p l e R s m args below meth c H locs cells slots Q (F0 m pc ls st0) := by
  have hF := xfree hD hS hA
  refine va_callr hr hS (fun q _ h => hF q h) hF (fun u ra t H1 locs1 ht hvm hw hB hz1 hk1 hS1 => ?_)
  rw [hB.1]
  exact kk H1 locs1 (by rw [← ht]; exact hB.2) (xD_same hD same) hS1
end XC
