/-! 03.names: classes, fields, worlds, methods (written by wip/gen) -/
abbrev R_Fa : String := "FoldedFamily"
def F_Fa : u_T := fun k => match k with
  | 0 => ("FoldedFamily", "columns", "LFoldedFamily$Columns;", true)
  | 1 => ("FoldedFamily", "tree", "LFoldedFamily$Tree;", true)
  | 2 => ("FoldedFamily", "grammar", "LFoldedFamily$Grammar;", true)
  | 3 => ("FoldedFamily", "text", "LFoldedFamily$Text;", true)
  | 4 => ("FoldedFamily", "values", "LFoldedFamily$Values;", true)
  | 5 => ("FoldedFamily", "hits", "LFoldedFamily$Hits;", true)
  | _ => ("FoldedFamily", "derivation", "LFoldedFamily$Derivation;", true)
def t_Fa : Nat → FieldType := fun k => match k with
  | 0 => .object "FoldedFamily$Columns"
  | 1 => .object "FoldedFamily$Tree"
  | 2 => .object "FoldedFamily$Grammar"
  | 3 => .object "FoldedFamily$Text"
  | 4 => .object "FoldedFamily$Values"
  | 5 => .object "FoldedFamily$Hits"
  | _ => .object "FoldedFamily$Derivation"
theorem n_Fa : ∀ a, a < 7 → ∀ b, b < 7 → a ≠ b → (F_Fa a).2.1 ≠ (F_Fa b).2.1 := by decide +kernel
theorem t_Fa_ok : ∀ k, k < 7 → parseFieldDescriptor (F_Fa k).2.2.1 = some (t_Fa k) := by decide +kernel
theorem iw_Fa : ∀ w ∈ u_ws R_Fa F_Fa 7, w ∈ gw := by decide +kernel
abbrev R_Co : String := "FoldedFamily$Columns"
def F_Co : u_T := fun k => match k with
  | 0 => ("FoldedFamily$Columns", "rows", "I", true)
  | 1 => ("FoldedFamily$Columns", "marks", "[C", true)
  | 2 => ("FoldedFamily$Columns", "rowSets", "[I", true)
  | 3 => ("FoldedFamily$Columns", "partners", "[I", true)
  | 4 => ("FoldedFamily$Columns", "open", "[I", true)
  | _ => ("FoldedFamily$Columns", "count", "I", false)
def t_Co : Nat → FieldType := fun k => match k with
  | 0 => .int
  | 1 => .array .char
  | 2 => .array .int
  | 3 => .array .int
  | 4 => .array .int
  | _ => .int
theorem n_Co : ∀ a, a < 6 → ∀ b, b < 6 → a ≠ b → (F_Co a).2.1 ≠ (F_Co b).2.1 := by decide +kernel
theorem t_Co_ok : ∀ k, k < 6 → parseFieldDescriptor (F_Co k).2.2.1 = some (t_Co k) := by decide +kernel
theorem iw_Co : ∀ w ∈ u_ws R_Co F_Co 6, w ∈ gw := by decide +kernel
abbrev R_Tr : String := "FoldedFamily$Tree"
def F_Tr : u_T := fun k => match k with
  | 0 => ("FoldedFamily$Tree", "columns", "LFoldedFamily$Columns;", true)
  | 1 => ("FoldedFamily$Tree", "kinds", "[I", true)
  | 2 => ("FoldedFamily$Tree", "lefts", "[I", true)
  | 3 => ("FoldedFamily$Tree", "rights", "[I", true)
  | 4 => ("FoldedFamily$Tree", "seconds", "[I", true)
  | _ => ("FoldedFamily$Tree", "size", "I", false)
def t_Tr : Nat → FieldType := fun k => match k with
  | 0 => .object "FoldedFamily$Columns"
  | 1 => .array .int
  | 2 => .array .int
  | 3 => .array .int
  | 4 => .array .int
  | _ => .int
theorem n_Tr : ∀ a, a < 6 → ∀ b, b < 6 → a ≠ b → (F_Tr a).2.1 ≠ (F_Tr b).2.1 := by decide +kernel
theorem t_Tr_ok : ∀ k, k < 6 → parseFieldDescriptor (F_Tr k).2.2.1 = some (t_Tr k) := by decide +kernel
theorem iw_Tr : ∀ w ∈ u_ws R_Tr F_Tr 6, w ∈ gw := by decide +kernel
abbrev R_Gr : String := "FoldedFamily$Grammar"
def F_Gr : u_T := fun k => match k with
  | 0 => ("FoldedFamily$Grammar", "columns", "LFoldedFamily$Columns;", true)
  | 1 => ("FoldedFamily$Grammar", "tree", "LFoldedFamily$Tree;", true)
  | 2 => ("FoldedFamily$Grammar", "kinds", "[I", true)
  | 3 => ("FoldedFamily$Grammar", "nodes", "[I", true)
  | 4 => ("FoldedFamily$Grammar", "rowSets", "[I", true)
  | 5 => ("FoldedFamily$Grammar", "firstStates", "[I", true)
  | 6 => ("FoldedFamily$Grammar", "targetCounts", "[I", true)
  | 7 => ("FoldedFamily$Grammar", "targets", "[I", true)
  | 8 => ("FoldedFamily$Grammar", "stepScores", "[I", true)
  | 9 => ("FoldedFamily$Grammar", "letterScores", "[I", true)
  | _ => ("FoldedFamily$Grammar", "size", "I", false)
def t_Gr : Nat → FieldType := fun k => match k with
  | 0 => .object "FoldedFamily$Columns"
  | 1 => .object "FoldedFamily$Tree"
  | 2 => .array .int
  | 3 => .array .int
  | 4 => .array .int
  | 5 => .array .int
  | 6 => .array .int
  | 7 => .array .int
  | 8 => .array .int
  | 9 => .array .int
  | _ => .int
theorem n_Gr : ∀ a, a < 11 → ∀ b, b < 11 → a ≠ b → (F_Gr a).2.1 ≠ (F_Gr b).2.1 := by decide +kernel
theorem t_Gr_ok : ∀ k, k < 11 → parseFieldDescriptor (F_Gr k).2.2.1 = some (t_Gr k) := by decide +kernel
theorem iw_Gr : ∀ w ∈ u_ws R_Gr F_Gr 11, w ∈ gw := by decide +kernel
abbrev R_Tx : String := "FoldedFamily$Text"
def F_Tx : u_T := fun k => match k with
  | 0 => ("FoldedFamily$Text", "letters", "[I", true)
  | _ => ("FoldedFamily$Text", "length", "I", false)
def t_Tx : Nat → FieldType := fun k => match k with
  | 0 => .array .int
  | _ => .int
theorem n_Tx : ∀ a, a < 2 → ∀ b, b < 2 → a ≠ b → (F_Tx a).2.1 ≠ (F_Tx b).2.1 := by decide +kernel
theorem t_Tx_ok : ∀ k, k < 2 → parseFieldDescriptor (F_Tx k).2.2.1 = some (t_Tx k) := by decide +kernel
theorem iw_Tx : ∀ w ∈ u_ws R_Tx F_Tx 2, w ∈ gw := by decide +kernel
abbrev R_Va : String := "FoldedFamily$Values"
def F_Va : u_T := fun k => match k with
  | 0 => ("FoldedFamily$Values", "grammar", "LFoldedFamily$Grammar;", true)
  | 1 => ("FoldedFamily$Values", "text", "LFoldedFamily$Text;", true)
  | 2 => ("FoldedFamily$Values", "scores", "[I", true)
  | _ => ("FoldedFamily$Values", "knownEnds", "I", false)
def t_Va : Nat → FieldType := fun k => match k with
  | 0 => .object "FoldedFamily$Grammar"
  | 1 => .object "FoldedFamily$Text"
  | 2 => .array .int
  | _ => .int
theorem n_Va : ∀ a, a < 4 → ∀ b, b < 4 → a ≠ b → (F_Va a).2.1 ≠ (F_Va b).2.1 := by decide +kernel
theorem t_Va_ok : ∀ k, k < 4 → parseFieldDescriptor (F_Va k).2.2.1 = some (t_Va k) := by decide +kernel
theorem iw_Va : ∀ w ∈ u_ws R_Va F_Va 4, w ∈ gw := by decide +kernel
abbrev R_Hi : String := "FoldedFamily$Hits"
def F_Hi : u_T := fun k => match k with
  | 0 => ("FoldedFamily$Hits", "begins", "[I", true)
  | 1 => ("FoldedFamily$Hits", "lengths", "[I", true)
  | 2 => ("FoldedFamily$Hits", "scores", "[I", true)
  | 3 => ("FoldedFamily$Hits", "taken", "[Z", true)
  | _ => ("FoldedFamily$Hits", "count", "I", false)
def t_Hi : Nat → FieldType := fun k => match k with
  | 0 => .array .int
  | 1 => .array .int
  | 2 => .array .int
  | 3 => .array .boolean
  | _ => .int
theorem n_Hi : ∀ a, a < 5 → ∀ b, b < 5 → a ≠ b → (F_Hi a).2.1 ≠ (F_Hi b).2.1 := by decide +kernel
theorem t_Hi_ok : ∀ k, k < 5 → parseFieldDescriptor (F_Hi k).2.2.1 = some (t_Hi k) := by decide +kernel
theorem iw_Hi : ∀ w ∈ u_ws R_Hi F_Hi 5, w ∈ gw := by decide +kernel
abbrev R_De : String := "FoldedFamily$Derivation"
def F_De : u_T := fun k => match k with
  | 0 => ("FoldedFamily$Derivation", "states", "[I", true)
  | 1 => ("FoldedFamily$Derivation", "begins", "[I", true)
  | 2 => ("FoldedFamily$Derivation", "lengths", "[I", true)
  | _ => ("FoldedFamily$Derivation", "length", "I", false)
def t_De : Nat → FieldType := fun k => match k with
  | 0 => .array .int
  | 1 => .array .int
  | 2 => .array .int
  | _ => .int
theorem n_De : ∀ a, a < 4 → ∀ b, b < 4 → a ≠ b → (F_De a).2.1 ≠ (F_De b).2.1 := by decide +kernel
theorem t_De_ok : ∀ k, k < 4 → parseFieldDescriptor (F_De k).2.2.1 = some (t_De k) := by decide +kernel
theorem iw_De : ∀ w ∈ u_ws R_De F_De 4, w ∈ gw := by decide +kernel
abbrev R_Mo : String := "FoldedFamilyModel"
def F_Mo : u_T := fun k => match k with
  | 0 => ("FoldedFamilyModel", "rows", "I", true)
  | 1 => ("FoldedFamilyModel", "columns", "I", false)
  | 2 => ("FoldedFamilyModel", "marks", "[I", true)
  | 3 => ("FoldedFamilyModel", "letters", "[I", true)
  | 4 => ("FoldedFamilyModel", "mate", "[I", true)
  | 5 => ("FoldedFamilyModel", "made", "Z", false)
  | 6 => ("FoldedFamilyModel", "nodes", "I", false)
  | 7 => ("FoldedFamilyModel", "sort", "[I", true)
  | 8 => ("FoldedFamilyModel", "from", "[I", true)
  | 9 => ("FoldedFamilyModel", "to", "[I", true)
  | 10 => ("FoldedFamilyModel", "begin", "[I", true)
  | 11 => ("FoldedFamilyModel", "other", "[I", true)
  | 12 => ("FoldedFamilyModel", "states", "I", false)
  | 13 => ("FoldedFamilyModel", "kinds", "[I", true)
  | 14 => ("FoldedFamilyModel", "nodeOf", "[I", true)
  | 15 => ("FoldedFamilyModel", "steps", "[I", true)
  | 16 => ("FoldedFamilyModel", "emissions", "[I", true)
  | 17 => ("FoldedFamilyModel", "length", "I", false)
  | 18 => ("FoldedFamilyModel", "text", "[I", true)
  | 19 => ("FoldedFamilyModel", "worked", "Z", false)
  | 20 => ("FoldedFamilyModel", "values", "[I", true)
  | 21 => ("FoldedFamilyModel", "hits", "I", false)
  | 22 => ("FoldedFamilyModel", "hitAt", "[I", true)
  | 23 => ("FoldedFamilyModel", "hitLength", "[I", true)
  | 24 => ("FoldedFamilyModel", "written", "I", false)
  | 25 => ("FoldedFamilyModel", "listState", "[I", true)
  | 26 => ("FoldedFamilyModel", "listAt", "[I", true)
  | 27 => ("FoldedFamilyModel", "listLength", "[I", true)
  | _ => ("FoldedFamilyModel", "stack", "[I", true)
def t_Mo : Nat → FieldType := fun k => match k with
  | 0 => .int
  | 1 => .int
  | 2 => .array .int
  | 3 => .array .int
  | 4 => .array .int
  | 5 => .boolean
  | 6 => .int
  | 7 => .array .int
  | 8 => .array .int
  | 9 => .array .int
  | 10 => .array .int
  | 11 => .array .int
  | 12 => .int
  | 13 => .array .int
  | 14 => .array .int
  | 15 => .array .int
  | 16 => .array .int
  | 17 => .int
  | 18 => .array .int
  | 19 => .boolean
  | 20 => .array .int
  | 21 => .int
  | 22 => .array .int
  | 23 => .array .int
  | 24 => .int
  | 25 => .array .int
  | 26 => .array .int
  | 27 => .array .int
  | _ => .array .int
theorem n_Mo : ∀ a, a < 29 → ∀ b, b < 29 → a ≠ b → (F_Mo a).2.1 ≠ (F_Mo b).2.1 := by decide +kernel
theorem t_Mo_ok : ∀ k, k < 29 → parseFieldDescriptor (F_Mo k).2.2.1 = some (t_Mo k) := by decide +kernel
theorem iw_Mo : ∀ w ∈ u_ws R_Mo F_Mo 29, w ∈ gw := by decide +kernel
abbrev R_Ig : String := "java/lang/Integer"
abbrev R_La : String := "FoldedFamilyLaw"
abbrev classes : List vw_C := [(R_Fa, F_Fa, 7), (R_Co, F_Co, 6), (R_Tr, F_Tr, 6), (R_Gr, F_Gr, 11), (R_Tx, F_Tx, 2), (R_Va, F_Va, 4), (R_Hi, F_Hi, 5), (R_De, F_De, 4), (R_Mo, F_Mo, 29)]
abbrev tys3 (ty : Nat → ClassId) : List (ClassId × FieldType) := [(ty 0, .int), (ty 1, .char), (ty 2, .boolean)]
def wX (ty : Nat → ClassId) (ad : Nat → Nat) (co_rows : Int32) (co_marks : Nat → Int32) (co_rowSets : Nat → Int32) (co_partners : Nat → Int32) (co_open : Nat → Int32) (co_count : Int32) (tr_kinds : Nat → Int32) (tr_lefts : Nat → Int32) (tr_rights : Nat → Int32) (tr_seconds : Nat → Int32) (tr_size : Int32) (gr_kinds : Nat → Int32) (gr_nodes : Nat → Int32) (gr_rowSets : Nat → Int32) (gr_firstStates : Nat → Int32) (gr_targetCounts : Nat → Int32) (gr_targets : Nat → Int32) (gr_stepScores : Nat → Int32) (gr_letterScores : Nat → Int32) (gr_size : Int32) (tx_letters : Nat → Int32) (tx_length : Int32) (va_scores : Nat → Int32) (va_knownEnds : Int32) (hi_begins : Nat → Int32) (hi_lengths : Nat → Int32) (hi_scores : Nat → Int32) (hi_taken : Nat → Int32) (hi_count : Int32) (de_states : Nat → Int32) (de_begins : Nat → Int32) (de_lengths : Nat → Int32) (de_length : Int32) : va_W := [(ad 0, .inr (0, [.ref (ad 1), .ref (ad 6), .ref (ad 11), .ref (ad 20), .ref (ad 22), .ref (ad 24), .ref (ad 29)])), (ad 1, .inr (1, [.int co_rows, .ref (ad 2), .ref (ad 3), .ref (ad 4), .ref (ad 5), .int co_count])), (ad 2, .inl (ty 1, 8, .inl co_marks)), (ad 3, .inl (ty 0, 32, .inl co_rowSets)), (ad 4, .inl (ty 0, 8, .inl co_partners)), (ad 5, .inl (ty 0, 8, .inl co_open)), (ad 6, .inr (2, [.ref (ad 1), .ref (ad 7), .ref (ad 8), .ref (ad 9), .ref (ad 10), .int tr_size])), (ad 7, .inl (ty 0, 18, .inl tr_kinds)), (ad 8, .inl (ty 0, 18, .inl tr_lefts)), (ad 9, .inl (ty 0, 18, .inl tr_rights)), (ad 10, .inl (ty 0, 18, .inl tr_seconds)), (ad 11, .inr (3, [.ref (ad 1), .ref (ad 6), .ref (ad 12), .ref (ad 13), .ref (ad 14), .ref (ad 15), .ref (ad 16), .ref (ad 17), .ref (ad 18), .ref (ad 19), .int gr_size])), (ad 12, .inl (ty 0, 43, .inl gr_kinds)), (ad 13, .inl (ty 0, 43, .inl gr_nodes)), (ad 14, .inl (ty 0, 43, .inl gr_rowSets)), (ad 15, .inl (ty 0, 19, .inl gr_firstStates)), (ad 16, .inl (ty 0, 43, .inl gr_targetCounts)), (ad 17, .inl (ty 0, 258, .inl gr_targets)), (ad 18, .inl (ty 0, 258, .inl gr_stepScores)), (ad 19, .inl (ty 0, 688, .inl gr_letterScores)), (ad 20, .inr (4, [.ref (ad 21), .int tx_length])), (ad 21, .inl (ty 0, 24, .inl tx_letters)), (ad 22, .inr (5, [.ref (ad 11), .ref (ad 20), .ref (ad 23), .int va_knownEnds])), (ad 23, .inl (ty 0, 10621, .inl va_scores)), (ad 24, .inr (6, [.ref (ad 25), .ref (ad 26), .ref (ad 27), .ref (ad 28), .int hi_count])), (ad 25, .inl (ty 0, 24, .inl hi_begins)), (ad 26, .inl (ty 0, 24, .inl hi_lengths)), (ad 27, .inl (ty 0, 24, .inl hi_scores)), (ad 28, .inl (ty 2, 24, .inl hi_taken)), (ad 29, .inr (7, [.ref (ad 30), .ref (ad 31), .ref (ad 32), .int de_length])), (ad 30, .inl (ty 0, 30, .inl de_states)), (ad 31, .inl (ty 0, 30, .inl de_begins)), (ad 32, .inl (ty 0, 30, .inl de_lengths))]

def wY (ty : Nat → ClassId) (ad : Nat → Nat) (mo_rows : Int32) (mo_columns : Int32) (mo_marks : Nat → Int32) (mo_letters : Nat → Int32) (mo_mate : Nat → Int32) (mo_made : Int32) (mo_nodes : Int32) (mo_sort : Nat → Int32) (mo_from : Nat → Int32) (mo_to : Nat → Int32) (mo_begin : Nat → Int32) (mo_other : Nat → Int32) (mo_states : Int32) (mo_kinds : Nat → Int32) (mo_nodeOf : Nat → Int32) (mo_steps : Nat → Int32) (mo_emissions : Nat → Int32) (mo_length : Int32) (mo_text : Nat → Int32) (mo_worked : Int32) (mo_values : Nat → Int32) (mo_hits : Int32) (mo_hitAt : Nat → Int32) (mo_hitLength : Nat → Int32) (mo_written : Int32) (mo_listState : Nat → Int32) (mo_listAt : Nat → Int32) (mo_listLength : Nat → Int32) (mo_stack : Nat → Int32) : va_W := [(ad 0, .inr (8, [.int mo_rows, .int mo_columns, .ref (ad 1), .ref (ad 2), .ref (ad 3), .int mo_made, .int mo_nodes, .ref (ad 4), .ref (ad 5), .ref (ad 6), .ref (ad 7), .ref (ad 8), .int mo_states, .ref (ad 9), .ref (ad 10), .ref (ad 11), .ref (ad 12), .int mo_length, .ref (ad 13), .int mo_worked, .ref (ad 14), .int mo_hits, .ref (ad 15), .ref (ad 16), .int mo_written, .ref (ad 17), .ref (ad 18), .ref (ad 19), .ref (ad 20)])), (ad 1, .inl (ty 0, 8, .inl mo_marks)), (ad 2, .inl (ty 0, 32, .inl mo_letters)), (ad 3, .inl (ty 0, 8, .inl mo_mate)), (ad 4, .inl (ty 0, 24, .inl mo_sort)), (ad 5, .inl (ty 0, 24, .inl mo_from)), (ad 6, .inl (ty 0, 24, .inl mo_to)), (ad 7, .inl (ty 0, 25, .inl mo_begin)), (ad 8, .inl (ty 0, 24, .inl mo_other)), (ad 9, .inl (ty 0, 48, .inl mo_kinds)), (ad 10, .inl (ty 0, 48, .inl mo_nodeOf)), (ad 11, .inl (ty 0, 384, .inl mo_steps)), (ad 12, .inl (ty 0, 768, .inl mo_emissions)), (ad 13, .inl (ty 0, 24, .inl mo_text)), (ad 14, .inl (ty 0, 15600, .inl mo_values)), (ad 15, .inl (ty 0, 24, .inl mo_hitAt)), (ad 16, .inl (ty 0, 24, .inl mo_hitLength)), (ad 17, .inl (ty 0, 200, .inl mo_listState)), (ad 18, .inl (ty 0, 200, .inl mo_listAt)), (ad 19, .inl (ty 0, 200, .inl mo_listLength)), (ad 20, .inl (ty 0, 300, .inl mo_stack))]

abbrev y_Fa_init : MethodName := ⟨R_Fa, "<init>", "(I)V"⟩
abbrev y_Fa_column : MethodName := ⟨R_Fa, "column", "(CI)Z"⟩
abbrev y_Fa_clear : MethodName := ⟨R_Fa, "clear", "()V"⟩
abbrev y_Fa_build : MethodName := ⟨R_Fa, "build", "()I"⟩
abbrev y_Fa_kind : MethodName := ⟨R_Fa, "kind", "(I)I"⟩
abbrev y_Fa_node : MethodName := ⟨R_Fa, "node", "(I)I"⟩
abbrev y_Fa_target : MethodName := ⟨R_Fa, "target", "(II)I"⟩
abbrev y_Fa_step : MethodName := ⟨R_Fa, "step", "(II)I"⟩
abbrev y_Fa_emits : MethodName := ⟨R_Fa, "emits", "(III)I"⟩
abbrev y_Fa_feed : MethodName := ⟨R_Fa, "feed", "(II)I"⟩
abbrev y_Fa_erase : MethodName := ⟨R_Fa, "erase", "()V"⟩
abbrev y_Fa_value : MethodName := ⟨R_Fa, "value", "(III)I"⟩
abbrev y_Fa_scan : MethodName := ⟨R_Fa, "scan", "(II)I"⟩
abbrev y_Fa_hit : MethodName := ⟨R_Fa, "hit", "(II)I"⟩
abbrev y_Fa_derived : MethodName := ⟨R_Fa, "derived", "(III)I"⟩
abbrev y_Fa_dropGrammar : MethodName := ⟨R_Fa, "dropGrammar", "()V"⟩
abbrev y_Fa_isMark : MethodName := ⟨R_Fa, "isMark", "(C)Z"⟩
abbrev y_Fa_isLetter : MethodName := ⟨R_Fa, "isLetter", "(I)Z"⟩
abbrev y_Fa_isInsert : MethodName := ⟨R_Fa, "isInsert", "(I)Z"⟩
abbrev y_Fa_lettersBefore : MethodName := ⟨R_Fa, "lettersBefore", "(I)I"⟩
abbrev y_Fa_lettersBehind : MethodName := ⟨R_Fa, "lettersBehind", "(I)I"⟩
abbrev y_Fa_lettersOf : MethodName := ⟨R_Fa, "lettersOf", "(I)I"⟩
abbrev y_Fa_statesOf : MethodName := ⟨R_Fa, "statesOf", "(I)[I"⟩
abbrev y_Fa_log : MethodName := ⟨R_Fa, "log", "(II)I"⟩
abbrev y_Fa_eighthPower : MethodName := ⟨R_Fa, "eighthPower", "(I)J"⟩
abbrev y_Mo_init : MethodName := ⟨R_Mo, "<init>", "(I)V"⟩
abbrev y_Mo_changed : MethodName := ⟨R_Mo, "changed", "()V"⟩
abbrev y_Mo_column : MethodName := ⟨R_Mo, "column", "(CI)Z"⟩
abbrev y_Mo_clear : MethodName := ⟨R_Mo, "clear", "()V"⟩
abbrev y_Mo_pair : MethodName := ⟨R_Mo, "pair", "()Z"⟩
abbrev y_Mo_node3 : MethodName := ⟨R_Mo, "node", "(III)I"⟩
abbrev y_Mo_push : MethodName := ⟨R_Mo, "push", "(IIII)I"⟩
abbrev y_Mo_plant : MethodName := ⟨R_Mo, "plant", "()V"⟩
abbrev y_Mo_state : MethodName := ⟨R_Mo, "state", "(II)V"⟩
abbrev y_Mo_settle : MethodName := ⟨R_Mo, "settle", "()V"⟩
abbrev y_Mo_inserts : MethodName := ⟨R_Mo, "inserts", "(I)Z"⟩
abbrev y_Mo_targetOf : MethodName := ⟨R_Mo, "targetOf", "(II)I"⟩
abbrev y_Mo_eighth : MethodName := ⟨R_Mo, "eighth", "(I)J"⟩
abbrev y_Mo_log : MethodName := ⟨R_Mo, "log", "(II)I"⟩
abbrev y_Mo_kindAt : MethodName := ⟨R_Mo, "kindAt", "(II)I"⟩
abbrev y_Mo_rowsIn : MethodName := ⟨R_Mo, "rowsIn", "(I)I"⟩
abbrev y_Mo_rowsFrom : MethodName := ⟨R_Mo, "rowsFrom", "(II)I"⟩
abbrev y_Mo_scoreSteps : MethodName := ⟨R_Mo, "scoreSteps", "(I)V"⟩
abbrev y_Mo_scoreLetters : MethodName := ⟨R_Mo, "scoreLetters", "(I)V"⟩
abbrev y_Mo_build : MethodName := ⟨R_Mo, "build", "()I"⟩
abbrev y_Mo_isState : MethodName := ⟨R_Mo, "isState", "(I)Z"⟩
abbrev y_Mo_kind : MethodName := ⟨R_Mo, "kind", "(I)I"⟩
abbrev y_Mo_node1 : MethodName := ⟨R_Mo, "node", "(I)I"⟩
abbrev y_Mo_target : MethodName := ⟨R_Mo, "target", "(II)I"⟩
abbrev y_Mo_step : MethodName := ⟨R_Mo, "step", "(II)I"⟩
abbrev y_Mo_isLetter : MethodName := ⟨R_Mo, "isLetter", "(I)Z"⟩
abbrev y_Mo_emits : MethodName := ⟨R_Mo, "emits", "(III)I"⟩
abbrev y_Mo_feed : MethodName := ⟨R_Mo, "feed", "(II)I"⟩
abbrev y_Mo_erase : MethodName := ⟨R_Mo, "erase", "()V"⟩
abbrev y_Mo_cell : MethodName := ⟨R_Mo, "cell", "(III)I"⟩
abbrev y_Mo_emitsLeft : MethodName := ⟨R_Mo, "emitsLeft", "(I)Z"⟩
abbrev y_Mo_emitsRight : MethodName := ⟨R_Mo, "emitsRight", "(I)Z"⟩
abbrev y_Mo_letterScore : MethodName := ⟨R_Mo, "letterScore", "(III)I"⟩
abbrev y_Mo_by : MethodName := ⟨R_Mo, "by", "(IIII)I"⟩
abbrev y_Mo_bySplit : MethodName := ⟨R_Mo, "bySplit", "(IIII)I"⟩
abbrev y_Mo_better : MethodName := ⟨R_Mo, "better", "(III)I"⟩
abbrev y_Mo_work : MethodName := ⟨R_Mo, "work", "()V"⟩
abbrev y_Mo_value : MethodName := ⟨R_Mo, "value", "(III)I"⟩
abbrev y_Mo_free : MethodName := ⟨R_Mo, "free", "(II)Z"⟩
abbrev y_Mo_scan : MethodName := ⟨R_Mo, "scan", "(II)I"⟩
abbrev y_Mo_write : MethodName := ⟨R_Mo, "write", "(I)V"⟩
abbrev y_Mo_hit : MethodName := ⟨R_Mo, "hit", "(II)I"⟩
abbrev y_Mo_derived : MethodName := ⟨R_Mo, "derived", "(III)I"⟩
abbrev y_Co_init : MethodName := ⟨R_Co, "<init>", "(I)V"⟩
abbrev y_Co_count : MethodName := ⟨R_Co, "count", "()I"⟩
abbrev y_Co_isFull : MethodName := ⟨R_Co, "isFull", "()Z"⟩
abbrev y_Co_add : MethodName := ⟨R_Co, "add", "(CI)V"⟩
abbrev y_Co_removeAll : MethodName := ⟨R_Co, "removeAll", "()V"⟩
abbrev y_Co_pairUp : MethodName := ⟨R_Co, "pairUp", "()Z"⟩
abbrev y_Co_isPaired : MethodName := ⟨R_Co, "isPaired", "(I)Z"⟩
abbrev y_Co_partner : MethodName := ⟨R_Co, "partner", "(I)I"⟩
abbrev y_Co_allRows : MethodName := ⟨R_Co, "allRows", "()I"⟩
abbrev y_Co_rowsWith : MethodName := ⟨R_Co, "rowsWith", "(II)I"⟩
abbrev y_Co_rowsWithAny : MethodName := ⟨R_Co, "rowsWithAny", "(I)I"⟩
abbrev y_De_init : MethodName := ⟨R_De, "<init>", "()V"⟩
abbrev y_De_length : MethodName := ⟨R_De, "length", "()I"⟩
abbrev y_De_state : MethodName := ⟨R_De, "state", "(I)I"⟩
abbrev y_De_begin : MethodName := ⟨R_De, "begin", "(I)I"⟩
abbrev y_De_letters : MethodName := ⟨R_De, "letters", "(I)I"⟩
abbrev y_De_write : MethodName := ⟨R_De, "write", "(LFoldedFamily$Values;II)V"⟩
abbrev y_De_writeFrom : MethodName := ⟨R_De, "writeFrom", "(LFoldedFamily$Values;III)V"⟩
abbrev y_De_writeParts : MethodName := ⟨R_De, "writeParts", "(LFoldedFamily$Values;III)V"⟩
abbrev y_De_writeRest : MethodName := ⟨R_De, "writeRest", "(LFoldedFamily$Values;III)V"⟩
abbrev y_De_note : MethodName := ⟨R_De, "note", "(III)V"⟩
abbrev y_Gr_init : MethodName := ⟨R_Gr, "<init>", "(LFoldedFamily$Columns;LFoldedFamily$Tree;)V"⟩
abbrev y_Gr_size : MethodName := ⟨R_Gr, "size", "()I"⟩
abbrev y_Gr_forget : MethodName := ⟨R_Gr, "forget", "()V"⟩
abbrev y_Gr_hasState : MethodName := ⟨R_Gr, "hasState", "(I)Z"⟩
abbrev y_Gr_kindOf : MethodName := ⟨R_Gr, "kindOf", "(I)I"⟩
abbrev y_Gr_nodeOf : MethodName := ⟨R_Gr, "nodeOf", "(I)I"⟩
abbrev y_Gr_hasTarget : MethodName := ⟨R_Gr, "hasTarget", "(II)Z"⟩
abbrev y_Gr_targetCount : MethodName := ⟨R_Gr, "targetCount", "(I)I"⟩
abbrev y_Gr_targetOf : MethodName := ⟨R_Gr, "targetOf", "(II)I"⟩
abbrev y_Gr_stepScore : MethodName := ⟨R_Gr, "stepScore", "(II)I"⟩
abbrev y_Gr_letterScore : MethodName := ⟨R_Gr, "letterScore", "(III)I"⟩
abbrev y_Gr_make : MethodName := ⟨R_Gr, "make", "()V"⟩
abbrev y_Gr_layStates : MethodName := ⟨R_Gr, "layStates", "()V"⟩
abbrev y_Gr_rowsIn : MethodName := ⟨R_Gr, "rowsIn", "(II)I"⟩
abbrev y_Gr_addTargets : MethodName := ⟨R_Gr, "addTargets", "(I)V"⟩
abbrev y_Gr_addStates : MethodName := ⟨R_Gr, "addStates", "(IIZ)V"⟩
abbrev y_Gr_addTarget : MethodName := ⟨R_Gr, "addTarget", "(II)V"⟩
abbrev y_Gr_scoreSteps : MethodName := ⟨R_Gr, "scoreSteps", "(I)V"⟩
abbrev y_Gr_scoreLetters : MethodName := ⟨R_Gr, "scoreLetters", "(I)V"⟩
abbrev y_Gr_scoreOfLetters : MethodName := ⟨R_Gr, "scoreOfLetters", "(III)I"⟩
abbrev y_Gr_rowsWithLetters : MethodName := ⟨R_Gr, "rowsWithLetters", "(III)I"⟩
abbrev y_Hi_init : MethodName := ⟨R_Hi, "<init>", "()V"⟩
abbrev y_Hi_count : MethodName := ⟨R_Hi, "count", "()I"⟩
abbrev y_Hi_forget : MethodName := ⟨R_Hi, "forget", "()V"⟩
abbrev y_Hi_has : MethodName := ⟨R_Hi, "has", "(I)Z"⟩
abbrev y_Hi_begin : MethodName := ⟨R_Hi, "begin", "(I)I"⟩
abbrev y_Hi_letters : MethodName := ⟨R_Hi, "letters", "(I)I"⟩
abbrev y_Hi_score : MethodName := ⟨R_Hi, "score", "(I)I"⟩
abbrev y_Hi_find : MethodName := ⟨R_Hi, "find", "(LFoldedFamily$Values;III)V"⟩
abbrev y_Hi_findNext : MethodName := ⟨R_Hi, "findNext", "(LFoldedFamily$Values;III)Z"⟩
abbrev y_Hi_freeEnd : MethodName := ⟨R_Hi, "freeEnd", "(II)I"⟩
abbrev y_Hi_note : MethodName := ⟨R_Hi, "note", "(III)V"⟩
abbrev y_Hi_takeNoted : MethodName := ⟨R_Hi, "takeNoted", "()V"⟩
abbrev y_Tx_init : MethodName := ⟨R_Tx, "<init>", "()V"⟩
abbrev y_Tx_length : MethodName := ⟨R_Tx, "length", "()I"⟩
abbrev y_Tx_room : MethodName := ⟨R_Tx, "room", "()I"⟩
abbrev y_Tx_letter : MethodName := ⟨R_Tx, "letter", "(I)I"⟩
abbrev y_Tx_hasPart : MethodName := ⟨R_Tx, "hasPart", "(II)Z"⟩
abbrev y_Tx_append : MethodName := ⟨R_Tx, "append", "(II)V"⟩
abbrev y_Tx_empty : MethodName := ⟨R_Tx, "empty", "()V"⟩
abbrev y_Tr_init : MethodName := ⟨R_Tr, "<init>", "(LFoldedFamily$Columns;)V"⟩
abbrev y_Tr_size : MethodName := ⟨R_Tr, "size", "()I"⟩
abbrev y_Tr_kindOf : MethodName := ⟨R_Tr, "kindOf", "(I)I"⟩
abbrev y_Tr_left : MethodName := ⟨R_Tr, "left", "(I)I"⟩
abbrev y_Tr_right : MethodName := ⟨R_Tr, "right", "(I)I"⟩
abbrev y_Tr_second : MethodName := ⟨R_Tr, "second", "(I)I"⟩
abbrev y_Tr_grow : MethodName := ⟨R_Tr, "grow", "()V"⟩
abbrev y_Tr_growPart : MethodName := ⟨R_Tr, "growPart", "(III)V"⟩
abbrev y_Tr_growFork : MethodName := ⟨R_Tr, "growFork", "(III)V"⟩
abbrev y_Tr_add : MethodName := ⟨R_Tr, "add", "(III)V"⟩
abbrev y_Va_init : MethodName := ⟨R_Va, "<init>", "(LFoldedFamily$Grammar;LFoldedFamily$Text;)V"⟩
abbrev y_Va_grammar : MethodName := ⟨R_Va, "grammar", "()LFoldedFamily$Grammar;"⟩
abbrev y_Va_forget : MethodName := ⟨R_Va, "forget", "()V"⟩
abbrev y_Va_catchUp : MethodName := ⟨R_Va, "catchUp", "()V"⟩
abbrev y_Va_of : MethodName := ⟨R_Va, "of", "(III)I"⟩
abbrev y_Va_bestTarget : MethodName := ⟨R_Va, "bestTarget", "(III)I"⟩
abbrev y_Va_bestSplit : MethodName := ⟨R_Va, "bestSplit", "(III)I"⟩
abbrev y_Va_reckon : MethodName := ⟨R_Va, "reckon", "(III)I"⟩
abbrev y_Va_greatestOfSplits : MethodName := ⟨R_Va, "greatestOfSplits", "(III)I"⟩
abbrev y_Va_greatestOfTargets : MethodName := ⟨R_Va, "greatestOfTargets", "(III)I"⟩
abbrev y_Va_throughSplit : MethodName := ⟨R_Va, "throughSplit", "(IIII)I"⟩
abbrev y_Va_throughTarget : MethodName := ⟨R_Va, "throughTarget", "(IIII)I"⟩
abbrev y_Va_emitted : MethodName := ⟨R_Va, "emitted", "(III)I"⟩
abbrev y_Va_place : MethodName := ⟨R_Va, "place", "(III)I"⟩
abbrev y_La_cell : MethodName := ⟨R_La, "cell", "([II)I"⟩
abbrev y_Ig_bitCount : MethodName := ⟨R_Ig, "bitCount", "(I)I"⟩
def rm_Fa_isMark : Room := { frames := 0, cells := 0, slots := 0, locals := 0 }
def rm_Co_isFull : Room := { frames := 0, cells := 0, slots := 0, locals := 0 }
def rm_Fa_isLetter : Room := { frames := 0, cells := 0, slots := 0, locals := 0 }
def rm_Co_add : Room := { frames := 1, cells := 0, slots := 0, locals := 20 }
def rm_Gr_forget : Room := { frames := 0, cells := 0, slots := 0, locals := 0 }
def rm_Hi_forget : Room := { frames := 0, cells := 0, slots := 0, locals := 0 }
def rm_Fa_dropGrammar : Room := { frames := 1, cells := 0, slots := 0, locals := 20 }
def rm_Fa_column : Room := { frames := 2, cells := 0, slots := 0, locals := 44 }
def rm_Co_removeAll : Room := { frames := 0, cells := 0, slots := 0, locals := 0 }
def rm_Fa_clear : Room := { frames := 2, cells := 0, slots := 0, locals := 40 }
def rm_Co_pairUp : Room := { frames := 0, cells := 0, slots := 0, locals := 0 }
def rm_Tr_add : Room := { frames := 0, cells := 0, slots := 0, locals := 0 }
def rm_Co_count : Room := { frames := 0, cells := 0, slots := 0, locals := 0 }
def rm_Co_partner : Room := { frames := 0, cells := 0, slots := 0, locals := 0 }
def rm_Co_isPaired : Room := { frames := 0, cells := 0, slots := 0, locals := 0 }
def rm_Tr_growFork (d : Nat) : Room := { frames := 2 * d + 4, cells := 0, slots := 0, locals := 48 * d + 146 }
def rm_Tr_growPart (d : Nat) : Room := { frames := 2 * d + 3, cells := 0, slots := 0, locals := 48 * d + 123 }
def rm_Tr_grow : Room := { frames := 28, cells := 0, slots := 0, locals := 722 }
def rm_Tr_size : Room := { frames := 0, cells := 0, slots := 0, locals := 0 }
def rm_Tr_kindOf : Room := { frames := 0, cells := 0, slots := 0, locals := 0 }
def rm_Fa_statesOf : Room := { frames := 0, cells := 0, slots := 0, locals := 0 }
def rm_Co_allRows : Room := { frames := 0, cells := 0, slots := 0, locals := 0 }
def rm_Tr_left : Room := { frames := 0, cells := 0, slots := 0, locals := 0 }
def rm_Co_rowsWith : Room := { frames := 0, cells := 0, slots := 0, locals := 0 }
def rm_Co_rowsWithAny : Room := { frames := 1, cells := 0, slots := 0, locals := 22 }
def rm_Tr_right : Room := { frames := 0, cells := 0, slots := 0, locals := 0 }
def rm_Gr_rowsIn : Room := { frames := 2, cells := 0, slots := 0, locals := 45 }
def rm_Gr_layStates : Room := { frames := 3, cells := 0, slots := 0, locals := 70 }
def rm_Fa_isInsert : Room := { frames := 0, cells := 0, slots := 0, locals := 0 }
def rm_Gr_addTarget : Room := { frames := 0, cells := 0, slots := 0, locals := 0 }
def rm_Gr_addStates : Room := { frames := 1, cells := 0, slots := 0, locals := 22 }
def rm_Tr_second : Room := { frames := 0, cells := 0, slots := 0, locals := 0 }
def rm_Gr_addTargets : Room := { frames := 2, cells := 0, slots := 0, locals := 46 }
def rm_Ig_bitCount : Room := { frames := 0, cells := 0, slots := 0, locals := 0 }
def rm_Gr_targetOf : Room := { frames := 0, cells := 0, slots := 0, locals := 0 }
def rm_Fa_eighthPower : Room := { frames := 0, cells := 0, slots := 0, locals := 0 }
def rm_Fa_log : Room := { frames := 1, cells := 0, slots := 0, locals := 24 }
def rm_Gr_scoreSteps : Room := { frames := 2, cells := 0, slots := 0, locals := 50 }
def rm_Fa_lettersBefore : Room := { frames := 0, cells := 0, slots := 0, locals := 0 }
def rm_Fa_lettersBehind : Room := { frames := 0, cells := 0, slots := 0, locals := 0 }
def rm_Fa_lettersOf : Room := { frames := 1, cells := 0, slots := 0, locals := 20 }
def rm_Gr_rowsWithLetters : Room := { frames := 1, cells := 0, slots := 0, locals := 22 }
def rm_Gr_scoreOfLetters : Room := { frames := 2, cells := 0, slots := 0, locals := 50 }
def rm_Gr_scoreLetters : Room := { frames := 3, cells := 0, slots := 0, locals := 75 }
def rm_Gr_make : Room := { frames := 4, cells := 0, slots := 0, locals := 99 }
def rm_Va_forget : Room := { frames := 0, cells := 0, slots := 0, locals := 0 }
def rm_Gr_size : Room := { frames := 0, cells := 0, slots := 0, locals := 0 }
def rm_Fa_build : Room := { frames := 29, cells := 0, slots := 0, locals := 742 }
def rm_Gr_hasState : Room := { frames := 0, cells := 0, slots := 0, locals := 0 }
def rm_Gr_kindOf : Room := { frames := 0, cells := 0, slots := 0, locals := 0 }
def rm_Fa_kind : Room := { frames := 1, cells := 0, slots := 0, locals := 21 }
def rm_Gr_nodeOf : Room := { frames := 0, cells := 0, slots := 0, locals := 0 }
def rm_Fa_node : Room := { frames := 1, cells := 0, slots := 0, locals := 21 }
def rm_Gr_hasTarget : Room := { frames := 1, cells := 0, slots := 0, locals := 21 }
def rm_Fa_target : Room := { frames := 2, cells := 0, slots := 0, locals := 43 }
def rm_Gr_stepScore : Room := { frames := 0, cells := 0, slots := 0, locals := 0 }
def rm_Fa_step : Room := { frames := 2, cells := 0, slots := 0, locals := 43 }
def rm_Gr_letterScore : Room := { frames := 0, cells := 0, slots := 0, locals := 0 }
def rm_Fa_emits : Room := { frames := 2, cells := 0, slots := 0, locals := 40 }
def rm_Tx_room : Room := { frames := 0, cells := 0, slots := 0, locals := 0 }
def rm_Tx_append : Room := { frames := 0, cells := 0, slots := 0, locals := 0 }
def rm_Tx_length : Room := { frames := 0, cells := 0, slots := 0, locals := 0 }
def rm_Fa_feed : Room := { frames := 1, cells := 0, slots := 0, locals := 23 }
def rm_Tx_empty : Room := { frames := 0, cells := 0, slots := 0, locals := 0 }
def rm_Fa_erase : Room := { frames := 1, cells := 0, slots := 0, locals := 20 }
def rm_Tx_hasPart : Room := { frames := 0, cells := 0, slots := 0, locals := 0 }
def rm_Va_place : Room := { frames := 0, cells := 0, slots := 0, locals := 0 }
def rm_Gr_targetCount : Room := { frames := 0, cells := 0, slots := 0, locals := 0 }
def rm_Va_of : Room := { frames := 1, cells := 0, slots := 0, locals := 22 }
def rm_Va_throughTarget : Room := { frames := 2, cells := 0, slots := 0, locals := 45 }
def rm_Tx_letter : Room := { frames := 0, cells := 0, slots := 0, locals := 0 }
def rm_Va_emitted : Room := { frames := 1, cells := 0, slots := 0, locals := 23 }
def rm_Va_greatestOfTargets : Room := { frames := 3, cells := 0, slots := 0, locals := 70 }
def rm_Va_throughSplit : Room := { frames := 2, cells := 0, slots := 0, locals := 45 }
def rm_Va_greatestOfSplits : Room := { frames := 3, cells := 0, slots := 0, locals := 71 }
def rm_Va_reckon : Room := { frames := 4, cells := 0, slots := 0, locals := 98 }
def rm_Va_catchUp : Room := { frames := 5, cells := 0, slots := 0, locals := 121 }
def rm_Fa_value : Room := { frames := 6, cells := 0, slots := 0, locals := 144 }
def rm_Hi_freeEnd : Room := { frames := 0, cells := 0, slots := 0, locals := 0 }
def rm_Hi_note : Room := { frames := 0, cells := 0, slots := 0, locals := 0 }
def rm_Hi_takeNoted : Room := { frames := 0, cells := 0, slots := 0, locals := 0 }
def rm_Hi_findNext : Room := { frames := 2, cells := 0, slots := 0, locals := 45 }
def rm_Hi_find : Room := { frames := 3, cells := 0, slots := 0, locals := 74 }
def rm_Hi_count : Room := { frames := 0, cells := 0, slots := 0, locals := 0 }
def rm_Fa_scan : Room := { frames := 6, cells := 0, slots := 0, locals := 144 }
def rm_Hi_has : Room := { frames := 0, cells := 0, slots := 0, locals := 0 }
def rm_Hi_begin : Room := { frames := 0, cells := 0, slots := 0, locals := 0 }
def rm_Hi_letters : Room := { frames := 0, cells := 0, slots := 0, locals := 0 }
def rm_Va_bestSplit : Room := { frames := 3, cells := 0, slots := 0, locals := 71 }
def rm_Va_grammar : Room := { frames := 0, cells := 0, slots := 0, locals := 0 }
def rm_Va_bestTarget : Room := { frames := 3, cells := 0, slots := 0, locals := 70 }
def rm_De_note : Room := { frames := 0, cells := 0, slots := 0, locals := 0 }
def rm_De_writeParts (d : Nat) : Room := { frames := 2 * d + 7, cells := 0, slots := 0, locals := 52 * d + 221 }
def rm_De_writeRest (d : Nat) : Room := { frames := 2 * d + 7, cells := 0, slots := 0, locals := 52 * d + 221 }
def rm_De_writeFrom (d : Nat) : Room := { frames := 2 * d + 6, cells := 0, slots := 0, locals := 52 * d + 196 }
def rm_De_write : Room := { frames := 87, cells := 0, slots := 0, locals := 2301 }
def rm_De_length : Room := { frames := 0, cells := 0, slots := 0, locals := 0 }
def rm_Hi_score : Room := { frames := 0, cells := 0, slots := 0, locals := 0 }
def rm_Fa_hit : Room := { frames := 88, cells := 0, slots := 0, locals := 2324 }
def rm_De_state : Room := { frames := 0, cells := 0, slots := 0, locals := 0 }
def rm_De_letters : Room := { frames := 0, cells := 0, slots := 0, locals := 0 }
def rm_De_begin : Room := { frames := 0, cells := 0, slots := 0, locals := 0 }
def rm_Fa_derived : Room := { frames := 88, cells := 0, slots := 0, locals := 2324 }
def rm_Mo_changed : Room := { frames := 0, cells := 0, slots := 0, locals := 0 }
def rm_Mo_column : Room := { frames := 1, cells := 0, slots := 0, locals := 20 }
def rm_Mo_clear : Room := { frames := 1, cells := 0, slots := 0, locals := 20 }
def rm_Mo_pair : Room := { frames := 0, cells := 0, slots := 0, locals := 0 }
def rm_Mo_node3 : Room := { frames := 0, cells := 0, slots := 0, locals := 0 }
def rm_Mo_push : Room := { frames := 0, cells := 0, slots := 0, locals := 0 }
def rm_Mo_plant : Room := { frames := 1, cells := 0, slots := 0, locals := 24 }
def rm_Mo_state : Room := { frames := 0, cells := 0, slots := 0, locals := 0 }
def rm_Mo_settle : Room := { frames := 1, cells := 0, slots := 0, locals := 22 }
def rm_Mo_inserts : Room := { frames := 0, cells := 0, slots := 0, locals := 0 }
def rm_Mo_targetOf : Room := { frames := 1, cells := 0, slots := 0, locals := 20 }
def rm_Mo_eighth : Room := { frames := 0, cells := 0, slots := 0, locals := 0 }
def rm_Mo_log : Room := { frames := 1, cells := 0, slots := 0, locals := 23 }
def rm_Mo_kindAt : Room := { frames := 0, cells := 0, slots := 0, locals := 0 }
def rm_Mo_rowsIn : Room := { frames := 1, cells := 0, slots := 0, locals := 25 }
def rm_Mo_rowsFrom : Room := { frames := 1, cells := 0, slots := 0, locals := 25 }
def rm_Mo_scoreSteps : Room := { frames := 2, cells := 0, slots := 0, locals := 49 }
def rm_Mo_scoreLetters : Room := { frames := 2, cells := 0, slots := 0, locals := 49 }
def rm_Mo_build : Room := { frames := 3, cells := 0, slots := 0, locals := 78 }
def rm_Mo_isState : Room := { frames := 0, cells := 0, slots := 0, locals := 0 }
def rm_Mo_kind : Room := { frames := 1, cells := 0, slots := 0, locals := 21 }
def rm_Mo_node1 : Room := { frames := 1, cells := 0, slots := 0, locals := 21 }
def rm_Mo_target : Room := { frames := 2, cells := 0, slots := 0, locals := 48 }
def rm_Mo_step : Room := { frames := 2, cells := 0, slots := 0, locals := 48 }
def rm_Mo_isLetter : Room := { frames := 0, cells := 0, slots := 0, locals := 0 }
def rm_Mo_emits : Room := { frames := 1, cells := 0, slots := 0, locals := 21 }
def rm_Mo_feed : Room := { frames := 0, cells := 0, slots := 0, locals := 0 }
def rm_Mo_erase : Room := { frames := 0, cells := 0, slots := 0, locals := 0 }
def rm_Mo_cell : Room := { frames := 0, cells := 0, slots := 0, locals := 0 }
def rm_Mo_emitsLeft : Room := { frames := 0, cells := 0, slots := 0, locals := 0 }
def rm_Mo_emitsRight : Room := { frames := 0, cells := 0, slots := 0, locals := 0 }
def rm_Mo_letterScore : Room := { frames := 1, cells := 0, slots := 0, locals := 20 }
def rm_Mo_by : Room := { frames := 2, cells := 0, slots := 0, locals := 48 }
def rm_Mo_bySplit : Room := { frames := 2, cells := 0, slots := 0, locals := 48 }
def rm_Mo_better : Room := { frames := 3, cells := 0, slots := 0, locals := 77 }
def rm_Mo_work : Room := { frames := 4, cells := 0, slots := 0, locals := 103 }
def rm_Mo_value : Room := { frames := 5, cells := 0, slots := 0, locals := 128 }
def rm_Mo_free : Room := { frames := 0, cells := 0, slots := 0, locals := 0 }
def rm_Mo_scan : Room := { frames := 5, cells := 0, slots := 0, locals := 128 }
def rm_Mo_write : Room := { frames := 3, cells := 0, slots := 0, locals := 77 }
def rm_Mo_hit : Room := { frames := 4, cells := 0, slots := 0, locals := 106 }
def rm_Mo_derived : Room := { frames := 4, cells := 0, slots := 0, locals := 106 }
